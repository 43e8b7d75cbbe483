-- ===== laid by wip/whole/gen.py out of the decode rows =====
set_option maxHeartbeats 4000000 in
set_option maxRecDepth 100000 in
/-- effective -/
theorem c_X1_effective (l : Launch) (G : GG) (a : AD) (κ : KP) (σ : St) (hI : SI σ) (hC : CI κ σ) (en wh kd : Int32) (dy : Int64) : WrI l yX1_effective wsX1_effective (rmX 5 180 0 0) G [.ref a.1, .int en, .int wh, .int kd, .long dy] (WC G a κ σ) (fun (r : Int32) (u : ((Nat → Int32) × (Nat → Int32))) => r = (fEff σ en wh kd dy).1 ∧ CI (kPR κ u.1 u.2) (fEff σ en wh kd dy).2) (fun u : ((Nat → Int32) × (Nat → Int32)) => WC G a (kPR κ u.1 u.2) (fEff σ en wh kd dy).2) 0 0 := by
  refine wr_of_i (cc := cX1_effective) (maxL := 10) (t := .int) (by decide +kernel) rfl (Nat.le_of_ble_eq_true rfl) nar_int ?_
  intro p e s m args below meth c Q A hx hb hml hown hts hK hZ hA hret ls hl hP hD hS
  have hown : s.vm.findClass RX1 = some m.cls := hown
  have hl : lv_has ls 10 [(0, .ref a.1), (1, .int en), (2, .int wh), (3, .int kd), (4, .long dy)] := hl
  have hP : va_P G.1 vwCl (CW G a (nI (sG σ).length) (sT σ) (sR σ) κ.2.2.2.2.2.1 κ.2.2.2.2.2.2 (pO κ.2.2.2.2.1 (sO σ) (sN σ)) (LW G a.2.1 κ.1 κ.2.1 κ.2.2.1 κ.2.2.2.1 (sN σ))) s.heap := hP
  have hD : va_D A (CW G a (nI (sG σ).length) (sT σ) (sR σ) κ.2.2.2.2.2.1 κ.2.2.2.2.2.2 (pO κ.2.2.2.2.1 (sO σ) (sN σ)) (LW G a.2.1 κ.1 κ.2.1 κ.2.2.1 κ.2.2.2.1 (sN σ))) := hD
  obtain ⟨hI1, hI2, hI3, hI4, hI5⟩ := id hI
  have cw42 := va_cwS (R := (rmX 5 180 0 0)) (s := s) (args := args) (rm := (rmX 0 0 0 0)) (mc := 0) (ms := 0) 1 hts gX1_effective_X1_isAddress rfl rfl rfl (by decide +kernel) ⟨Nat.le_of_ble_eq_true rfl, Nat.le_of_ble_eq_true rfl⟩
  have cw45 := va_cwS (R := (rmX 5 180 0 0)) (s := s) (args := args) (rm := (rmX 0 0 0 0)) (mc := 0) (ms := 0) 1 hts gX1_effective_X1_isPerson rfl rfl rfl (by decide +kernel) ⟨Nat.le_of_ble_eq_true rfl, Nat.le_of_ble_eq_true rfl⟩
  have cw48 := va_cwS (R := (rmX 5 180 0 0)) (s := s) (args := args) (rm := (rmX 0 0 0 0)) (mc := 0) (ms := 0) 1 hts gX1_effective_X1_isDay rfl rfl rfl (by decide +kernel) ⟨Nat.le_of_ble_eq_true rfl, Nat.le_of_ble_eq_true rfl⟩
  have hiX1 := (show ∀ w ∈ u_ws RX1 TX1 6, w ∈ wsX1_effective by decide +kernel)
  have lf20 := hts (.fieldLink RX1 20 "OrderRows2" "path" "[I") (by decide +kernel)
  have cw90 := cwV (R := (rmX 5 180 0 0)) (s := s) (args := args) (rm := (rmX 0 0 0 0)) (mc := 0) (ms := 0) 2 hts gX1_effective_X1_stepAt rfl rfl rfl (by decide +kernel) ⟨Nat.le_of_ble_eq_true rfl, Nat.le_of_ble_eq_true rfl⟩
  have cw98 := cwV (R := (rmX 5 180 0 0)) (s := s) (args := args) (rm := (rmX 4 140 0 0)) (mc := 0) (ms := 0) 4 hts gX1_effective_X1_strongest rfl rfl rfl (by decide +kernel) ⟨Nat.le_of_ble_eq_true rfl, Nat.le_of_ble_eq_true rfl⟩
  have cw102 := cwV (R := (rmX 5 180 0 0)) (s := s) (args := args) (rm := (rmX 1 40 0 0)) (mc := 0) (ms := 0) 0 hts gX1_effective_X0_sendsOn rfl rfl rfl (by decide +kernel) ⟨Nat.le_of_ble_eq_true rfl, Nat.le_of_ble_eq_true rfl⟩
  have hiX0 := (show ∀ w ∈ u_ws RX0 TX0 9, w ∈ wsX1_effective by decide +kernel)
  have lf108 := hts (.fieldLink RX1 108 "OrderRows2$Order" "to" "I") (by decide +kernel)
  have lf105 := hts (.fieldLink RX1 105 "OrderRows2$Order" "kind" "I") (by decide +kernel)
  have cw38 := va_cwS (R := (rmX 5 180 0 0)) (s := s) (args := args) (rm := (rmX 0 0 0 0)) (mc := 0) (ms := 0) 1 hts gX1_effective_X1_doneBy rfl rfl rfl (by decide +kernel) ⟨Nat.le_of_ble_eq_true rfl, Nat.le_of_ble_eq_true rfl⟩
  have cw94 := cwV (R := (rmX 5 180 0 0)) (s := s) (args := args) (rm := (rmX 1 40 0 0)) (mc := 0) (ms := 0) 2 hts gX1_effective_X1_tellRing rfl rfl rfl (by decide +kernel) ⟨Nat.le_of_ble_eq_true rfl, Nat.le_of_ble_eq_true rfl⟩
  refine lv_iload_n hx hb dX1_effective_0 rfl (lv_at hl 1 rfl) ?_
  refine rdS_i (As := [.int en]) (rest := []) ⟨hx, hb, hml, hown, hts⟩ (c_X1_isAddress l G en) cw42 hK va_P.nil rfl hl.1 rfl (Nat.le_of_ble_eq_true rfl) dX1_effective_1 ⟨Nat.zero_le _, Nat.zero_le _⟩ (fun r1_1 w1_1 => ?_)
  have w1_1 : ((r1_1.toInt = 1 ∧ (1 ≤ (en).toInt ∧ (en).toInt ≤ 99)) ∨ (r1_1.toInt = 0 ∧ ¬ (1 ≤ (en).toInt ∧ (en).toInt ≤ 99))) := w1_1
  refine lv_if_eq (tgt := 14) hx hb dX1_effective_4 (by decide) (fun c4_2 => ?_) (fun c4_2 => ?_)
  · have c4_2 : (r1_1).toInt = 0 := (ti_eq (x := r1_1) (y := 0) (a := (r1_1).toInt) (b := 0) rfl rfl).mp c4_2
    refine lv_bipush (v := (-101)) hx hb dX1_effective_14 (by decide) ?_
    have hF : fEff σ en wh kd dy = ((-101), σ) := if_pos (by omega)
    exact hret _ _ _ _ _ _ _ (κ.2.2.2.2.2.1, κ.2.2.2.2.2.2) dX1_effective_16 (Or.inr (Or.inr rfl)) (by rw [hF]; exact ⟨rfl, hC⟩) (by rw [hF]; exact hP) (by rw [hF]; exact hD) hS (Nat.le_refl _) (Nat.le_refl _)
  · have c4_2 : ¬ ((r1_1).toInt = 0) := mt (ti_eq (x := r1_1) (y := 0) (a := (r1_1).toInt) (b := 0) rfl rfl).mpr c4_2
    refine lv_iload_n hx hb dX1_effective_7 rfl (lv_at hl 2 rfl) ?_
    refine rdS_i (As := [.int wh]) (rest := []) ⟨hx, hb, hml, hown, hts⟩ (c_X1_isPerson l G wh) cw45 hK va_P.nil rfl hl.1 rfl (Nat.le_of_ble_eq_true rfl) dX1_effective_8 ⟨Nat.zero_le _, Nat.zero_le _⟩ (fun r8_3 w8_3 => ?_)
    have w8_3 : ((r8_3.toInt = 1 ∧ (0 ≤ (wh).toInt ∧ (wh).toInt ≤ 49)) ∨ (r8_3.toInt = 0 ∧ ¬ (0 ≤ (wh).toInt ∧ (wh).toInt ≤ 49))) := w8_3
    refine lv_if_ne (tgt := 17) hx hb dX1_effective_11 (by decide) (fun c11_4 => ?_) (fun c11_4 => ?_)
    · have c11_4 : ¬ ((r8_3).toInt = 0) := mt (ti_eq (x := r8_3) (y := 0) (a := (r8_3).toInt) (b := 0) rfl rfl).mpr c11_4
      refine lv_iload_n hx hb dX1_effective_17 rfl (lv_at hl 3 rfl) ?_
      refine lv_if_lt (tgt := 34) hx hb dX1_effective_18 (by decide) (fun c18_5 => ?_) (fun c18_5 => ?_)
      · have c18_5 : (kd).toInt < 0 := (ti_lt (x := kd) (y := 0) (a := (kd).toInt) (b := 0) rfl rfl).mp c18_5
        refine lv_bipush (v := (-102)) hx hb dX1_effective_34 (by decide) ?_
        have hF : fEff σ en wh kd dy = ((-102), σ) := (if_neg (by omega)).trans (if_pos (by omega))
        exact hret _ _ _ _ _ _ _ (κ.2.2.2.2.2.1, κ.2.2.2.2.2.2) dX1_effective_36 (Or.inr (Or.inr rfl)) (by rw [hF]; exact ⟨rfl, hC⟩) (by rw [hF]; exact hP) (by rw [hF]; exact hD) hS (Nat.le_refl _) (Nat.le_refl _)
      · have c18_5 : ¬ ((kd).toInt < 0) := mt (ti_lt (x := kd) (y := 0) (a := (kd).toInt) (b := 0) rfl rfl).mpr c18_5
        refine lv_iload_n hx hb dX1_effective_21 rfl (lv_at hl 3 rfl) ?_
        refine lv_iconst (v := 3) hx hb dX1_effective_22 (by decide) ?_
        refine lv_icmp_ge (tgt := 34) hx hb dX1_effective_23 (by decide) (fun c23_6 => ?_) (fun c23_6 => ?_)
        · have c23_6 : 3 ≤ (kd).toInt := (ti_le (x := 3) (y := kd) (a := 3) (b := (kd).toInt) rfl rfl).mp c23_6
          refine lv_bipush (v := (-102)) hx hb dX1_effective_34 (by decide) ?_
          have hF : fEff σ en wh kd dy = ((-102), σ) := (if_neg (by omega)).trans (if_pos (by omega))
          exact hret _ _ _ _ _ _ _ (κ.2.2.2.2.2.1, κ.2.2.2.2.2.2) dX1_effective_36 (Or.inr (Or.inr rfl)) (by rw [hF]; exact ⟨rfl, hC⟩) (by rw [hF]; exact hP) (by rw [hF]; exact hD) hS (Nat.le_refl _) (Nat.le_refl _)
        · have c23_6 : ¬ (3 ≤ (kd).toInt) := mt (ti_le (x := 3) (y := kd) (a := 3) (b := (kd).toInt) rfl rfl).mpr c23_6
          refine lv_lload hx hb dX1_effective_26 (lv_at hl 4 rfl) ?_
          refine rdS_i (As := [.long dy]) (rest := []) ⟨hx, hb, hml, hown, hts⟩ (c_X1_isDay l G dy) cw48 hK va_P.nil rfl hl.1 rfl (Nat.le_of_ble_eq_true rfl) dX1_effective_28 ⟨Nat.zero_le _, Nat.zero_le _⟩ (fun r28_7 w28_7 => ?_)
          have w28_7 : ((r28_7.toInt = 1 ∧ (0 ≤ (dy).toInt ∧ (dy).toInt ≤ 20000)) ∨ (r28_7.toInt = 0 ∧ ¬ (0 ≤ (dy).toInt ∧ (dy).toInt ≤ 20000))) := w28_7
          refine lv_if_ne (tgt := 37) hx hb dX1_effective_31 (by decide) (fun c31_8 => ?_) (fun c31_8 => ?_)
          · have c31_8 : ¬ ((r28_7).toInt = 0) := mt (ti_eq (x := r28_7) (y := 0) (a := (r28_7).toInt) (b := 0) rfl rfl).mpr c31_8
            refine lv_iload_n hx hb dX1_effective_37 rfl (lv_at hl 1 rfl) ?_
            refine lv_istore (lv' := [(6, .int en), (0, .ref a.1), (1, .int en), (2, .int wh), (3, .int kd), (4, .long dy)]) hx hb dX1_effective_38 hl (by decide) rfl (fun ls hl => ?_)
            refine lv_iconst (v := 0) hx hb dX1_effective_40 (by decide) ?_
            refine lv_istore (lv' := [(7, .int 0), (6, .int en), (0, .ref a.1), (1, .int en), (2, .int wh), (3, .int kd), (4, .long dy)]) hx hb dX1_effective_41 hl (by decide) rfl (fun ls hl => ?_)
            have loop43 : ∀ (fu : Nat) (q : List Int32) (x7 x6 : Int32) (pa : Nat → Int32), 100 < q.length + fu → q.length ≤ 100 → x7.toInt = ((q.length : Nat) : Int) → (∀ i, i < q.length → pa i = q.getD i 0) → eff σ wh.toInt kd.toInt dy.toInt (100 - q.length) q x6 = eff σ wh.toInt kd.toInt dy.toInt 100 [] en → ∀ (H : Heap) (locs : List Loc), va_P G.1 vwCl (CW G a (nI (sG σ).length) (sT σ) (sR σ) pa κ.2.2.2.2.2.2 (pO κ.2.2.2.2.1 (sO σ) (sN σ)) (LW G a.2.1 κ.1 κ.2.1 κ.2.2.1 κ.2.2.2.1 (sN σ))) H → va_D A (CW G a (nI (sG σ).length) (sT σ) (sR σ) pa κ.2.2.2.2.2.2 (pO κ.2.2.2.2.1 (sO σ) (sN σ)) (LW G a.2.1 κ.1 κ.2.1 κ.2.2.1 κ.2.2.2.1 (sN σ))) → va_S A s.heap H locs → ∀ ls : Array Slot, lv_has ls 10 [(7, .int x7), (6, .int x6), (0, .ref a.1), (1, .int en), (2, .int wh), (3, .int kd), (4, .long dy)] → W p l e (rmX 5 180 0 0) s m args below meth c H locs 0 0 Q (F0 m 43 ls []) := by
              intro fu
              induction fu with
              | zero =>
                intro q x7 x6 pa hfu hq e7 hpa hE
                exact absurd hfu (by omega)
              | succ fu ih43 =>
                intro q x7 x6 pa hfu hq e7 hpa hE H locs hP hD hS ls hl
                refine lv_iload hx hb dX1_effective_43 (lv_at hl 0 rfl) ?_
                refine lv_aload_n hx hb dX1_effective_45 rfl (lv_at hl 2 rfl) ?_
                refine va_get (D := G.1) (ci := 2) (v := .ref a.2.2.2.1) (own := RX1) (C := RX1) (T := TX1) (N := 6) hx hb hts hiX1 hown hK.1 hP 0 rfl rfl 2 (by decide) lf20 (fun _ h9 => h9) rfl dX1_effective_46 ?_
                refine va_alen hx hb hK.1 hP 2 0 rfl rfl (v := 100) rfl dX1_effective_49 ?_
                refine lv_icmp_ge (tgt := 149) hx hb dX1_effective_50 (by decide) (fun c50_9 => ?_) (fun c50_9 => ?_)
                · have c50_9 : 100 ≤ ((q.length : Nat) : Int) := (ti_le (x := 100) (y := x7) (a := 100) (b := ((q.length : Nat) : Int)) rfl e7).mp c50_9
                  refine lv_iconst (v := (-1)) hx hb dX1_effective_149 (by decide) ?_
                  have hE2 : eff σ wh.toInt kd.toInt dy.toInt 100 [] en = ((-1), (sG σ)) := by rw [← hE, show 100 - q.length = 0 by omega]; rfl
                  have hF : fEff σ en wh kd dy = ((-1), sGs σ (sG σ)) := fEff_of (by omega) (by omega) hE2
                  exact hret _ _ _ _ _ _ _ (pa, κ.2.2.2.2.2.2) dX1_effective_150 (Or.inr (Or.inr rfl)) (by rw [hF]; exact ⟨rfl, hC⟩) (by rw [hF]; exact hP) (by rw [hF]; exact hD) hS (Nat.le_refl _) (Nat.le_refl _)
                · have c50_9 : ¬ (100 ≤ ((q.length : Nat) : Int)) := mt (ti_le (x := 100) (y := x7) (a := 100) (b := ((q.length : Nat) : Int)) rfl e7).mpr c50_9
                  refine lv_aload_n hx hb dX1_effective_53 rfl (lv_at hl 2 rfl) ?_
                  refine lv_iload hx hb dX1_effective_54 (lv_at hl 1 rfl) ?_
                  refine lv_iload hx hb dX1_effective_56 (lv_at hl 0 rfl) ?_
                  refine rdV_i (b := a.1) (As := [.int x6, .int x7]) (rest := []) ⟨hx, hb, hml, hown, hts⟩ (c_X1_stepAt l G a (kPR κ pa κ.2.2.2.2.2.2) σ hI hC x6 x7 q.length e7 (by omega)) cw90 hK hP 2 rfl rfl rfl rfl hl.1 rfl (Nat.le_of_ble_eq_true rfl) dX1_effective_58 ⟨Nat.zero_le _, Nat.zero_le _⟩ (fun r8 w8 => ?_)
                  have w8 : r8.toInt = ((fst1 q x6 : Nat) : Int) := by rw [← fst1_eq hpa]; exact w8
                  have hfl : fst1 q x6 ≤ q.length := fa_first_le _ _
                  obtain ⟨r0, hr0⟩ : ∃ r0, 100 - q.length = r0 + 1 := ⟨99 - q.length, by omega⟩
                  refine lv_istore (lv' := [(8, .int r8), (7, .int x7), (6, .int x6), (0, .ref a.1), (1, .int en), (2, .int wh), (3, .int kd), (4, .long dy)]) hx hb dX1_effective_61 hl (by decide) rfl (fun ls hl => ?_)
                  refine lv_iload hx hb dX1_effective_63 (lv_at hl 0 rfl) ?_
                  refine lv_iload hx hb dX1_effective_65 (lv_at hl 1 rfl) ?_
                  refine lv_icmp_ge (tgt := 80) hx hb dX1_effective_67 (by decide) (fun c67_11 => ?_) (fun c67_11 => ?_)
                  · have c67_11 : ((q.length : Nat) : Int) ≤ (((fst1 q x6) : Nat) : Int) := (ti_le (x := x7) (y := r8) (a := ((q.length : Nat) : Int)) (b := (((fst1 q x6) : Nat) : Int)) e7 w8).mp c67_11
                    refine lv_aload_n hx hb dX1_effective_80 rfl (lv_at hl 3 rfl) ?_
                    refine va_get (D := G.1) (ci := 2) (v := .ref a.2.2.2.1) (own := RX1) (C := RX1) (T := TX1) (N := 6) hx hb hts hiX1 hown hK.1 hP 0 rfl rfl 2 (by decide) lf20 (fun _ h9 => h9) rfl dX1_effective_81 ?_
                    refine lv_iload hx hb dX1_effective_84 (lv_at hl 1 rfl) ?_
                    refine lv_iload hx hb dX1_effective_86 (lv_at hl 2 rfl) ?_
                    refine my_iast hx hb hK hP hD hS 2 rfl (x := x6) q.length e7 (by omega) dX1_effective_88 (fun H locs hP hD hS => ?_)
                    have hP : va_P G.1 vwCl (CW G a (nI (sG σ).length) (sT σ) (sR σ) (upd pa q.length x6) κ.2.2.2.2.2.2 (pO κ.2.2.2.2.1 (sO σ) (sN σ)) (LW G a.2.1 κ.1 κ.2.1 κ.2.2.1 κ.2.2.2.1 (sN σ))) H := hP
                    have hD : va_D A (CW G a (nI (sG σ).length) (sT σ) (sR σ) (upd pa q.length x6) κ.2.2.2.2.2.2 (pO κ.2.2.2.2.1 (sO σ) (sN σ)) (LW G a.2.1 κ.1 κ.2.1 κ.2.2.1 κ.2.2.2.1 (sN σ))) := hD
                    refine lv_aload_n hx hb dX1_effective_89 rfl (lv_at hl 3 rfl) ?_
                    refine lv_iload hx hb dX1_effective_90 (lv_at hl 2 rfl) ?_
                    refine lv_iload_n hx hb dX1_effective_92 rfl (lv_at hl 5 rfl) ?_
                    refine lv_iload_n hx hb dX1_effective_93 rfl (lv_at hl 6 rfl) ?_
                    refine lv_lload hx hb dX1_effective_94 (lv_at hl 7 rfl) ?_
                    refine rdV_q (b := a.1) (As := [.int x6, .int wh, .int kd, .long dy]) (rest := []) ⟨hx, hb, hml, hown, hts⟩ (c_X1_strongest l G a (kPR κ (upd pa q.length x6) κ.2.2.2.2.2.2) σ hI hC x6 wh kd dy) cw98 hK hP 2 rfl rfl rfl rfl hl.1 rfl (Nat.le_of_ble_eq_true rfl) dX1_effective_96 ⟨Nat.zero_le _, Nat.zero_le _⟩ (fun r9 w9 => ?_)
                    subst w9
                    cases hbs : bst σ x6.toInt wh.toInt kd.toInt dy.toInt (sN σ) with
                    | none =>
                      refine W.eq (g2 := F0 m 99 ls [.null]) rfl ?_
                      refine lv_astoreN (lv' := [(9, .null), (8, .int r8), (7, .int x7), (6, .int x6), (0, .ref a.1), (1, .int en), (2, .int wh), (3, .int kd), (4, .long dy)]) hx hb dX1_effective_99 hl (by decide) rfl (fun ls hl => ?_)
                      refine lv_aloadN hx hb dX1_effective_101 (lv_at hl 0 rfl) ?_
                      refine lv_ifnonnullN hx hb dX1_effective_103 ?_
                      refine lv_iload hx hb dX1_effective_106 (lv_at hl 3 rfl) ?_
                      have hE2 : eff σ wh.toInt kd.toInt dy.toInt 100 [] en = (x6, (sG σ)) := by rw [← hE, hr0]; exact eff_none (by omega) hbs
                      have hF : fEff σ en wh kd dy = (x6, sGs σ (sG σ)) := fEff_of (by omega) (by omega) hE2
                      exact hret _ _ _ _ _ _ _ ((upd pa q.length x6), κ.2.2.2.2.2.2) dX1_effective_108 (Or.inr (Or.inr rfl)) (by rw [hF]; exact ⟨rfl, hC⟩) (by rw [hF]; exact hP) (by rw [hF]; exact hD) hS (Nat.le_refl _) (Nat.le_refl _)
                    | some b =>
                      have hbn : b < sN σ := bst_lt hbs
                      have hob := hI4 b hbn
                      unfold OI at hob
                      refine W.eq (g2 := F0 m 99 ls [.ref (κ.2.2.2.2.1 b)]) rfl ?_
                      refine lv_astore (lv' := [(9, .ref (κ.2.2.2.2.1 b)), (8, .int r8), (7, .int x7), (6, .int x6), (0, .ref a.1), (1, .int en), (2, .int wh), (3, .int kd), (4, .long dy)]) hx hb dX1_effective_99 hl (by decide) rfl (fun ls hl => ?_)
                      refine lv_aload hx hb dX1_effective_101 (lv_at hl 0 rfl) ?_
                      refine lv_ifnonnull (tgt := 109) hx hb dX1_effective_103 (by decide) ?_
                      refine lv_aload hx hb dX1_effective_109 (lv_at hl 0 rfl) ?_
                      refine rdV_i (b := (κ.2.2.2.2.1 b)) (As := []) (rest := []) ⟨hx, hb, hml, hown, hts⟩ (c_X0_sendsOn l G (κ.2.2.2.2.1 b) (sO σ b)  (by omega)) cw102 hK (CW_ord hP hbn) 1 rfl rfl rfl rfl hl.1 rfl (Nat.le_of_ble_eq_true rfl) dX1_effective_111 ⟨Nat.zero_le _, Nat.zero_le _⟩ (fun r111_12 w111_12 => ?_)
                      have w111_12 : ((r111_12.toInt = 1 ∧ ((oK (sO σ b)).toInt < 3)) ∨ (r111_12.toInt = 0 ∧ ¬ ((oK (sO σ b)).toInt < 3))) := w111_12
                      refine lv_if_ne (tgt := 136) hx hb dX1_effective_114 (by decide) (fun c114_13 => ?_) (fun c114_13 => ?_)
                      · have c114_13 : ¬ ((r111_12).toInt = 0) := mt (ti_eq (x := r111_12) (y := 0) (a := (r111_12).toInt) (b := 0) rfl rfl).mpr c114_13
                        refine lv_aload hx hb dX1_effective_136 (lv_at hl 0 rfl) ?_
                        refine va_get (D := G.1) (ci := 1) (v := .int (oT (sO σ b))) (own := RX1) (C := RX0) (T := TX0) (N := 9) hx hb hts hiX0 hown hK.1 hP (b + 4) (CW_get hbn) rfl 3 (by decide) lf108 (fun _ h9 => h9) rfl dX1_effective_138 ?_
                        refine lv_istore (lv' := [(6, .int (oT (sO σ b))), (9, .ref (κ.2.2.2.2.1 b)), (8, .int r8), (7, .int x7), (0, .ref a.1), (1, .int en), (2, .int wh), (3, .int kd), (4, .long dy)]) hx hb dX1_effective_141 hl (by decide) rfl (fun ls hl => ?_)
                        obtain ⟨x143_14, e143_14⟩ : ∃ y : Int32, y = x7 + 1 := ⟨_, rfl⟩
                        have v143_14 : (x143_14).toInt = (((q.length + 1) : Nat) : Int) := by rw [e143_14]; exact (ti_add (a := ((q.length : Nat) : Int)) (b := 1) e7 rfl (by omega) (by omega)).trans (by omega)
                        refine lv_iinc (v := x143_14) (lv' := [(7, .int x143_14), (6, .int (oT (sO σ b))), (9, .ref (κ.2.2.2.2.1 b)), (8, .int r8), (0, .ref a.1), (1, .int en), (2, .int wh), (3, .int kd), (4, .long dy)]) hx hb dX1_effective_143 hl (k := 3) rfl (by rw [e143_14]; rfl) (by decide) rfl (fun ls hl => ?_)
                        refine lv_goto (tgt := 43) hx hb dX1_effective_146 (by decide) ?_
                        have hE3 : eff σ wh.toInt kd.toInt dy.toInt (100 - (q ++ [x6]).length) (q ++ [x6]) (oT (sO σ b)) = eff σ wh.toInt kd.toInt dy.toInt 100 [] en := by rw [← hE, hr0, eff_go (by omega) hbs (by omega), len_app, show 100 - (q.length + 1) = r0 by omega]
                        exact ih43 (q ++ [x6]) x143_14 (oT (sO σ b)) (upd pa q.length x6) (by rw [len_app]; omega) (by rw [len_app]; omega) (by rw [len_app]; exact v143_14) (pa_app hpa) hE3 _ _ hP hD hS ls (lv_sub hl [0, 1, 4, 5, 6, 7, 8] rfl)
                      · have c114_13 : (r111_12).toInt = 0 := (ti_eq (x := r111_12) (y := 0) (a := (r111_12).toInt) (b := 0) rfl rfl).mp c114_13
                        refine lv_aload hx hb dX1_effective_117 (lv_at hl 0 rfl) ?_
                        refine va_get (D := G.1) (ci := 1) (v := .int (oK (sO σ b))) (own := RX1) (C := RX0) (T := TX0) (N := 9) hx hb hts hiX0 hown hK.1 hP (b + 4) (CW_get hbn) rfl 0 (by decide) lf105 (fun _ h9 => h9) rfl dX1_effective_119 ?_
                        refine rdS_i (As := [.int (oK (sO σ b))]) (rest := []) ⟨hx, hb, hml, hown, hts⟩ (c_X1_doneBy l G (oK (sO σ b)) (by omega)) cw38 hK va_P.nil rfl hl.1 rfl (Nat.le_of_ble_eq_true rfl) dX1_effective_122 ⟨Nat.zero_le _, Nat.zero_le _⟩ (fun r122_15 w122_15 => ?_)
                        have w122_15 : r122_15.toInt = ((oK (sO σ b))).toInt / 3 := w122_15
                        refine lv_iconst (v := 1) hx hb dX1_effective_125 (by decide) ?_
                        refine lv_icmp_ne (tgt := 133) hx hb dX1_effective_126 (by decide) (fun c126_16 => ?_) (fun c126_16 => ?_)
                        · have c126_16 : ¬ ((r122_15).toInt = 1) := mt (ti_eq (x := r122_15) (y := 1) (a := (r122_15).toInt) (b := 1) rfl rfl).mpr c126_16
                          refine lv_bipush (v := (-2)) hx hb dX1_effective_133 (by decide) ?_
                          have hE2 : eff σ wh.toInt kd.toInt dy.toInt 100 [] en = ((-2), (sG σ)) := by rw [← hE, hr0]; exact eff_refused (by omega) hbs (by omega) (by omega)
                          have hF : fEff σ en wh kd dy = ((-2), sGs σ (sG σ)) := fEff_of (by omega) (by omega) hE2
                          exact hret _ _ _ _ _ _ _ ((upd pa q.length x6), κ.2.2.2.2.2.2) dX1_effective_135 (Or.inr (Or.inr rfl)) (by rw [hF]; exact ⟨rfl, hC⟩) (by rw [hF]; exact hP) (by rw [hF]; exact hD) hS (Nat.le_refl _) (Nat.le_refl _)
                        · have c126_16 : (r122_15).toInt = 1 := (ti_eq (x := r122_15) (y := 1) (a := (r122_15).toInt) (b := 1) rfl rfl).mp c126_16
                          refine lv_iconst (v := 0) hx hb dX1_effective_129 (by decide) ?_
                          refine lv_goto (tgt := 135) hx hb dX1_effective_130 (by decide) ?_
                          have hE2 : eff σ wh.toInt kd.toInt dy.toInt 100 [] en = (0, (sG σ)) := by rw [← hE, hr0]; exact eff_held (by omega) hbs (by omega) (by omega)
                          have hF : fEff σ en wh kd dy = (0, sGs σ (sG σ)) := fEff_of (by omega) (by omega) hE2
                          exact hret _ _ _ _ _ _ _ ((upd pa q.length x6), κ.2.2.2.2.2.2) dX1_effective_135 (Or.inr (Or.inr rfl)) (by rw [hF]; exact ⟨rfl, hC⟩) (by rw [hF]; exact hP) (by rw [hF]; exact hD) hS (Nat.le_refl _) (Nat.le_refl _)
                  · have c67_11 : ¬ (((q.length : Nat) : Int) ≤ (((fst1 q x6) : Nat) : Int)) := mt (ti_le (x := x7) (y := r8) (a := ((q.length : Nat) : Int)) (b := (((fst1 q x6) : Nat) : Int)) e7 w8).mpr c67_11
                    refine lv_aload_n hx hb dX1_effective_70 rfl (lv_at hl 3 rfl) ?_
                    refine lv_iload hx hb dX1_effective_71 (lv_at hl 0 rfl) ?_
                    refine lv_iload hx hb dX1_effective_73 (lv_at hl 1 rfl) ?_
                    refine wrV_v (wr := []) (b := a.1) (As := [.int r8, .int x7]) (rest := []) ⟨hx, hb, hml, hown, hts⟩ (c_X1_tellRing l G a (kPR κ pa κ.2.2.2.2.2.2) σ hI hC r8 x7 (fst1 q x6) q.length w8 e7 hfl (by omega)) cw94 hK hZ hP hD hS hA 2 rfl rfl rfl rfl hl.1 rfl (Nat.le_of_ble_eq_true rfl) dX1_effective_75 ⟨Nat.zero_le _, Nat.zero_le _⟩ (fun u H locs wu hP hD hS => ?_)
                    have hP : va_P G.1 vwCl (CW G a (nI (q.length - fst1 q x6)) (sT σ) (sR σ) pa u (pO κ.2.2.2.2.1 (sO σ) (sN σ)) (LW G a.2.1 κ.1 κ.2.1 κ.2.2.1 κ.2.2.2.1 (sN σ))) H := hP
                    have hD : va_D A (CW G a (nI (q.length - fst1 q x6)) (sT σ) (sR σ) pa u (pO κ.2.2.2.2.1 (sO σ) (sN σ)) (LW G a.2.1 κ.1 κ.2.1 κ.2.2.1 κ.2.2.2.1 (sN σ))) := hD
                    refine lv_iconst (v := (-1)) hx hb dX1_effective_78 (by decide) ?_
                    have hE2 : eff σ wh.toInt kd.toInt dy.toInt 100 [] en = ((-1), (q.drop (fst1 q x6))) := by rw [← hE, hr0]; exact eff_ring (by omega)
                    rw [← List.length_drop] at hP hD
                    have hF : fEff σ en wh kd dy = ((-1), sGs σ (q.drop (fst1 q x6))) := fEff_of (by omega) (by omega) hE2
                    exact hret _ _ _ _ _ _ _ (pa, u) dX1_effective_79 (Or.inr (Or.inr rfl)) (by rw [hF]; exact ⟨rfl, ⟨hC.1, fun mq hm => by have hm2 : mq < (q.drop (fst1 q x6)).length := hm; rw [List.length_drop] at hm2; show u mq = (q.drop (fst1 q x6)).getD mq 0; rw [gD_drop, wu mq hm2]; exact hpa _ (by omega)⟩⟩) (by rw [hF]; exact hP) (by rw [hF]; exact hD) hS (Nat.le_refl _) (Nat.le_refl _)
            exact loop43 101 [] 0 en κ.2.2.2.2.2.1 (by decide) (Nat.zero_le _) rfl (fun i hi => absurd hi (Nat.not_lt_zero i)) rfl _ _ hP hD hS ls (lv_sub hl [0, 1, 2, 3, 4, 5, 6] rfl)
          · have c31_8 : (r28_7).toInt = 0 := (ti_eq (x := r28_7) (y := 0) (a := (r28_7).toInt) (b := 0) rfl rfl).mp c31_8
            refine lv_bipush (v := (-102)) hx hb dX1_effective_34 (by decide) ?_
            have hF : fEff σ en wh kd dy = ((-102), σ) := (if_neg (by omega)).trans (if_pos (by omega))
            exact hret _ _ _ _ _ _ _ (κ.2.2.2.2.2.1, κ.2.2.2.2.2.2) dX1_effective_36 (Or.inr (Or.inr rfl)) (by rw [hF]; exact ⟨rfl, hC⟩) (by rw [hF]; exact hP) (by rw [hF]; exact hD) hS (Nat.le_refl _) (Nat.le_refl _)
    · have c11_4 : (r8_3).toInt = 0 := (ti_eq (x := r8_3) (y := 0) (a := (r8_3).toInt) (b := 0) rfl rfl).mp c11_4
      refine lv_bipush (v := (-101)) hx hb dX1_effective_14 (by decide) ?_
      have hF : fEff σ en wh kd dy = ((-101), σ) := if_pos (by omega)
      exact hret _ _ _ _ _ _ _ (κ.2.2.2.2.2.1, κ.2.2.2.2.2.2) dX1_effective_16 (Or.inr (Or.inr rfl)) (by rw [hF]; exact ⟨rfl, hC⟩) (by rw [hF]; exact hP) (by rw [hF]; exact hD) hS (Nat.le_refl _) (Nat.le_refl _)
