-- ===== laid by wip/whole/gen.py out of the decode rows =====
set_option maxHeartbeats 4000000 in
set_option maxRecDepth 100000 in
/-- stepAt -/
theorem c_X1_stepAt (l : Launch) (G : GG) (a : AD) (κ : KP) (σ : St) (hI : SI σ) (hC : CI κ σ) (x y : Int32) (k : Nat) (hk : (y).toInt = (k : Int)) (hk2 : k ≤ 100) : RdI l yX1_stepAt wsX1_stepAt (rmX 0 0 0 0) G [.ref a.1, .int x, .int y] (WC G a κ σ) (fun r => r.toInt = (fa_first (fun j => decide (κ.2.2.2.2.2.1 j = x)) k : Int)) := by
  refine rd_of_i (cc := cX1_stepAt) (maxL := 4) (t := .int) (by decide +kernel) rfl (Nat.le_of_ble_eq_true rfl) nar_int ?_
  intro p e s m args below meth c Q hx hb hml hown hts hP hK hret ls hl
  have hown : s.vm.findClass RX1 = some m.cls := hown
  have hl : lv_has ls 4 [(0, .ref a.1), (1, .int x), (2, .int y)] := hl
  have hP : va_P G.1 vwCl (CW G a (nI (sG σ).length) (sT σ) (sR σ) κ.2.2.2.2.2.1 κ.2.2.2.2.2.2 (pO κ.2.2.2.2.1 (sO σ) (sN σ)) (LW G a.2.1 κ.1 κ.2.1 κ.2.2.1 κ.2.2.2.1 (sN σ))) s.heap := hP
  obtain ⟨hI1, hI2, hI3, hI4, hI5⟩ := id hI
  have hiX1 := (show ∀ w ∈ u_ws RX1 TX1 6, w ∈ wsX1_stepAt by decide +kernel)
  have lf20 := hts (.fieldLink RX1 20 "OrderRows2" "path" "[I") (by decide +kernel)
  refine lv_iconst (v := 0) hx hb dX1_stepAt_0 (by decide) ?_
  refine lv_istore_n (lv' := [(3, .int 0), (0, .ref a.1), (1, .int x), (2, .int y)]) hx hb dX1_stepAt_1 rfl hl (by decide) rfl (fun ls hl => ?_)
  have loop2 : ∀ (fu : Nat) (j : Nat) (x3 : Int32), k < j + fu → j ≤ k → x3.toInt = (j : Int) → (∀ i, i < j → decide (κ.2.2.2.2.2.1 i = x) = false) → ∀ ls : Array Slot, lv_has ls 4 [(3, .int x3), (0, .ref a.1), (1, .int x), (2, .int y)] → W p l e (rmX 0 0 0 0) s m args below meth c s.heap [] 0 0 Q (F0 m 2 ls []) := by
    intro fu
    induction fu with
    | zero =>
      intro j x3 hfu hjk ej hno
      exact absurd hfu (by omega)
    | succ fu ih2 =>
      intro j x3 hfu hjk ej hno ls hl
      refine lv_iload_n hx hb dX1_stepAt_2 rfl (lv_at hl 0 rfl) ?_
      refine lv_iload_n hx hb dX1_stepAt_3 rfl (lv_at hl 3 rfl) ?_
      refine lv_icmp_ge (tgt := 34) hx hb dX1_stepAt_4 (by decide) (fun c4_1 => ?_) (fun c4_1 => ?_)
      · have c4_1 : ((k : Nat) : Int) ≤ ((j : Nat) : Int) := (ti_le (x := y) (y := x3) (a := ((k : Nat) : Int)) (b := ((j : Nat) : Int)) hk ej).mp c4_1
        refine lv_iload_n hx hb dX1_stepAt_34 rfl (lv_at hl 3 rfl) ?_
        exact hret _ _ _ dX1_stepAt_35 (Or.inr (Or.inr rfl)) (by rw [ff_none (p := fun j => decide (κ.2.2.2.2.2.1 j = x)) (fun i hi => hno i (by omega))]; exact hk)
      · have c4_1 : ¬ (((k : Nat) : Int) ≤ ((j : Nat) : Int)) := mt (ti_le (x := y) (y := x3) (a := ((k : Nat) : Int)) (b := ((j : Nat) : Int)) hk ej).mpr c4_1
        refine lv_iload_n hx hb dX1_stepAt_7 rfl (lv_at hl 0 rfl) ?_
        refine lv_aload_n hx hb dX1_stepAt_8 rfl (lv_at hl 1 rfl) ?_
        refine va_get (D := G.1) (ci := 2) (v := .ref a.2.2.2.1) (own := RX1) (C := RX1) (T := TX1) (N := 6) hx hb hts hiX1 hown hK.1 hP 0 rfl rfl 2 (by decide) lf20 (fun _ h9 => h9) rfl dX1_stepAt_9 ?_
        refine va_alen hx hb hK.1 hP 2 0 rfl rfl (v := 100) rfl dX1_stepAt_12 ?_
        refine lv_icmp_ge (tgt := 34) hx hb dX1_stepAt_13 (by decide) (fun c13_2 => ?_) (fun c13_2 => ?_)
        · have c13_2 : 100 ≤ ((j : Nat) : Int) := (ti_le (x := 100) (y := x3) (a := 100) (b := ((j : Nat) : Int)) rfl ej).mp c13_2
          refine lv_iload_n hx hb dX1_stepAt_34 rfl (lv_at hl 3 rfl) ?_
          exact hret _ _ _ dX1_stepAt_35 (Or.inr (Or.inr rfl)) (by rw [ff_none (p := fun j => decide (κ.2.2.2.2.2.1 j = x)) (fun i hi => hno i (by omega))]; exact hk)
        · have c13_2 : ¬ (100 ≤ ((j : Nat) : Int)) := mt (ti_le (x := 100) (y := x3) (a := 100) (b := ((j : Nat) : Int)) rfl ej).mpr c13_2
          refine lv_aload_n hx hb dX1_stepAt_16 rfl (lv_at hl 1 rfl) ?_
          refine va_get (D := G.1) (ci := 2) (v := .ref a.2.2.2.1) (own := RX1) (C := RX1) (T := TX1) (N := 6) hx hb hts hiX1 hown hK.1 hP 0 rfl rfl 2 (by decide) lf20 (fun _ h9 => h9) rfl dX1_stepAt_17 ?_
          refine lv_iload_n hx hb dX1_stepAt_20 rfl (lv_at hl 0 rfl) ?_
          refine my_iald hx hb hK hP 2 rfl j ej (by omega) dX1_stepAt_21 ?_
          refine lv_iload_n hx hb dX1_stepAt_22 rfl (lv_at hl 2 rfl) ?_
          refine lv_icmp_ne (tgt := 28) hx hb dX1_stepAt_23 (by decide) (fun c23_3 => ?_) (fun c23_3 => ?_)
          · have c23_3 : ¬ (((κ.2.2.2.2.2.1 j)).toInt = (x).toInt) := mt (ti_eq (x := (κ.2.2.2.2.2.1 j)) (y := x) (a := ((κ.2.2.2.2.2.1 j)).toInt) (b := (x).toInt) rfl rfl).mpr c23_3
            have c14 := c23_3
            obtain ⟨x28_4, e28_4⟩ : ∃ y : Int32, y = x3 + 1 := ⟨_, rfl⟩
            have v28_4 : (x28_4).toInt = (((j + 1) : Nat) : Int) := by rw [e28_4]; exact (ti_add (a := ((j : Nat) : Int)) (b := 1) ej rfl (by omega) (by omega)).trans (by omega)
            refine lv_iinc (v := x28_4) (lv' := [(3, .int x28_4), (0, .ref a.1), (1, .int x), (2, .int y)]) hx hb dX1_stepAt_28 hl (k := 0) rfl (by rw [e28_4]; rfl) (by decide) rfl (fun ls hl => ?_)
            refine lv_goto (tgt := 2) hx hb dX1_stepAt_31 (by decide) ?_
            have hno2 : ∀ i, i < j + 1 → decide (κ.2.2.2.2.2.1 i = x) = false := fun i hi => by
              rcases Nat.lt_or_eq_of_le (Nat.lt_succ_iff.mp hi) with q | q
              · exact hno i q
              · subst q; exact decide_eq_false (fun z => c14 (by rw [z]))
            exact ih2 (j + 1) x28_4 (by omega) (by omega) v28_4 hno2 ls (lv_sub hl [0, 1, 2, 3] rfl)
          · have c23_3 : ((κ.2.2.2.2.2.1 j)).toInt = (x).toInt := (ti_eq (x := (κ.2.2.2.2.2.1 j)) (y := x) (a := ((κ.2.2.2.2.2.1 j)).toInt) (b := (x).toInt) rfl rfl).mp c23_3
            have c14 := c23_3
            refine lv_iload_n hx hb dX1_stepAt_26 rfl (lv_at hl 0 rfl) ?_
            exact hret _ _ _ dX1_stepAt_27 (Or.inr (Or.inr rfl)) (by rw [ff_found (j := j) (p := fun j => decide (κ.2.2.2.2.2.1 j = x)) (by omega) (decide_eq_true (ti_inj c14)) hno]; exact ej)
  exact loop2 (k + 1) 0 0 (by omega) (Nat.zero_le _) rfl (fun i hi => absurd hi (Nat.not_lt_zero i)) ls (lv_sub hl [0, 1, 2, 3] rfl)

set_option maxHeartbeats 4000000 in
set_option maxRecDepth 100000 in
/-- tellRing -/
theorem c_X1_tellRing (l : Launch) (G : GG) (a : AD) (κ : KP) (σ : St) (hI : SI σ) (hC : CI κ σ) (x y : Int32) (i j : Nat) (hx1 : (x).toInt = (i : Int)) (hy1 : (y).toInt = (j : Int)) (hij : i ≤ j) (hj : j ≤ 99) : WrV l yX1_tellRing wsX1_tellRing (rmX 1 40 0 0) G [.ref a.1, .int x, .int y] (WC G a κ σ) (fun u : (Nat → Int32) => ∀ q, q < j - i → u q = κ.2.2.2.2.2.1 (i + q)) (fun u : (Nat → Int32) => (CW G a (nI (j - i)) (sT σ) (sR σ) κ.2.2.2.2.2.1 u (pO κ.2.2.2.2.1 (sO σ) (sN σ)) (LW G a.2.1 κ.1 κ.2.1 κ.2.2.1 κ.2.2.2.1 (sN σ)))) 0 0 := by
  refine wr_of_v (cc := cX1_tellRing) (maxL := 4) (by decide +kernel) rfl (Nat.le_of_ble_eq_true rfl) ?_
  intro p e s m args below meth c Q A hx hb hml hown hts hK hZ hA hin hret ls hl hP hD hS
  have hown : s.vm.findClass RX1 = some m.cls := hown
  have hl : lv_has ls 4 [(0, .ref a.1), (1, .int x), (2, .int y)] := hl
  have hP : va_P G.1 vwCl (CW G a (nI (sG σ).length) (sT σ) (sR σ) κ.2.2.2.2.2.1 κ.2.2.2.2.2.2 (pO κ.2.2.2.2.1 (sO σ) (sN σ)) (LW G a.2.1 κ.1 κ.2.1 κ.2.2.1 κ.2.2.2.1 (sN σ))) s.heap := hP
  have hD : va_D A (CW G a (nI (sG σ).length) (sT σ) (sR σ) κ.2.2.2.2.2.1 κ.2.2.2.2.2.2 (pO κ.2.2.2.2.1 (sO σ) (sN σ)) (LW G a.2.1 κ.1 κ.2.1 κ.2.2.1 κ.2.2.2.1 (sN σ))) := hD
  obtain ⟨hI1, hI2, hI3, hI4, hI5⟩ := id hI
  have hiX1 := (show ∀ w ∈ u_ws RX1 TX1 6, w ∈ wsX1_tellRing by decide +kernel)
  have lf26 := hts (.fieldLink RX1 26 "OrderRows2" "ringLength" "I") (by decide +kernel)
  have lf20 := hts (.fieldLink RX1 20 "OrderRows2" "path" "[I") (by decide +kernel)
  have lf23 := hts (.fieldLink RX1 23 "OrderRows2" "ringTold" "[I") (by decide +kernel)
  refine lv_aload_n hx hb dX1_tellRing_0 rfl (lv_at hl 0 rfl) ?_
  refine lv_iconst (v := 0) hx hb dX1_tellRing_1 (by decide) ?_
  refine va_put (D := G.1) (ci := 2) (v := .int 0) (ty := .int) (own := RX1) (C := RX1) (T := TX1) (N := 6) hx hb hts hiX1 tyX1 tyX1_ok nmX1 hown hK.1 hP hD hS 0 rfl rfl 4 (by decide) lf26 (fun _ h9 => h9) rfl (by decide +kernel) rfl rfl (Nat.le_of_ble_eq_true rfl) dX1_tellRing_2 (fun H locs hP hD hS => ?_)
  have hP : va_P G.1 vwCl (CW G a 0 (sT σ) (sR σ) κ.2.2.2.2.2.1 κ.2.2.2.2.2.2 (pO κ.2.2.2.2.1 (sO σ) (sN σ)) (LW G a.2.1 κ.1 κ.2.1 κ.2.2.1 κ.2.2.2.1 (sN σ))) H := hP
  have hD : va_D A (CW G a 0 (sT σ) (sR σ) κ.2.2.2.2.2.1 κ.2.2.2.2.2.2 (pO κ.2.2.2.2.1 (sO σ) (sN σ)) (LW G a.2.1 κ.1 κ.2.1 κ.2.2.1 κ.2.2.2.1 (sN σ))) := hD
  refine lv_iload_n hx hb dX1_tellRing_5 rfl (lv_at hl 1 rfl) ?_
  refine lv_iconst (v := 0) hx hb dX1_tellRing_6 (by decide) ?_
  refine va_mmax hx hb (by rw [hml]; exact hl.1.symm) hown (hts (.methodLink RX1 137 Lib.Math.max.name) (by decide +kernel)) (hts (.static Lib.Math.max.name) (by decide +kernel)) (hts (.initialized "java/lang/Math") (by decide +kernel)) (hts (.code Lib.Math.max.name Lib.Math.max.code 2 (some .int)) (by decide +kernel)) (Nat.le_of_ble_eq_true rfl) (Nat.le_of_ble_eq_true rfl) (Nat.zero_le _) (Nat.zero_le _) dX1_tellRing_7 ?_
  refine lv_topi (fun ym eym => ?_)
  have hz0 : (0 : Int32).toInt = 0 := rfl
  have vym : ym.toInt = ((i : Nat) : Int) := by rw [eym]; exact (mxi_if x 0).trans (by split <;> omega)
  refine lv_istore_n (lv' := [(3, .int ym), (0, .ref a.1), (1, .int x), (2, .int y)]) hx hb dX1_tellRing_10 rfl hl (by decide) rfl (fun ls hl => ?_)
  have loop11 : ∀ (fu : Nat) (mq : Nat) (x3 xl : Int32) (g : Nat → Int32), j < i + mq + fu → i + mq ≤ j → x3.toInt = ((i + mq : Nat) : Int) → xl.toInt = ((mq : Nat) : Int) → (∀ q, q < mq → g q = κ.2.2.2.2.2.1 (i + q)) → ∀ (H : Heap) (locs : List Loc), va_P G.1 vwCl (CW G a xl (sT σ) (sR σ) κ.2.2.2.2.2.1 g (pO κ.2.2.2.2.1 (sO σ) (sN σ)) (LW G a.2.1 κ.1 κ.2.1 κ.2.2.1 κ.2.2.2.1 (sN σ))) H → va_D A (CW G a xl (sT σ) (sR σ) κ.2.2.2.2.2.1 g (pO κ.2.2.2.2.1 (sO σ) (sN σ)) (LW G a.2.1 κ.1 κ.2.1 κ.2.2.1 κ.2.2.2.1 (sN σ))) → va_S A s.heap H locs → ∀ ls : Array Slot, lv_has ls 4 [(3, .int x3), (0, .ref a.1), (1, .int x), (2, .int y)] → W p l e (rmX 1 40 0 0) s m args below meth c H locs 0 0 Q (F0 m 11 ls []) := by
    intro fu
    induction fu with
    | zero =>
      intro mq x3 xl g hfu hmk ej el hg
      exact absurd hfu (by omega)
    | succ fu ih11 =>
      intro mq x3 xl g hfu hmk ej el hg H locs hP hD hS ls hl
      refine lv_iload_n hx hb dX1_tellRing_11 rfl (lv_at hl 0 rfl) ?_
      refine lv_iload_n hx hb dX1_tellRing_12 rfl (lv_at hl 3 rfl) ?_
      refine lv_icmp_ge (tgt := 68) hx hb dX1_tellRing_13 (by decide) (fun c13_1 => ?_) (fun c13_1 => ?_)
      · have c13_1 : ((j : Nat) : Int) ≤ (((i + mq) : Nat) : Int) := (ti_le (x := y) (y := x3) (a := ((j : Nat) : Int)) (b := (((i + mq) : Nat) : Int)) hy1 ej).mp c13_1
        obtain rfl : xl = nI (j - i) := nI_ofI (el.trans (by omega))
        exact hret _ _ _ _ _ _ g dX1_tellRing_68 (fun q hq => hg q (by omega)) hP hD hS (Nat.le_refl _) (Nat.le_refl _)
      · have c13_1 : ¬ (((j : Nat) : Int) ≤ (((i + mq) : Nat) : Int)) := mt (ti_le (x := y) (y := x3) (a := ((j : Nat) : Int)) (b := (((i + mq) : Nat) : Int)) hy1 ej).mpr c13_1
        refine lv_iload_n hx hb dX1_tellRing_16 rfl (lv_at hl 0 rfl) ?_
        refine lv_aload_n hx hb dX1_tellRing_17 rfl (lv_at hl 1 rfl) ?_
        refine va_get (D := G.1) (ci := 2) (v := .ref a.2.2.2.1) (own := RX1) (C := RX1) (T := TX1) (N := 6) hx hb hts hiX1 hown hK.1 hP 0 rfl rfl 2 (by decide) lf20 (fun _ h9 => h9) rfl dX1_tellRing_18 ?_
        refine va_alen hx hb hK.1 hP 2 0 rfl rfl (v := 100) rfl dX1_tellRing_21 ?_
        refine lv_icmp_ge (tgt := 68) hx hb dX1_tellRing_22 (by decide) (fun c22_2 => ?_) (fun c22_2 => ?_)
        · have c22_2 : 100 ≤ (((i + mq) : Nat) : Int) := (ti_le (x := 100) (y := x3) (a := 100) (b := (((i + mq) : Nat) : Int)) rfl ej).mp c22_2
          obtain rfl : xl = nI (j - i) := nI_ofI (el.trans (by omega))
          exact hret _ _ _ _ _ _ g dX1_tellRing_68 (fun q hq => hg q (by omega)) hP hD hS (Nat.le_refl _) (Nat.le_refl _)
        · have c22_2 : ¬ (100 ≤ (((i + mq) : Nat) : Int)) := mt (ti_le (x := 100) (y := x3) (a := 100) (b := (((i + mq) : Nat) : Int)) rfl ej).mpr c22_2
          refine lv_aload_n hx hb dX1_tellRing_25 rfl (lv_at hl 1 rfl) ?_
          refine va_get (D := G.1) (ci := 2) (v := .int xl) (own := RX1) (C := RX1) (T := TX1) (N := 6) hx hb hts hiX1 hown hK.1 hP 0 rfl rfl 4 (by decide) lf26 (fun _ h9 => h9) rfl dX1_tellRing_26 ?_
          refine lv_aload_n hx hb dX1_tellRing_29 rfl (lv_at hl 1 rfl) ?_
          refine va_get (D := G.1) (ci := 2) (v := .ref a.2.2.2.2) (own := RX1) (C := RX1) (T := TX1) (N := 6) hx hb hts hiX1 hown hK.1 hP 0 rfl rfl 3 (by decide) lf23 (fun _ h9 => h9) rfl dX1_tellRing_30 ?_
          refine va_alen hx hb hK.1 hP 3 0 rfl rfl (v := 99) rfl dX1_tellRing_33 ?_
          refine lv_icmp_ge (tgt := 68) hx hb dX1_tellRing_34 (by decide) (fun c34_3 => ?_) (fun c34_3 => ?_)
          · have c34_3 : 99 ≤ ((mq : Nat) : Int) := (ti_le (x := 99) (y := xl) (a := 99) (b := ((mq : Nat) : Int)) rfl el).mp c34_3
            obtain rfl : xl = nI (j - i) := nI_ofI (el.trans (by omega))
            exact hret _ _ _ _ _ _ g dX1_tellRing_68 (fun q hq => hg q (by omega)) hP hD hS (Nat.le_refl _) (Nat.le_refl _)
          · have c34_3 : ¬ (99 ≤ ((mq : Nat) : Int)) := mt (ti_le (x := 99) (y := xl) (a := 99) (b := ((mq : Nat) : Int)) rfl el).mpr c34_3
            refine lv_aload_n hx hb dX1_tellRing_37 rfl (lv_at hl 1 rfl) ?_
            refine va_get (D := G.1) (ci := 2) (v := .ref a.2.2.2.2) (own := RX1) (C := RX1) (T := TX1) (N := 6) hx hb hts hiX1 hown hK.1 hP 0 rfl rfl 3 (by decide) lf23 (fun _ h9 => h9) rfl dX1_tellRing_38 ?_
            refine lv_aload_n hx hb dX1_tellRing_41 rfl (lv_at hl 1 rfl) ?_
            refine va_get (D := G.1) (ci := 2) (v := .int xl) (own := RX1) (C := RX1) (T := TX1) (N := 6) hx hb hts hiX1 hown hK.1 hP 0 rfl rfl 4 (by decide) lf26 (fun _ h9 => h9) rfl dX1_tellRing_42 ?_
            refine lv_aload_n hx hb dX1_tellRing_45 rfl (lv_at hl 1 rfl) ?_
            refine va_get (D := G.1) (ci := 2) (v := .ref a.2.2.2.1) (own := RX1) (C := RX1) (T := TX1) (N := 6) hx hb hts hiX1 hown hK.1 hP 0 rfl rfl 2 (by decide) lf20 (fun _ h9 => h9) rfl dX1_tellRing_46 ?_
            refine lv_iload_n hx hb dX1_tellRing_49 rfl (lv_at hl 0 rfl) ?_
            refine my_iald hx hb hK hP 2 rfl (i + mq) ej (by omega) dX1_tellRing_50 ?_
            refine my_iast hx hb hK hP hD hS 3 rfl (x := (κ.2.2.2.2.2.1 (i + mq))) mq el (by omega) dX1_tellRing_51 (fun H locs hP hD hS => ?_)
            have hP : va_P G.1 vwCl (CW G a xl (sT σ) (sR σ) κ.2.2.2.2.2.1 (upd g mq (κ.2.2.2.2.2.1 (i + mq))) (pO κ.2.2.2.2.1 (sO σ) (sN σ)) (LW G a.2.1 κ.1 κ.2.1 κ.2.2.1 κ.2.2.2.1 (sN σ))) H := hP
            have hD : va_D A (CW G a xl (sT σ) (sR σ) κ.2.2.2.2.2.1 (upd g mq (κ.2.2.2.2.2.1 (i + mq))) (pO κ.2.2.2.2.1 (sO σ) (sN σ)) (LW G a.2.1 κ.1 κ.2.1 κ.2.2.1 κ.2.2.2.1 (sN σ))) := hD
            refine lv_aload_n hx hb dX1_tellRing_52 rfl (lv_at hl 1 rfl) ?_
            refine lv_dup hx hb dX1_tellRing_53 rfl ?_
            refine va_get (D := G.1) (ci := 2) (v := .int xl) (own := RX1) (C := RX1) (T := TX1) (N := 6) hx hb hts hiX1 hown hK.1 hP 0 rfl rfl 4 (by decide) lf26 (fun _ h9 => h9) rfl dX1_tellRing_54 ?_
            refine lv_iconst (v := 1) hx hb dX1_tellRing_57 (by decide) ?_
            refine lv_iadd hx hb dX1_tellRing_58 ?_
            refine lv_topi (fun y58_4 e58_4 => ?_)
            have v58_4 : (y58_4).toInt = (((mq + 1) : Nat) : Int) := by rw [e58_4]; exact (ti_add (a := ((mq : Nat) : Int)) (b := 1) el rfl (by omega) (by omega)).trans (by omega)
            refine va_put (D := G.1) (ci := 2) (v := .int y58_4) (ty := .int) (own := RX1) (C := RX1) (T := TX1) (N := 6) hx hb hts hiX1 tyX1 tyX1_ok nmX1 hown hK.1 hP hD hS 0 rfl rfl 4 (by decide) lf26 (fun _ h9 => h9) rfl (by decide +kernel) rfl rfl (Nat.le_of_ble_eq_true rfl) dX1_tellRing_59 (fun H locs hP hD hS => ?_)
            have hP : va_P G.1 vwCl (CW G a y58_4 (sT σ) (sR σ) κ.2.2.2.2.2.1 (upd g mq (κ.2.2.2.2.2.1 (i + mq))) (pO κ.2.2.2.2.1 (sO σ) (sN σ)) (LW G a.2.1 κ.1 κ.2.1 κ.2.2.1 κ.2.2.2.1 (sN σ))) H := hP
            have hD : va_D A (CW G a y58_4 (sT σ) (sR σ) κ.2.2.2.2.2.1 (upd g mq (κ.2.2.2.2.2.1 (i + mq))) (pO κ.2.2.2.2.1 (sO σ) (sN σ)) (LW G a.2.1 κ.1 κ.2.1 κ.2.2.1 κ.2.2.2.1 (sN σ))) := hD
            obtain ⟨x62_5, e62_5⟩ : ∃ y : Int32, y = x3 + 1 := ⟨_, rfl⟩
            have v62_5 : (x62_5).toInt = ((((i + mq) + 1) : Nat) : Int) := by rw [e62_5]; exact (ti_add (a := (((i + mq) : Nat) : Int)) (b := 1) ej rfl (by omega) (by omega)).trans (by omega)
            refine lv_iinc (v := x62_5) (lv' := [(3, .int x62_5), (0, .ref a.1), (1, .int x), (2, .int y)]) hx hb dX1_tellRing_62 hl (k := 0) rfl (by rw [e62_5]; rfl) (by decide) rfl (fun ls hl => ?_)
            refine lv_goto (tgt := 11) hx hb dX1_tellRing_65 (by decide) ?_
            have hg2 : ∀ q, q < mq + 1 → (upd g mq (κ.2.2.2.2.2.1 (i + mq))) q = κ.2.2.2.2.2.1 (i + q) := fun q hq => by
              rcases Nat.lt_or_eq_of_le (Nat.lt_succ_iff.mp hq) with z | z
              · rw [pk_un (Nat.ne_of_lt z)]; exact hg q z
              · subst z; exact pk_us
            exact ih11 (mq + 1) x62_5 y58_4 (upd g mq (κ.2.2.2.2.2.1 (i + mq))) (by omega) (by omega) (v62_5.trans (by omega)) v58_4 hg2 _ _ hP hD hS ls (lv_sub hl [0, 1, 2, 3] rfl)
  exact loop11 (j + 1) 0 ym 0 κ.2.2.2.2.2.2 (by omega) (by omega) vym rfl (fun q hq => absurd hq (Nat.not_lt_zero q)) _ _ hP hD hS ls (lv_sub hl [0, 1, 2, 3] rfl)

set_option maxHeartbeats 4000000 in
set_option maxRecDepth 100000 in
/-- ring -/
theorem c_X1_ring (l : Launch) (G : GG) (a : AD) (κ : KP) (σ : St) (hI : SI σ) (hC : CI κ σ) (i : Int32) : RdI l yX1_ring wsX1_ring (rmX 0 0 0 0) G [.ref a.1, .int i] (WC G a κ σ) (fun r => r = fRing σ i) := by
  refine rd_of_i (cc := cX1_ring) (maxL := 2) (t := .int) (by decide +kernel) rfl (Nat.le_of_ble_eq_true rfl) nar_int ?_
  intro p e s m args below meth c Q hx hb hml hown hts hP hK hret ls hl
  have hown : s.vm.findClass RX1 = some m.cls := hown
  have hl : lv_has ls 2 [(0, .ref a.1), (1, .int i)] := hl
  have hP : va_P G.1 vwCl (CW G a (nI (sG σ).length) (sT σ) (sR σ) κ.2.2.2.2.2.1 κ.2.2.2.2.2.2 (pO κ.2.2.2.2.1 (sO σ) (sN σ)) (LW G a.2.1 κ.1 κ.2.1 κ.2.2.1 κ.2.2.2.1 (sN σ))) s.heap := hP
  obtain ⟨hI1, hI2, hI3, hI4, hI5⟩ := id hI
  have hiX1 := (show ∀ w ∈ u_ws RX1 TX1 6, w ∈ wsX1_ring by decide +kernel)
  have lf26 := hts (.fieldLink RX1 26 "OrderRows2" "ringLength" "I") (by decide +kernel)
  have lf23 := hts (.fieldLink RX1 23 "OrderRows2" "ringTold" "[I") (by decide +kernel)
  refine lv_iload_n hx hb dX1_ring_0 rfl (lv_at hl 1 rfl) ?_
  refine lv_if_lt (tgt := 12) hx hb dX1_ring_1 (by decide) (fun c1_1 => ?_) (fun c1_1 => ?_)
  · have c1_1 : (i).toInt < 0 := (ti_lt (x := i) (y := 0) (a := (i).toInt) (b := 0) rfl rfl).mp c1_1
    refine lv_iconst (v := 0) hx hb dX1_ring_12 (by decide) ?_
    refine lv_goto (tgt := 22) hx hb dX1_ring_13 (by decide) ?_
    exact hret _ _ _ dX1_ring_22 (Or.inr (Or.inr rfl)) (if_neg (by omega)).symm
  · have c1_1 : ¬ ((i).toInt < 0) := mt (ti_lt (x := i) (y := 0) (a := (i).toInt) (b := 0) rfl rfl).mpr c1_1
    refine lv_iload_n hx hb dX1_ring_4 rfl (lv_at hl 1 rfl) ?_
    refine lv_aload_n hx hb dX1_ring_5 rfl (lv_at hl 0 rfl) ?_
    refine va_get (D := G.1) (ci := 2) (v := .int (nI (sG σ).length)) (own := RX1) (C := RX1) (T := TX1) (N := 6) hx hb hts hiX1 hown hK.1 hP 0 rfl rfl 4 (by decide) lf26 (fun _ h9 => h9) rfl dX1_ring_6 ?_
    refine lv_icmp_lt (tgt := 16) hx hb dX1_ring_9 (by decide) (fun c9_2 => ?_) (fun c9_2 => ?_)
    · have c9_2 : (i).toInt < (((sG σ).length : Nat) : Int) := (ti_lt (x := i) (y := (nI (sG σ).length)) (a := (i).toInt) (b := (((sG σ).length : Nat) : Int)) rfl (ti_nI (by omega))).mp c9_2
      refine lv_aload_n hx hb dX1_ring_16 rfl (lv_at hl 0 rfl) ?_
      refine va_get (D := G.1) (ci := 2) (v := .ref a.2.2.2.2) (own := RX1) (C := RX1) (T := TX1) (N := 6) hx hb hts hiX1 hown hK.1 hP 0 rfl rfl 3 (by decide) lf23 (fun _ h9 => h9) rfl dX1_ring_17 ?_
      refine lv_iload_n hx hb dX1_ring_20 rfl (lv_at hl 1 rfl) ?_
      refine my_iald hx hb hK hP 3 rfl ((i).toInt.toNat) (show (i).toInt = (((i).toInt.toNat : Nat) : Int) by omega) (by omega) dX1_ring_21 ?_
      exact hret _ _ _ dX1_ring_22 (Or.inr (Or.inr rfl)) ((hC.2 (i).toInt.toNat (by omega)).trans (if_pos (show 0 ≤ (i).toInt ∧ (i).toInt < ((sG σ).length : Int) by omega)).symm)
    · have c9_2 : ¬ ((i).toInt < (((sG σ).length : Nat) : Int)) := mt (ti_lt (x := i) (y := (nI (sG σ).length)) (a := (i).toInt) (b := (((sG σ).length : Nat) : Int)) rfl (ti_nI (by omega))).mpr c9_2
      refine lv_iconst (v := 0) hx hb dX1_ring_12 (by decide) ?_
      refine lv_goto (tgt := 22) hx hb dX1_ring_13 (by decide) ?_
      exact hret _ _ _ dX1_ring_22 (Or.inr (Or.inr rfl)) (if_neg (by omega)).symm

set_option maxHeartbeats 4000000 in
set_option maxRecDepth 100000 in
/-- strongest -/
theorem c_X1_strongest (l : Launch) (G : GG) (a : AD) (κ : KP) (σ : St) (hI : SI σ) (hC : CI κ σ) (ad wh kd : Int32) (dy : Int64) : RdQ l yX1_strongest wsX1_strongest (rmX 4 140 0 0) G [.ref a.1, .int ad, .int wh, .int kd, .long dy] (WC G a κ σ) (fun r => r = (bst σ ad.toInt wh.toInt kd.toInt dy.toInt (sN σ)).map κ.2.2.2.2.1) := by
  refine rd_of_q (cc := cX1_strongest) (maxL := 9) (by decide +kernel) rfl (Nat.le_of_ble_eq_true rfl) ?_
  intro p e s m args below meth c Q hx hb hml hown hts hP hK hret ls hl
  have hown : s.vm.findClass RX1 = some m.cls := hown
  have hl : lv_has ls 9 [(0, .ref a.1), (1, .int ad), (2, .int wh), (3, .int kd), (4, .long dy)] := hl
  have hP : va_P G.1 vwCl (CW G a (nI (sG σ).length) (sT σ) (sR σ) κ.2.2.2.2.2.1 κ.2.2.2.2.2.2 (pO κ.2.2.2.2.1 (sO σ) (sN σ)) (LW G a.2.1 κ.1 κ.2.1 κ.2.2.1 κ.2.2.2.1 (sN σ))) s.heap := hP
  obtain ⟨hI1, hI2, hI3, hI4, hI5⟩ := id hI
  have hiX1 := (show ∀ w ∈ u_ws RX1 TX1 6, w ∈ wsX1_strongest by decide +kernel)
  have lf10 := hts (.fieldLink RX1 10 "OrderRows2" "orders" "Ljava/util/ArrayList;") (by decide +kernel)
  have cw52 := cwV (R := (rmX 4 140 0 0)) (s := s) (args := args) (rm := (rmX 0 0 0 0)) (mc := 0) (ms := 0) 0 hts gX1_strongest_Jx4a65c_size_8abf5 rfl rfl rfl (by decide +kernel) ⟨Nat.le_of_ble_eq_true rfl, Nat.le_of_ble_eq_true rfl⟩
  have cw65 := cwV (R := (rmX 4 140 0 0)) (s := s) (args := args) (rm := (rmX 3 100 0 0)) (mc := 0) (ms := 0) 1 hts gX1_strongest_X1_find rfl rfl rfl (by decide +kernel) ⟨Nat.le_of_ble_eq_true rfl, Nat.le_of_ble_eq_true rfl⟩
  have cw130 := cwV (R := (rmX 4 140 0 0)) (s := s) (args := args) (rm := (rmX 0 0 0 0)) (mc := 0) (ms := 0) 3 hts gX1_strongest_X0_concerns rfl rfl rfl (by decide +kernel) ⟨Nat.le_of_ble_eq_true rfl, Nat.le_of_ble_eq_true rfl⟩
  have cw134 := cwV (R := (rmX 4 140 0 0)) (s := s) (args := args) (rm := (rmX 0 0 0 0)) (mc := 0) (ms := 0) 1 hts gX1_strongest_X0_isInForce rfl rfl rfl (by decide +kernel) ⟨Nat.le_of_ble_eq_true rfl, Nat.le_of_ble_eq_true rfl⟩
  have hiX0 := (show ∀ w ∈ u_ws RX0 TX0 9, w ∈ wsX1_strongest by decide +kernel)
  have lf105 := hts (.fieldLink RX1 105 "OrderRows2$Order" "kind" "I") (by decide +kernel)
  have cw111 := cwV (R := (rmX 4 140 0 0)) (s := s) (args := args) (rm := (rmX 1 40 0 0)) (mc := 0) (ms := 0) 1 hts gX1_strongest_X1_rankOf rfl rfl rfl (by decide +kernel) ⟨Nat.le_of_ble_eq_true rfl, Nat.le_of_ble_eq_true rfl⟩
  refine lv_null hx hb dX1_strongest_0 ?_
  refine lv_astoreN (lv' := [(6, .null), (0, .ref a.1), (1, .int ad), (2, .int wh), (3, .int kd), (4, .long dy)]) hx hb dX1_strongest_1 hl (by decide) rfl (fun ls hl => ?_)
  refine lv_iconst (v := 1) hx hb dX1_strongest_3 (by decide) ?_
  refine lv_istore (lv' := [(7, .int 1), (6, .null), (0, .ref a.1), (1, .int ad), (2, .int wh), (3, .int kd), (4, .long dy)]) hx hb dX1_strongest_4 hl (by decide) rfl (fun ls hl => ?_)
  have loop6 : ∀ (fu : Nat) (j : Nat) (x7 : Int32), sN σ < j + fu → j ≤ sN σ → x7.toInt = ((j + 1 : Nat) : Int) → ∀ ls : Array Slot, lv_has ls 9 [(7, .int x7), (6, (va_rf ((bst σ ad.toInt wh.toInt kd.toInt dy.toInt j).map κ.2.2.2.2.1))), (0, .ref a.1), (1, .int ad), (2, .int wh), (3, .int kd), (4, .long dy)] → W p l e (rmX 4 140 0 0) s m args below meth c s.heap [] 0 0 Q (F0 m 6 ls []) := by
    intro fu
    induction fu with
    | zero =>
      intro j x7 hfu hjk ej
      exact absurd hfu (by omega)
    | succ fu ih6 =>
      intro j x7 hfu hjk ej ls hl
      cases hbs : (bst σ ad.toInt wh.toInt kd.toInt dy.toInt j) with
      | none =>
        rw [hbs] at hl
        have hl : lv_has ls 9 [(7, .int x7), (6, .null), (0, .ref a.1), (1, .int ad), (2, .int wh), (3, .int kd), (4, .long dy)] := hl
        refine lv_iload hx hb dX1_strongest_6 (lv_at hl 0 rfl) ?_
        refine lv_aload_n hx hb dX1_strongest_8 rfl (lv_at hl 2 rfl) ?_
        refine va_get (D := G.1) (ci := 2) (v := .ref a.2.1) (own := RX1) (C := RX1) (T := TX1) (N := 6) hx hb hts hiX1 hown hK.1 hP 0 rfl rfl 0 (by decide) lf10 (fun _ h9 => h9) rfl dX1_strongest_9 ?_
        refine rdV_i (b := a.2.1) (As := []) (rest := [.int x7]) ⟨hx, hb, hml, hown, hts⟩ (c_Jx4a65c_size_8abf5 l G a.2.1 κ.1 (nI (sN σ)) _) cw52 hK (LW_one (CW_list hP)) 0 rfl rfl rfl rfl hl.1 rfl (Nat.le_of_ble_eq_true rfl) dX1_strongest_12 ⟨Nat.zero_le _, Nat.zero_le _⟩ (fun r1 w1 => ?_)
        have w1 : r1.toInt = (((sN σ) : Nat) : Int) := by rw [w1]; exact ti_nI (by omega)
        refine lv_icmp_gt (tgt := 88) hx hb dX1_strongest_15 (by decide) (fun c15_2 => ?_) (fun c15_2 => ?_)
        · have c15_2 : (((sN σ) : Nat) : Int) < (((j + 1) : Nat) : Int) := (ti_lt (x := r1) (y := x7) (a := (((sN σ) : Nat) : Int)) (b := (((j + 1) : Nat) : Int)) w1 ej).mp c15_2
          refine lv_aloadN hx hb dX1_strongest_88 (lv_at hl 1 rfl) ?_
          obtain rfl : j = sN σ := by omega
          exact hret _ _ none _ dX1_strongest_90 rfl (by rw [hbs]; rfl)
        · have c15_2 : ¬ ((((sN σ) : Nat) : Int) < (((j + 1) : Nat) : Int)) := mt (ti_lt (x := r1) (y := x7) (a := (((sN σ) : Nat) : Int)) (b := (((j + 1) : Nat) : Int)) w1 ej).mpr c15_2
          refine lv_aload_n hx hb dX1_strongest_18 rfl (lv_at hl 2 rfl) ?_
          refine lv_iload hx hb dX1_strongest_19 (lv_at hl 0 rfl) ?_
          refine rdV_q (b := a.1) (As := [.int x7]) (rest := []) ⟨hx, hb, hml, hown, hts⟩ (c_X1_find l G a κ σ hI1 hC x7) cw65 hK hP 2 rfl rfl rfl rfl hl.1 rfl (Nat.le_of_ble_eq_true rfl) dX1_strongest_21 ⟨Nat.zero_le _, Nat.zero_le _⟩ (fun r3 w3 => ?_)
          have w3 : (r3 = none ∧ ¬ (1 ≤ (x7).toInt ∧ (x7).toInt ≤ ((sN σ : Nat) : Int))) ∨ (∃ i, i < sN σ ∧ (x7).toInt = (i : Int) + 1 ∧ r3 = some (κ.2.2.2.2.1 i)) := w3
          have hin : j < sN σ := by omega
          obtain rfl : r3 = some (κ.2.2.2.2.1 j) := by
            rcases w3 with ⟨_, w3⟩ | ⟨i, _, hoi, w3⟩
            · exfalso; omega
            · rw [w3, show i = j by omega]
          refine W.eq (g2 := F0 m 24 ls [.ref (κ.2.2.2.2.1 j)]) rfl ?_
          have hoj := hI4 j hin
          unfold OI at hoj
          refine lv_astore (lv' := [(8, .ref (κ.2.2.2.2.1 j)), (7, .int x7), (6, .null), (0, .ref a.1), (1, .int ad), (2, .int wh), (3, .int kd), (4, .long dy)]) hx hb dX1_strongest_24 hl (by decide) rfl (fun ls hl => ?_)
          refine lv_aload hx hb dX1_strongest_26 (lv_at hl 0 rfl) ?_
          refine lv_ifnull hx hb dX1_strongest_28 ?_
          refine lv_aload hx hb dX1_strongest_31 (lv_at hl 0 rfl) ?_
          refine lv_iload_n hx hb dX1_strongest_33 rfl (lv_at hl 4 rfl) ?_
          refine lv_iload_n hx hb dX1_strongest_34 rfl (lv_at hl 5 rfl) ?_
          refine lv_iload_n hx hb dX1_strongest_35 rfl (lv_at hl 6 rfl) ?_
          refine rdV_i (b := (κ.2.2.2.2.1 j)) (As := [.int ad, .int wh, .int kd]) (rest := []) ⟨hx, hb, hml, hown, hts⟩ (c_X0_concerns l G (κ.2.2.2.2.1 j) (sO σ j) ad wh kd (by omega)) cw130 hK (CW_ord hP hin) 1 rfl rfl rfl rfl hl.1 rfl (Nat.le_of_ble_eq_true rfl) dX1_strongest_36 ⟨Nat.zero_le _, Nat.zero_le _⟩ (fun r36_4 w36_4 => ?_)
          have w36_4 : ((r36_4.toInt = 1 ∧ ((oE (sO σ j)).toInt = (ad).toInt ∧ ((oW (sO σ j)).toInt = -1 ∨ (oW (sO σ j)).toInt = (wh).toInt) ∧ (oK (sO σ j)).toInt % 3 = (kd).toInt)) ∨ (r36_4.toInt = 0 ∧ ¬ ((oE (sO σ j)).toInt = (ad).toInt ∧ ((oW (sO σ j)).toInt = -1 ∨ (oW (sO σ j)).toInt = (wh).toInt) ∧ (oK (sO σ j)).toInt % 3 = (kd).toInt))) := w36_4
          refine lv_if_eq (tgt := 82) hx hb dX1_strongest_39 (by decide) (fun c39_5 => ?_) (fun c39_5 => ?_)
          · have c39_5 : (r36_4).toInt = 0 := (ti_eq (x := r36_4) (y := 0) (a := (r36_4).toInt) (b := 0) rfl rfl).mp c39_5
            obtain ⟨x82_6, e82_6⟩ : ∃ y : Int32, y = x7 + 1 := ⟨_, rfl⟩
            have v82_6 : (x82_6).toInt = ((((j + 1) + 1) : Nat) : Int) := by rw [e82_6]; exact (ti_add (a := (((j + 1) : Nat) : Int)) (b := 1) ej rfl (by omega) (by omega)).trans (by omega)
            refine lv_iinc (v := x82_6) (lv' := [(7, .int x82_6), (8, .ref (κ.2.2.2.2.1 j)), (6, .null), (0, .ref a.1), (1, .int ad), (2, .int wh), (3, .int kd), (4, .long dy)]) hx hb dX1_strongest_82 hl (k := 1) rfl (by rw [e82_6]; rfl) (by decide) rfl (fun ls hl => ?_)
            refine lv_goto (tgt := 6) hx hb dX1_strongest_85 (by decide) ?_
            have hb2 : (bst σ ad.toInt wh.toInt kd.toInt dy.toInt (j + 1)) = none := by
              first | exact (bst_no (by omega)).trans hbs | exact bst_first (by omega) hbs | exact bst_up (by omega) hbs (by show (sR σ (oK (sO σ b)).toInt.toNat).toInt ≤ (sR σ (oK (sO σ j)).toInt.toNat).toInt; omega) | exact bst_keep (by omega) hbs (by show ¬ (sR σ (oK (sO σ b)).toInt.toNat).toInt ≤ (sR σ (oK (sO σ j)).toInt.toNat).toInt; omega)
            exact ih6 (j + 1) x82_6 (by omega) (by omega) v82_6 ls (by rw [hb2]; exact lv_sub hl [0, 2, 3, 4, 5, 6, 7] rfl)
          · have c39_5 : ¬ ((r36_4).toInt = 0) := mt (ti_eq (x := r36_4) (y := 0) (a := (r36_4).toInt) (b := 0) rfl rfl).mpr c39_5
            refine lv_aload hx hb dX1_strongest_42 (lv_at hl 0 rfl) ?_
            refine lv_lload hx hb dX1_strongest_44 (lv_at hl 7 rfl) ?_
            refine rdV_i (b := (κ.2.2.2.2.1 j)) (As := [.long dy]) (rest := []) ⟨hx, hb, hml, hown, hts⟩ (c_X0_isInForce l G (κ.2.2.2.2.1 j) (sO σ j) dy) cw134 hK (CW_ord hP hin) 1 rfl rfl rfl rfl hl.1 rfl (Nat.le_of_ble_eq_true rfl) dX1_strongest_46 ⟨Nat.zero_le _, Nat.zero_le _⟩ (fun r46_7 w46_7 => ?_)
            have w46_7 : ((r46_7.toInt = 1 ∧ ((oF (sO σ j)).toInt ≤ (dy).toInt ∧ (dy).toInt ≤ (oU (sO σ j)).toInt ∧ (dy).toInt < (oX (sO σ j)).toInt)) ∨ (r46_7.toInt = 0 ∧ ¬ ((oF (sO σ j)).toInt ≤ (dy).toInt ∧ (dy).toInt ≤ (oU (sO σ j)).toInt ∧ (dy).toInt < (oX (sO σ j)).toInt))) := w46_7
            refine lv_if_eq (tgt := 82) hx hb dX1_strongest_49 (by decide) (fun c49_8 => ?_) (fun c49_8 => ?_)
            · have c49_8 : (r46_7).toInt = 0 := (ti_eq (x := r46_7) (y := 0) (a := (r46_7).toInt) (b := 0) rfl rfl).mp c49_8
              obtain ⟨x82_9, e82_9⟩ : ∃ y : Int32, y = x7 + 1 := ⟨_, rfl⟩
              have v82_9 : (x82_9).toInt = ((((j + 1) + 1) : Nat) : Int) := by rw [e82_9]; exact (ti_add (a := (((j + 1) : Nat) : Int)) (b := 1) ej rfl (by omega) (by omega)).trans (by omega)
              refine lv_iinc (v := x82_9) (lv' := [(7, .int x82_9), (8, .ref (κ.2.2.2.2.1 j)), (6, .null), (0, .ref a.1), (1, .int ad), (2, .int wh), (3, .int kd), (4, .long dy)]) hx hb dX1_strongest_82 hl (k := 1) rfl (by rw [e82_9]; rfl) (by decide) rfl (fun ls hl => ?_)
              refine lv_goto (tgt := 6) hx hb dX1_strongest_85 (by decide) ?_
              have hb2 : (bst σ ad.toInt wh.toInt kd.toInt dy.toInt (j + 1)) = none := by
                first | exact (bst_no (by omega)).trans hbs | exact bst_first (by omega) hbs | exact bst_up (by omega) hbs (by show (sR σ (oK (sO σ b)).toInt.toNat).toInt ≤ (sR σ (oK (sO σ j)).toInt.toNat).toInt; omega) | exact bst_keep (by omega) hbs (by show ¬ (sR σ (oK (sO σ b)).toInt.toNat).toInt ≤ (sR σ (oK (sO σ j)).toInt.toNat).toInt; omega)
              exact ih6 (j + 1) x82_9 (by omega) (by omega) v82_9 ls (by rw [hb2]; exact lv_sub hl [0, 2, 3, 4, 5, 6, 7] rfl)
            · have c49_8 : ¬ ((r46_7).toInt = 0) := mt (ti_eq (x := r46_7) (y := 0) (a := (r46_7).toInt) (b := 0) rfl rfl).mpr c49_8
              refine lv_aloadN hx hb dX1_strongest_52 (lv_at hl 2 rfl) ?_
              refine lv_ifnullN (tgt := 78) hx hb dX1_strongest_54 (by decide) ?_
              refine lv_aload hx hb dX1_strongest_78 (lv_at hl 0 rfl) ?_
              refine lv_astore (lv' := [(6, .ref (κ.2.2.2.2.1 j)), (8, .ref (κ.2.2.2.2.1 j)), (7, .int x7), (0, .ref a.1), (1, .int ad), (2, .int wh), (3, .int kd), (4, .long dy)]) hx hb dX1_strongest_80 hl (by decide) rfl (fun ls hl => ?_)
              obtain ⟨x82_10, e82_10⟩ : ∃ y : Int32, y = x7 + 1 := ⟨_, rfl⟩
              have v82_10 : (x82_10).toInt = ((((j + 1) + 1) : Nat) : Int) := by rw [e82_10]; exact (ti_add (a := (((j + 1) : Nat) : Int)) (b := 1) ej rfl (by omega) (by omega)).trans (by omega)
              refine lv_iinc (v := x82_10) (lv' := [(7, .int x82_10), (6, .ref (κ.2.2.2.2.1 j)), (8, .ref (κ.2.2.2.2.1 j)), (0, .ref a.1), (1, .int ad), (2, .int wh), (3, .int kd), (4, .long dy)]) hx hb dX1_strongest_82 hl (k := 2) rfl (by rw [e82_10]; rfl) (by decide) rfl (fun ls hl => ?_)
              refine lv_goto (tgt := 6) hx hb dX1_strongest_85 (by decide) ?_
              have hb2 : (bst σ ad.toInt wh.toInt kd.toInt dy.toInt (j + 1)) = some j := by
                first | exact (bst_no (by omega)).trans hbs | exact bst_first (by omega) hbs | exact bst_up (by omega) hbs (by show (sR σ (oK (sO σ b)).toInt.toNat).toInt ≤ (sR σ (oK (sO σ j)).toInt.toNat).toInt; omega) | exact bst_keep (by omega) hbs (by show ¬ (sR σ (oK (sO σ b)).toInt.toNat).toInt ≤ (sR σ (oK (sO σ j)).toInt.toNat).toInt; omega)
              exact ih6 (j + 1) x82_10 (by omega) (by omega) v82_10 ls (by rw [hb2]; exact lv_sub hl [0, 1, 3, 4, 5, 6, 7] rfl)
      | some b =>
        rw [hbs] at hl
        have hl : lv_has ls 9 [(7, .int x7), (6, .ref (κ.2.2.2.2.1 b)), (0, .ref a.1), (1, .int ad), (2, .int wh), (3, .int kd), (4, .long dy)] := hl
        have hbj := bst_lt hbs
        have hbn : b < sN σ := by omega
        have hob := hI4 b hbn
        unfold OI at hob
        refine lv_iload hx hb dX1_strongest_6 (lv_at hl 0 rfl) ?_
        refine lv_aload_n hx hb dX1_strongest_8 rfl (lv_at hl 2 rfl) ?_
        refine va_get (D := G.1) (ci := 2) (v := .ref a.2.1) (own := RX1) (C := RX1) (T := TX1) (N := 6) hx hb hts hiX1 hown hK.1 hP 0 rfl rfl 0 (by decide) lf10 (fun _ h9 => h9) rfl dX1_strongest_9 ?_
        refine rdV_i (b := a.2.1) (As := []) (rest := [.int x7]) ⟨hx, hb, hml, hown, hts⟩ (c_Jx4a65c_size_8abf5 l G a.2.1 κ.1 (nI (sN σ)) _) cw52 hK (LW_one (CW_list hP)) 0 rfl rfl rfl rfl hl.1 rfl (Nat.le_of_ble_eq_true rfl) dX1_strongest_12 ⟨Nat.zero_le _, Nat.zero_le _⟩ (fun r11 w11 => ?_)
        have w11 : r11.toInt = (((sN σ) : Nat) : Int) := by rw [w11]; exact ti_nI (by omega)
        refine lv_icmp_gt (tgt := 88) hx hb dX1_strongest_15 (by decide) (fun c15_12 => ?_) (fun c15_12 => ?_)
        · have c15_12 : (((sN σ) : Nat) : Int) < (((j + 1) : Nat) : Int) := (ti_lt (x := r11) (y := x7) (a := (((sN σ) : Nat) : Int)) (b := (((j + 1) : Nat) : Int)) w11 ej).mp c15_12
          refine lv_aload hx hb dX1_strongest_88 (lv_at hl 1 rfl) ?_
          obtain rfl : j = sN σ := by omega
          exact hret _ _ (some (κ.2.2.2.2.1 b)) _ dX1_strongest_90 rfl (by rw [hbs]; rfl)
        · have c15_12 : ¬ ((((sN σ) : Nat) : Int) < (((j + 1) : Nat) : Int)) := mt (ti_lt (x := r11) (y := x7) (a := (((sN σ) : Nat) : Int)) (b := (((j + 1) : Nat) : Int)) w11 ej).mpr c15_12
          refine lv_aload_n hx hb dX1_strongest_18 rfl (lv_at hl 2 rfl) ?_
          refine lv_iload hx hb dX1_strongest_19 (lv_at hl 0 rfl) ?_
          refine rdV_q (b := a.1) (As := [.int x7]) (rest := []) ⟨hx, hb, hml, hown, hts⟩ (c_X1_find l G a κ σ hI1 hC x7) cw65 hK hP 2 rfl rfl rfl rfl hl.1 rfl (Nat.le_of_ble_eq_true rfl) dX1_strongest_21 ⟨Nat.zero_le _, Nat.zero_le _⟩ (fun r13 w13 => ?_)
          have w13 : (r13 = none ∧ ¬ (1 ≤ (x7).toInt ∧ (x7).toInt ≤ ((sN σ : Nat) : Int))) ∨ (∃ i, i < sN σ ∧ (x7).toInt = (i : Int) + 1 ∧ r13 = some (κ.2.2.2.2.1 i)) := w13
          have hin : j < sN σ := by omega
          obtain rfl : r13 = some (κ.2.2.2.2.1 j) := by
            rcases w13 with ⟨_, w13⟩ | ⟨i, _, hoi, w13⟩
            · exfalso; omega
            · rw [w13, show i = j by omega]
          refine W.eq (g2 := F0 m 24 ls [.ref (κ.2.2.2.2.1 j)]) rfl ?_
          have hoj := hI4 j hin
          unfold OI at hoj
          refine lv_astore (lv' := [(8, .ref (κ.2.2.2.2.1 j)), (7, .int x7), (6, .ref (κ.2.2.2.2.1 b)), (0, .ref a.1), (1, .int ad), (2, .int wh), (3, .int kd), (4, .long dy)]) hx hb dX1_strongest_24 hl (by decide) rfl (fun ls hl => ?_)
          refine lv_aload hx hb dX1_strongest_26 (lv_at hl 0 rfl) ?_
          refine lv_ifnull hx hb dX1_strongest_28 ?_
          refine lv_aload hx hb dX1_strongest_31 (lv_at hl 0 rfl) ?_
          refine lv_iload_n hx hb dX1_strongest_33 rfl (lv_at hl 4 rfl) ?_
          refine lv_iload_n hx hb dX1_strongest_34 rfl (lv_at hl 5 rfl) ?_
          refine lv_iload_n hx hb dX1_strongest_35 rfl (lv_at hl 6 rfl) ?_
          refine rdV_i (b := (κ.2.2.2.2.1 j)) (As := [.int ad, .int wh, .int kd]) (rest := []) ⟨hx, hb, hml, hown, hts⟩ (c_X0_concerns l G (κ.2.2.2.2.1 j) (sO σ j) ad wh kd (by omega)) cw130 hK (CW_ord hP hin) 1 rfl rfl rfl rfl hl.1 rfl (Nat.le_of_ble_eq_true rfl) dX1_strongest_36 ⟨Nat.zero_le _, Nat.zero_le _⟩ (fun r36_14 w36_14 => ?_)
          have w36_14 : ((r36_14.toInt = 1 ∧ ((oE (sO σ j)).toInt = (ad).toInt ∧ ((oW (sO σ j)).toInt = -1 ∨ (oW (sO σ j)).toInt = (wh).toInt) ∧ (oK (sO σ j)).toInt % 3 = (kd).toInt)) ∨ (r36_14.toInt = 0 ∧ ¬ ((oE (sO σ j)).toInt = (ad).toInt ∧ ((oW (sO σ j)).toInt = -1 ∨ (oW (sO σ j)).toInt = (wh).toInt) ∧ (oK (sO σ j)).toInt % 3 = (kd).toInt))) := w36_14
          refine lv_if_eq (tgt := 82) hx hb dX1_strongest_39 (by decide) (fun c39_15 => ?_) (fun c39_15 => ?_)
          · have c39_15 : (r36_14).toInt = 0 := (ti_eq (x := r36_14) (y := 0) (a := (r36_14).toInt) (b := 0) rfl rfl).mp c39_15
            obtain ⟨x82_16, e82_16⟩ : ∃ y : Int32, y = x7 + 1 := ⟨_, rfl⟩
            have v82_16 : (x82_16).toInt = ((((j + 1) + 1) : Nat) : Int) := by rw [e82_16]; exact (ti_add (a := (((j + 1) : Nat) : Int)) (b := 1) ej rfl (by omega) (by omega)).trans (by omega)
            refine lv_iinc (v := x82_16) (lv' := [(7, .int x82_16), (8, .ref (κ.2.2.2.2.1 j)), (6, .ref (κ.2.2.2.2.1 b)), (0, .ref a.1), (1, .int ad), (2, .int wh), (3, .int kd), (4, .long dy)]) hx hb dX1_strongest_82 hl (k := 1) rfl (by rw [e82_16]; rfl) (by decide) rfl (fun ls hl => ?_)
            refine lv_goto (tgt := 6) hx hb dX1_strongest_85 (by decide) ?_
            have hb2 : (bst σ ad.toInt wh.toInt kd.toInt dy.toInt (j + 1)) = some b := by
              first | exact (bst_no (by omega)).trans hbs | exact bst_first (by omega) hbs | exact bst_up (by omega) hbs (by show (sR σ (oK (sO σ b)).toInt.toNat).toInt ≤ (sR σ (oK (sO σ j)).toInt.toNat).toInt; omega) | exact bst_keep (by omega) hbs (by show ¬ (sR σ (oK (sO σ b)).toInt.toNat).toInt ≤ (sR σ (oK (sO σ j)).toInt.toNat).toInt; omega)
            exact ih6 (j + 1) x82_16 (by omega) (by omega) v82_16 ls (by rw [hb2]; exact lv_sub hl [0, 2, 3, 4, 5, 6, 7] rfl)
          · have c39_15 : ¬ ((r36_14).toInt = 0) := mt (ti_eq (x := r36_14) (y := 0) (a := (r36_14).toInt) (b := 0) rfl rfl).mpr c39_15
            refine lv_aload hx hb dX1_strongest_42 (lv_at hl 0 rfl) ?_
            refine lv_lload hx hb dX1_strongest_44 (lv_at hl 7 rfl) ?_
            refine rdV_i (b := (κ.2.2.2.2.1 j)) (As := [.long dy]) (rest := []) ⟨hx, hb, hml, hown, hts⟩ (c_X0_isInForce l G (κ.2.2.2.2.1 j) (sO σ j) dy) cw134 hK (CW_ord hP hin) 1 rfl rfl rfl rfl hl.1 rfl (Nat.le_of_ble_eq_true rfl) dX1_strongest_46 ⟨Nat.zero_le _, Nat.zero_le _⟩ (fun r46_17 w46_17 => ?_)
            have w46_17 : ((r46_17.toInt = 1 ∧ ((oF (sO σ j)).toInt ≤ (dy).toInt ∧ (dy).toInt ≤ (oU (sO σ j)).toInt ∧ (dy).toInt < (oX (sO σ j)).toInt)) ∨ (r46_17.toInt = 0 ∧ ¬ ((oF (sO σ j)).toInt ≤ (dy).toInt ∧ (dy).toInt ≤ (oU (sO σ j)).toInt ∧ (dy).toInt < (oX (sO σ j)).toInt))) := w46_17
            refine lv_if_eq (tgt := 82) hx hb dX1_strongest_49 (by decide) (fun c49_18 => ?_) (fun c49_18 => ?_)
            · have c49_18 : (r46_17).toInt = 0 := (ti_eq (x := r46_17) (y := 0) (a := (r46_17).toInt) (b := 0) rfl rfl).mp c49_18
              obtain ⟨x82_19, e82_19⟩ : ∃ y : Int32, y = x7 + 1 := ⟨_, rfl⟩
              have v82_19 : (x82_19).toInt = ((((j + 1) + 1) : Nat) : Int) := by rw [e82_19]; exact (ti_add (a := (((j + 1) : Nat) : Int)) (b := 1) ej rfl (by omega) (by omega)).trans (by omega)
              refine lv_iinc (v := x82_19) (lv' := [(7, .int x82_19), (8, .ref (κ.2.2.2.2.1 j)), (6, .ref (κ.2.2.2.2.1 b)), (0, .ref a.1), (1, .int ad), (2, .int wh), (3, .int kd), (4, .long dy)]) hx hb dX1_strongest_82 hl (k := 1) rfl (by rw [e82_19]; rfl) (by decide) rfl (fun ls hl => ?_)
              refine lv_goto (tgt := 6) hx hb dX1_strongest_85 (by decide) ?_
              have hb2 : (bst σ ad.toInt wh.toInt kd.toInt dy.toInt (j + 1)) = some b := by
                first | exact (bst_no (by omega)).trans hbs | exact bst_first (by omega) hbs | exact bst_up (by omega) hbs (by show (sR σ (oK (sO σ b)).toInt.toNat).toInt ≤ (sR σ (oK (sO σ j)).toInt.toNat).toInt; omega) | exact bst_keep (by omega) hbs (by show ¬ (sR σ (oK (sO σ b)).toInt.toNat).toInt ≤ (sR σ (oK (sO σ j)).toInt.toNat).toInt; omega)
              exact ih6 (j + 1) x82_19 (by omega) (by omega) v82_19 ls (by rw [hb2]; exact lv_sub hl [0, 2, 3, 4, 5, 6, 7] rfl)
            · have c49_18 : ¬ ((r46_17).toInt = 0) := mt (ti_eq (x := r46_17) (y := 0) (a := (r46_17).toInt) (b := 0) rfl rfl).mpr c49_18
              refine lv_aload hx hb dX1_strongest_52 (lv_at hl 2 rfl) ?_
              refine lv_ifnull hx hb dX1_strongest_54 ?_
              refine lv_aload_n hx hb dX1_strongest_57 rfl (lv_at hl 3 rfl) ?_
              refine lv_aload hx hb dX1_strongest_58 (lv_at hl 0 rfl) ?_
              refine va_get (D := G.1) (ci := 1) (v := .int (oK (sO σ j))) (own := RX1) (C := RX0) (T := TX0) (N := 9) hx hb hts hiX0 hown hK.1 hP (j + 4) (CW_get hin) rfl 0 (by decide) lf105 (fun _ h9 => h9) rfl dX1_strongest_60 ?_
              refine rdV_i (b := a.1) (As := [.int (oK (sO σ j))]) (rest := []) ⟨hx, hb, hml, hown, hts⟩ (c_X1_rankOf l G a κ σ hI hC (oK (sO σ j)) (by omega) (by omega)) cw111 hK hP 2 rfl rfl rfl rfl hl.1 rfl (Nat.le_of_ble_eq_true rfl) dX1_strongest_63 ⟨Nat.zero_le _, Nat.zero_le _⟩ (fun r20 w20 => ?_)
              have w20 : r20 = sR σ ((oK (sO σ j))).toInt.toNat := w20
              subst w20
              refine lv_aload_n hx hb dX1_strongest_66 rfl (lv_at hl 3 rfl) ?_
              refine lv_aload hx hb dX1_strongest_67 (lv_at hl 2 rfl) ?_
              refine va_get (D := G.1) (ci := 1) (v := .int (oK (sO σ b))) (own := RX1) (C := RX0) (T := TX0) (N := 9) hx hb hts hiX0 hown hK.1 hP (b + 4) (CW_get hbn) rfl 0 (by decide) lf105 (fun _ h9 => h9) rfl dX1_strongest_69 ?_
              refine rdV_i (b := a.1) (As := [.int (oK (sO σ b))]) (rest := [.int (sR σ ((oK (sO σ j))).toInt.toNat)]) ⟨hx, hb, hml, hown, hts⟩ (c_X1_rankOf l G a κ σ hI hC (oK (sO σ b)) (by omega) (by omega)) cw111 hK hP 2 rfl rfl rfl rfl hl.1 rfl (Nat.le_of_ble_eq_true rfl) dX1_strongest_72 ⟨Nat.zero_le _, Nat.zero_le _⟩ (fun r21 w21 => ?_)
              have w21 : r21 = sR σ ((oK (sO σ b))).toInt.toNat := w21
              subst w21
              refine lv_icmp_lt (tgt := 82) hx hb dX1_strongest_75 (by decide) (fun c75_22 => ?_) (fun c75_22 => ?_)
              · have c75_22 : ((sR σ ((oK (sO σ j))).toInt.toNat)).toInt < ((sR σ ((oK (sO σ b))).toInt.toNat)).toInt := (ti_lt (x := (sR σ ((oK (sO σ j))).toInt.toNat)) (y := (sR σ ((oK (sO σ b))).toInt.toNat)) (a := ((sR σ ((oK (sO σ j))).toInt.toNat)).toInt) (b := ((sR σ ((oK (sO σ b))).toInt.toNat)).toInt) rfl rfl).mp c75_22
                obtain ⟨x82_23, e82_23⟩ : ∃ y : Int32, y = x7 + 1 := ⟨_, rfl⟩
                have v82_23 : (x82_23).toInt = ((((j + 1) + 1) : Nat) : Int) := by rw [e82_23]; exact (ti_add (a := (((j + 1) : Nat) : Int)) (b := 1) ej rfl (by omega) (by omega)).trans (by omega)
                refine lv_iinc (v := x82_23) (lv' := [(7, .int x82_23), (8, .ref (κ.2.2.2.2.1 j)), (6, .ref (κ.2.2.2.2.1 b)), (0, .ref a.1), (1, .int ad), (2, .int wh), (3, .int kd), (4, .long dy)]) hx hb dX1_strongest_82 hl (k := 1) rfl (by rw [e82_23]; rfl) (by decide) rfl (fun ls hl => ?_)
                refine lv_goto (tgt := 6) hx hb dX1_strongest_85 (by decide) ?_
                have hb2 : (bst σ ad.toInt wh.toInt kd.toInt dy.toInt (j + 1)) = some b := by
                  first | exact (bst_no (by omega)).trans hbs | exact bst_first (by omega) hbs | exact bst_up (by omega) hbs (by show (sR σ (oK (sO σ b)).toInt.toNat).toInt ≤ (sR σ (oK (sO σ j)).toInt.toNat).toInt; omega) | exact bst_keep (by omega) hbs (by show ¬ (sR σ (oK (sO σ b)).toInt.toNat).toInt ≤ (sR σ (oK (sO σ j)).toInt.toNat).toInt; omega)
                exact ih6 (j + 1) x82_23 (by omega) (by omega) v82_23 ls (by rw [hb2]; exact lv_sub hl [0, 2, 3, 4, 5, 6, 7] rfl)
              · have c75_22 : ¬ (((sR σ ((oK (sO σ j))).toInt.toNat)).toInt < ((sR σ ((oK (sO σ b))).toInt.toNat)).toInt) := mt (ti_lt (x := (sR σ ((oK (sO σ j))).toInt.toNat)) (y := (sR σ ((oK (sO σ b))).toInt.toNat)) (a := ((sR σ ((oK (sO σ j))).toInt.toNat)).toInt) (b := ((sR σ ((oK (sO σ b))).toInt.toNat)).toInt) rfl rfl).mpr c75_22
                refine lv_aload hx hb dX1_strongest_78 (lv_at hl 0 rfl) ?_
                refine lv_astore (lv' := [(6, .ref (κ.2.2.2.2.1 j)), (8, .ref (κ.2.2.2.2.1 j)), (7, .int x7), (0, .ref a.1), (1, .int ad), (2, .int wh), (3, .int kd), (4, .long dy)]) hx hb dX1_strongest_80 hl (by decide) rfl (fun ls hl => ?_)
                obtain ⟨x82_24, e82_24⟩ : ∃ y : Int32, y = x7 + 1 := ⟨_, rfl⟩
                have v82_24 : (x82_24).toInt = ((((j + 1) + 1) : Nat) : Int) := by rw [e82_24]; exact (ti_add (a := (((j + 1) : Nat) : Int)) (b := 1) ej rfl (by omega) (by omega)).trans (by omega)
                refine lv_iinc (v := x82_24) (lv' := [(7, .int x82_24), (6, .ref (κ.2.2.2.2.1 j)), (8, .ref (κ.2.2.2.2.1 j)), (0, .ref a.1), (1, .int ad), (2, .int wh), (3, .int kd), (4, .long dy)]) hx hb dX1_strongest_82 hl (k := 2) rfl (by rw [e82_24]; rfl) (by decide) rfl (fun ls hl => ?_)
                refine lv_goto (tgt := 6) hx hb dX1_strongest_85 (by decide) ?_
                have hb2 : (bst σ ad.toInt wh.toInt kd.toInt dy.toInt (j + 1)) = some j := by
                  first | exact (bst_no (by omega)).trans hbs | exact bst_first (by omega) hbs | exact bst_up (by omega) hbs (by show (sR σ (oK (sO σ b)).toInt.toNat).toInt ≤ (sR σ (oK (sO σ j)).toInt.toNat).toInt; omega) | exact bst_keep (by omega) hbs (by show ¬ (sR σ (oK (sO σ b)).toInt.toNat).toInt ≤ (sR σ (oK (sO σ j)).toInt.toNat).toInt; omega)
                exact ih6 (j + 1) x82_24 (by omega) (by omega) v82_24 ls (by rw [hb2]; exact lv_sub hl [0, 1, 3, 4, 5, 6, 7] rfl)
  exact loop6 (sN σ + 1) 0 1 (by omega) (Nat.zero_le _) rfl ls (lv_sub hl [0, 1, 2, 3, 4, 5, 6] rfl)

set_option maxHeartbeats 4000000 in
set_option maxRecDepth 100000 in
/-- told -/
theorem c_X1_told (l : Launch) (G : GG) (a : AD) (κ : KP) (σ : St) (hI : SI σ) (hC : CI κ σ) (s0 i : Int32) : RdI l yX1_told wsX1_told (rmX 4 140 0 0) G [.ref a.1, .int s0, .int i] (WC G a κ σ) (fun r => r = fTold σ s0 i) := by
  refine rd_of_i (cc := cX1_told) (maxL := 6) (t := .int) (by decide +kernel) rfl (Nat.le_of_ble_eq_true rfl) nar_int ?_
  intro p e s m args below meth c Q hx hb hml hown hts hP hK hret ls hl
  have hown : s.vm.findClass RX1 = some m.cls := hown
  have hl : lv_has ls 6 [(0, .ref a.1), (1, .int s0), (2, .int i)] := hl
  have hP : va_P G.1 vwCl (CW G a (nI (sG σ).length) (sT σ) (sR σ) κ.2.2.2.2.2.1 κ.2.2.2.2.2.2 (pO κ.2.2.2.2.1 (sO σ) (sN σ)) (LW G a.2.1 κ.1 κ.2.1 κ.2.2.1 κ.2.2.2.1 (sN σ))) s.heap := hP
  obtain ⟨hI1, hI2, hI3, hI4, hI5⟩ := id hI
  have cw45 := va_cwS (R := (rmX 4 140 0 0)) (s := s) (args := args) (rm := (rmX 0 0 0 0)) (mc := 0) (ms := 0) 1 hts gX1_told_X1_isPerson rfl rfl rfl (by decide +kernel) ⟨Nat.le_of_ble_eq_true rfl, Nat.le_of_ble_eq_true rfl⟩
  have hiX1 := (show ∀ w ∈ u_ws RX1 TX1 6, w ∈ wsX1_told by decide +kernel)
  have lf10 := hts (.fieldLink RX1 10 "OrderRows2" "orders" "Ljava/util/ArrayList;") (by decide +kernel)
  have cw52 := cwV (R := (rmX 4 140 0 0)) (s := s) (args := args) (rm := (rmX 0 0 0 0)) (mc := 0) (ms := 0) 0 hts gX1_told_Jx4a65c_size_8abf5 rfl rfl rfl (by decide +kernel) ⟨Nat.le_of_ble_eq_true rfl, Nat.le_of_ble_eq_true rfl⟩
  have cw65 := cwV (R := (rmX 4 140 0 0)) (s := s) (args := args) (rm := (rmX 3 100 0 0)) (mc := 0) (ms := 0) 1 hts gX1_told_X1_find rfl rfl rfl (by decide +kernel) ⟨Nat.le_of_ble_eq_true rfl, Nat.le_of_ble_eq_true rfl⟩
  have lf30 := hts (.fieldLink RX1 30 "OrderRows2" "clock" "J") (by decide +kernel)
  have cw117 := cwV (R := (rmX 4 140 0 0)) (s := s) (args := args) (rm := (rmX 2 70 0 0)) (mc := 0) (ms := 0) 2 hts gX1_told_X0_isToldTo rfl rfl rfl (by decide +kernel) ⟨Nat.le_of_ble_eq_true rfl, Nat.le_of_ble_eq_true rfl⟩
  refine lv_iload_n hx hb dX1_told_0 rfl (lv_at hl 1 rfl) ?_
  refine rdS_i (As := [.int s0]) (rest := []) ⟨hx, hb, hml, hown, hts⟩ (c_X1_isPerson l G s0) cw45 hK va_P.nil rfl hl.1 rfl (Nat.le_of_ble_eq_true rfl) dX1_told_1 ⟨Nat.zero_le _, Nat.zero_le _⟩ (fun r1_1 w1_1 => ?_)
  have w1_1 : ((r1_1.toInt = 1 ∧ (0 ≤ (s0).toInt ∧ (s0).toInt ≤ 49)) ∨ (r1_1.toInt = 0 ∧ ¬ (0 ≤ (s0).toInt ∧ (s0).toInt ≤ 49))) := w1_1
  refine lv_if_ne (tgt := 10) hx hb dX1_told_4 (by decide) (fun c4_2 => ?_) (fun c4_2 => ?_)
  · have c4_2 : ¬ ((r1_1).toInt = 0) := mt (ti_eq (x := r1_1) (y := 0) (a := (r1_1).toInt) (b := 0) rfl rfl).mpr c4_2
    refine lv_iconst (v := 0) hx hb dX1_told_10 (by decide) ?_
    refine lv_istore_n (lv' := [(3, .int 0), (0, .ref a.1), (1, .int s0), (2, .int i)]) hx hb dX1_told_11 rfl hl (by decide) rfl (fun ls hl => ?_)
    refine lv_iconst (v := 1) hx hb dX1_told_12 (by decide) ?_
    refine lv_istore (lv' := [(4, .int 1), (3, .int 0), (0, .ref a.1), (1, .int s0), (2, .int i)]) hx hb dX1_told_13 hl (by decide) rfl (fun ls hl => ?_)
    have loop15 : ∀ (fu : Nat) (k cn : Nat) (x4 x3 : Int32), sN σ < k + fu → k ≤ sN σ → cn ≤ k → x4.toInt = ((k + 1 : Nat) : Int) → x3.toInt = (cn : Int) → tdL σ s0.toInt i.toInt (sN σ - k) k cn = tdL σ s0.toInt i.toInt (sN σ) 0 0 → ∀ ls : Array Slot, lv_has ls 6 [(4, .int x4), (3, .int x3), (0, .ref a.1), (1, .int s0), (2, .int i)] → W p l e (rmX 4 140 0 0) s m args below meth c s.heap [] 0 0 Q (F0 m 15 ls []) := by
      intro fu
      induction fu with
      | zero =>
        intro k cn x4 x3 hfu hkn hcn e4 e3 hT
        exact absurd hfu (by omega)
      | succ fu ih15 =>
        intro k cn x4 x3 hfu hkn hcn e4 e3 hT ls hl
        refine lv_iload hx hb dX1_told_15 (lv_at hl 0 rfl) ?_
        refine lv_aload_n hx hb dX1_told_17 rfl (lv_at hl 2 rfl) ?_
        refine va_get (D := G.1) (ci := 2) (v := .ref a.2.1) (own := RX1) (C := RX1) (T := TX1) (N := 6) hx hb hts hiX1 hown hK.1 hP 0 rfl rfl 0 (by decide) lf10 (fun _ h9 => h9) rfl dX1_told_18 ?_
        refine rdV_i (b := a.2.1) (As := []) (rest := [.int x4]) ⟨hx, hb, hml, hown, hts⟩ (c_Jx4a65c_size_8abf5 l G a.2.1 κ.1 (nI (sN σ)) _) cw52 hK (LW_one (CW_list hP)) 0 rfl rfl rfl rfl hl.1 rfl (Nat.le_of_ble_eq_true rfl) dX1_told_21 ⟨Nat.zero_le _, Nat.zero_le _⟩ (fun r3 w3 => ?_)
        have w3 : r3.toInt = (((sN σ) : Nat) : Int) := by rw [w3]; exact ti_nI (by omega)
        refine lv_icmp_gt (tgt := 70) hx hb dX1_told_24 (by decide) (fun c24_4 => ?_) (fun c24_4 => ?_)
        · have c24_4 : (((sN σ) : Nat) : Int) < (((k + 1) : Nat) : Int) := (ti_lt (x := r3) (y := x4) (a := (((sN σ) : Nat) : Int)) (b := (((k + 1) : Nat) : Int)) w3 e4).mp c24_4
          refine lv_iconst (v := 0) hx hb dX1_told_70 (by decide) ?_
          have er : sN σ - k = 0 := by omega
          rw [er] at hT
          exact hret _ _ _ dX1_told_71 (Or.inr (Or.inr rfl)) ((if_neg (show ¬ ¬ (0 ≤ s0.toInt ∧ s0.toInt ≤ 49) by omega)).trans hT.symm).symm
        · have c24_4 : ¬ ((((sN σ) : Nat) : Int) < (((k + 1) : Nat) : Int)) := mt (ti_lt (x := r3) (y := x4) (a := (((sN σ) : Nat) : Int)) (b := (((k + 1) : Nat) : Int)) w3 e4).mpr c24_4
          refine lv_aload_n hx hb dX1_told_27 rfl (lv_at hl 2 rfl) ?_
          refine lv_iload hx hb dX1_told_28 (lv_at hl 0 rfl) ?_
          refine rdV_q (b := a.1) (As := [.int x4]) (rest := []) ⟨hx, hb, hml, hown, hts⟩ (c_X1_find l G a κ σ hI1 hC x4) cw65 hK hP 2 rfl rfl rfl rfl hl.1 rfl (Nat.le_of_ble_eq_true rfl) dX1_told_30 ⟨Nat.zero_le _, Nat.zero_le _⟩ (fun r5 w5 => ?_)
          have w5 : (r5 = none ∧ ¬ (1 ≤ (x4).toInt ∧ (x4).toInt ≤ ((sN σ : Nat) : Int))) ∨ (∃ i, i < sN σ ∧ (x4).toInt = (i : Int) + 1 ∧ r5 = some (κ.2.2.2.2.1 i)) := w5
          have hin : k < sN σ := by omega
          obtain rfl : r5 = some (κ.2.2.2.2.1 k) := by
            rcases w5 with ⟨_, w5⟩ | ⟨i, _, hoi, w5⟩
            · exfalso; omega
            · rw [w5, show i = k by omega]
          refine W.eq (g2 := F0 m 33 ls [.ref (κ.2.2.2.2.1 k)]) rfl ?_
          have hoj := hI4 k hin
          unfold OI at hoj
          refine lv_astore (lv' := [(5, .ref (κ.2.2.2.2.1 k)), (4, .int x4), (3, .int x3), (0, .ref a.1), (1, .int s0), (2, .int i)]) hx hb dX1_told_33 hl (by decide) rfl (fun ls hl => ?_)
          refine lv_aload hx hb dX1_told_35 (lv_at hl 0 rfl) ?_
          refine lv_ifnull hx hb dX1_told_37 ?_
          refine lv_aload hx hb dX1_told_40 (lv_at hl 0 rfl) ?_
          refine lv_iload_n hx hb dX1_told_42 rfl (lv_at hl 4 rfl) ?_
          refine lv_aload_n hx hb dX1_told_43 rfl (lv_at hl 3 rfl) ?_
          refine va_get (D := G.1) (ci := 2) (v := .long (sT σ)) (own := RX1) (C := RX1) (T := TX1) (N := 6) hx hb hts hiX1 hown hK.1 hP 0 rfl rfl 5 (by decide) lf30 (fun _ h9 => h9) rfl dX1_told_44 ?_
          refine rdV_i (b := (κ.2.2.2.2.1 k)) (As := [.int s0, .long (sT σ)]) (rest := []) ⟨hx, hb, hml, hown, hts⟩ (c_X0_isToldTo l G (κ.2.2.2.2.1 k) (sO σ k) s0 (sT σ) (by omega)) cw117 hK (CW_ord hP hin) 1 rfl rfl rfl rfl hl.1 rfl (Nat.le_of_ble_eq_true rfl) dX1_told_47 ⟨Nat.zero_le _, Nat.zero_le _⟩ (fun r47_6 w47_6 => ?_)
          have w47_6 : ((r47_6.toInt = 1 ∧ ((oW (sO σ k)).toInt = (s0).toInt ∧ (oP (sO σ k)).toInt ≠ 0 ∧ (oK (sO σ k)).toInt < 3 ∧ (oF (sO σ k)).toInt ≤ ((sT σ)).toInt ∧ ((sT σ)).toInt ≤ (oU (sO σ k)).toInt ∧ ((sT σ)).toInt < (oX (sO σ k)).toInt)) ∨ (r47_6.toInt = 0 ∧ ¬ ((oW (sO σ k)).toInt = (s0).toInt ∧ (oP (sO σ k)).toInt ≠ 0 ∧ (oK (sO σ k)).toInt < 3 ∧ (oF (sO σ k)).toInt ≤ ((sT σ)).toInt ∧ ((sT σ)).toInt ≤ (oU (sO σ k)).toInt ∧ ((sT σ)).toInt < (oX (sO σ k)).toInt))) := w47_6
          refine lv_if_eq (tgt := 64) hx hb dX1_told_50 (by decide) (fun c50_7 => ?_) (fun c50_7 => ?_)
          · have c50_7 : (r47_6).toInt = 0 := (ti_eq (x := r47_6) (y := 0) (a := (r47_6).toInt) (b := 0) rfl rfl).mp c50_7
            obtain ⟨x64_8, e64_8⟩ : ∃ y : Int32, y = x4 + 1 := ⟨_, rfl⟩
            have v64_8 : (x64_8).toInt = ((((k + 1) + 1) : Nat) : Int) := by rw [e64_8]; exact (ti_add (a := (((k + 1) : Nat) : Int)) (b := 1) e4 rfl (by omega) (by omega)).trans (by omega)
            refine lv_iinc (v := x64_8) (lv' := [(4, .int x64_8), (5, .ref (κ.2.2.2.2.1 k)), (3, .int x3), (0, .ref a.1), (1, .int s0), (2, .int i)]) hx hb dX1_told_64 hl (k := 1) rfl (by rw [e64_8]; rfl) (by decide) rfl (fun ls hl => ?_)
            refine lv_goto (tgt := 15) hx hb dX1_told_67 (by decide) ?_
            have er : sN σ - k = (sN σ - (k + 1)) + 1 := by omega
            exact ih15 (k + 1) cn x64_8 x3 (by omega) (by omega) (by omega) v64_8 e3 (by rw [← hT, er]; exact (tdL_n (by omega)).symm) ls (lv_sub hl [0, 2, 3, 4, 5] rfl)
          · have c50_7 : ¬ ((r47_6).toInt = 0) := mt (ti_eq (x := r47_6) (y := 0) (a := (r47_6).toInt) (b := 0) rfl rfl).mpr c50_7
            refine lv_iload_n hx hb dX1_told_53 rfl (lv_at hl 2 rfl) ?_
            refine lv_iload_n hx hb dX1_told_54 rfl (lv_at hl 5 rfl) ?_
            refine lv_icmp_ne (tgt := 61) hx hb dX1_told_55 (by decide) (fun c55_9 => ?_) (fun c55_9 => ?_)
            · have c55_9 : ¬ (((cn : Nat) : Int) = (i).toInt) := mt (ti_eq (x := x3) (y := i) (a := ((cn : Nat) : Int)) (b := (i).toInt) e3 rfl).mpr c55_9
              obtain ⟨x61_10, e61_10⟩ : ∃ y : Int32, y = x3 + 1 := ⟨_, rfl⟩
              have v61_10 : (x61_10).toInt = (((cn + 1) : Nat) : Int) := by rw [e61_10]; exact (ti_add (a := ((cn : Nat) : Int)) (b := 1) e3 rfl (by omega) (by omega)).trans (by omega)
              refine lv_iinc (v := x61_10) (lv' := [(3, .int x61_10), (5, .ref (κ.2.2.2.2.1 k)), (4, .int x4), (0, .ref a.1), (1, .int s0), (2, .int i)]) hx hb dX1_told_61 hl (k := 2) rfl (by rw [e61_10]; rfl) (by decide) rfl (fun ls hl => ?_)
              obtain ⟨x64_11, e64_11⟩ : ∃ y : Int32, y = x4 + 1 := ⟨_, rfl⟩
              have v64_11 : (x64_11).toInt = ((((k + 1) + 1) : Nat) : Int) := by rw [e64_11]; exact (ti_add (a := (((k + 1) : Nat) : Int)) (b := 1) e4 rfl (by omega) (by omega)).trans (by omega)
              refine lv_iinc (v := x64_11) (lv' := [(4, .int x64_11), (3, .int x61_10), (5, .ref (κ.2.2.2.2.1 k)), (0, .ref a.1), (1, .int s0), (2, .int i)]) hx hb dX1_told_64 hl (k := 2) rfl (by rw [e64_11]; rfl) (by decide) rfl (fun ls hl => ?_)
              refine lv_goto (tgt := 15) hx hb dX1_told_67 (by decide) ?_
              have er : sN σ - k = (sN σ - (k + 1)) + 1 := by omega
              exact ih15 (k + 1) (cn + 1) x64_11 x61_10 (by omega) (by omega) (by omega) v64_11 v61_10 (by rw [← hT, er]; exact (tdL_m (by omega) (by omega)).symm) ls (lv_sub hl [0, 1, 3, 4, 5] rfl)
            · have c55_9 : ((cn : Nat) : Int) = (i).toInt := (ti_eq (x := x3) (y := i) (a := ((cn : Nat) : Int)) (b := (i).toInt) e3 rfl).mp c55_9
              refine lv_iload hx hb dX1_told_58 (lv_at hl 1 rfl) ?_
              have er : sN σ - k = (sN σ - (k + 1)) + 1 := by omega
              rw [er] at hT
              exact hret _ _ _ dX1_told_60 (Or.inr (Or.inr rfl)) ((nI_ofI e4).trans (((if_neg (show ¬ ¬ (0 ≤ s0.toInt ∧ s0.toInt ≤ 49) by omega)).trans (hT.symm.trans (tdL_y (by omega) (by omega)))).symm))
    exact loop15 (sN σ + 1) 0 0 1 0 (by omega) (Nat.zero_le _) (Nat.le_refl _) rfl rfl rfl ls (lv_sub hl [0, 1, 2, 3, 4] rfl)
  · have c4_2 : (r1_1).toInt = 0 := (ti_eq (x := r1_1) (y := 0) (a := (r1_1).toInt) (b := 0) rfl rfl).mp c4_2
    refine lv_bipush (v := (-101)) hx hb dX1_told_7 (by decide) ?_
    exact hret _ _ _ dX1_told_9 (Or.inr (Or.inr rfl)) (if_pos (by omega)).symm

set_option maxHeartbeats 4000000 in
set_option maxRecDepth 100000 in
/-- moveClock -/
theorem c_X1_moveClock (l : Launch) (G : GG) (a : AD) (κ : KP) (σ : St) (hI : SI σ) (hC : CI κ σ) (t : Int64) : WrI l yX1_moveClock wsX1_moveClock (rmX 4 140 0 0) G [.ref a.1, .long t] (WC G a κ σ) (fun (r : Int32) (u : Unit) => r = nI (cntL σ t.toInt (sN σ))) (fun u : Unit => WC G a κ (mvS σ t)) 0 0 := by
  refine wr_of_i (cc := cX1_moveClock) (maxL := 6) (t := .int) (by decide +kernel) rfl (Nat.le_of_ble_eq_true rfl) nar_int ?_
  intro p e s m args below meth c Q A hx hb hml hown hts hK hZ hA hret ls hl hP hD hS
  have hown : s.vm.findClass RX1 = some m.cls := hown
  have hl : lv_has ls 6 [(0, .ref a.1), (1, .long t)] := hl
  have hP : va_P G.1 vwCl (CW G a (nI (sG σ).length) (sT σ) (sR σ) κ.2.2.2.2.2.1 κ.2.2.2.2.2.2 (pO κ.2.2.2.2.1 (sO σ) (sN σ)) (LW G a.2.1 κ.1 κ.2.1 κ.2.2.1 κ.2.2.2.1 (sN σ))) s.heap := hP
  have hD : va_D A (CW G a (nI (sG σ).length) (sT σ) (sR σ) κ.2.2.2.2.2.1 κ.2.2.2.2.2.2 (pO κ.2.2.2.2.1 (sO σ) (sN σ)) (LW G a.2.1 κ.1 κ.2.1 κ.2.2.1 κ.2.2.2.1 (sN σ))) := hD
  obtain ⟨hI1, hI2, hI3, hI4, hI5⟩ := id hI
  have hiX1 := (show ∀ w ∈ u_ws RX1 TX1 6, w ∈ wsX1_moveClock by decide +kernel)
  have lf30 := hts (.fieldLink RX1 30 "OrderRows2" "clock" "J") (by decide +kernel)
  have lf10 := hts (.fieldLink RX1 10 "OrderRows2" "orders" "Ljava/util/ArrayList;") (by decide +kernel)
  have cw52 := cwV (R := (rmX 4 140 0 0)) (s := s) (args := args) (rm := (rmX 0 0 0 0)) (mc := 0) (ms := 0) 0 hts gX1_moveClock_Jx4a65c_size_8abf5 rfl rfl rfl (by decide +kernel) ⟨Nat.le_of_ble_eq_true rfl, Nat.le_of_ble_eq_true rfl⟩
  have cw65 := cwV (R := (rmX 4 140 0 0)) (s := s) (args := args) (rm := (rmX 3 100 0 0)) (mc := 0) (ms := 0) 1 hts gX1_moveClock_X1_find rfl rfl rfl (by decide +kernel) ⟨Nat.le_of_ble_eq_true rfl, Nat.le_of_ble_eq_true rfl⟩
  have cw127 := cwV (R := (rmX 4 140 0 0)) (s := s) (args := args) (rm := (rmX 1 40 0 0)) (mc := 0) (ms := 0) 1 hts gX1_moveClock_X0_lapseIfDue rfl rfl rfl (by decide +kernel) ⟨Nat.le_of_ble_eq_true rfl, Nat.le_of_ble_eq_true rfl⟩
  refine lv_aload_n hx hb dX1_moveClock_0 rfl (lv_at hl 0 rfl) ?_
  refine lv_lload_n hx hb dX1_moveClock_1 rfl (lv_at hl 1 rfl) ?_
  refine va_put (D := G.1) (ci := 2) (v := .long t) (ty := .long) (own := RX1) (C := RX1) (T := TX1) (N := 6) hx hb hts hiX1 tyX1 tyX1_ok nmX1 hown hK.1 hP hD hS 0 rfl rfl 5 (by decide) lf30 (fun _ h9 => h9) rfl (by decide +kernel) rfl rfl (Nat.le_of_ble_eq_true rfl) dX1_moveClock_2 (fun H locs hP hD hS => ?_)
  have hP : va_P G.1 vwCl (CW G a (nI (sG σ).length) t (sR σ) κ.2.2.2.2.2.1 κ.2.2.2.2.2.2 (pO κ.2.2.2.2.1 (sO σ) (sN σ)) (LW G a.2.1 κ.1 κ.2.1 κ.2.2.1 κ.2.2.2.1 (sN σ))) H := hP
  have hD : va_D A (CW G a (nI (sG σ).length) t (sR σ) κ.2.2.2.2.2.1 κ.2.2.2.2.2.2 (pO κ.2.2.2.2.1 (sO σ) (sN σ)) (LW G a.2.1 κ.1 κ.2.1 κ.2.2.1 κ.2.2.2.1 (sN σ))) := hD
  refine lv_iconst (v := 0) hx hb dX1_moveClock_5 (by decide) ?_
  refine lv_istore_n (lv' := [(3, .int 0), (0, .ref a.1), (1, .long t)]) hx hb dX1_moveClock_6 rfl hl (by decide) rfl (fun ls hl => ?_)
  refine lv_iconst (v := 1) hx hb dX1_moveClock_7 (by decide) ?_
  refine lv_istore (lv' := [(4, .int 1), (3, .int 0), (0, .ref a.1), (1, .long t)]) hx hb dX1_moveClock_8 hl (by decide) rfl (fun ls hl => ?_)
  have hP : va_P G.1 vwCl (CW G a (nI (sG σ).length) t (sR σ) κ.2.2.2.2.2.1 κ.2.2.2.2.2.2 (pO κ.2.2.2.2.1 (mvO σ t.toInt 0) (sN σ)) (LW G a.2.1 κ.1 κ.2.1 κ.2.2.1 κ.2.2.2.1 (sN σ))) H := by rw [mvO_0]; exact hP
  have hD : va_D A (CW G a (nI (sG σ).length) t (sR σ) κ.2.2.2.2.2.1 κ.2.2.2.2.2.2 (pO κ.2.2.2.2.1 (mvO σ t.toInt 0) (sN σ)) (LW G a.2.1 κ.1 κ.2.1 κ.2.2.1 κ.2.2.2.1 (sN σ))) := by rw [mvO_0]; exact hD
  have loop10 : ∀ (fu : Nat) (k : Nat) (x4 x3 : Int32), sN σ < k + fu → k ≤ sN σ → x4.toInt = ((k + 1 : Nat) : Int) → x3.toInt = ((cntL σ t.toInt k : Nat) : Int) → ∀ (H : Heap) (locs : List Loc), va_P G.1 vwCl (CW G a (nI (sG σ).length) t (sR σ) κ.2.2.2.2.2.1 κ.2.2.2.2.2.2 (pO κ.2.2.2.2.1 (mvO σ t.toInt k) (sN σ)) (LW G a.2.1 κ.1 κ.2.1 κ.2.2.1 κ.2.2.2.1 (sN σ))) H → va_D A (CW G a (nI (sG σ).length) t (sR σ) κ.2.2.2.2.2.1 κ.2.2.2.2.2.2 (pO κ.2.2.2.2.1 (mvO σ t.toInt k) (sN σ)) (LW G a.2.1 κ.1 κ.2.1 κ.2.2.1 κ.2.2.2.1 (sN σ))) → va_S A s.heap H locs → ∀ ls : Array Slot, lv_has ls 6 [(4, .int x4), (3, .int x3), (0, .ref a.1), (1, .long t)] → W p l e (rmX 4 140 0 0) s m args below meth c H locs 0 0 Q (F0 m 10 ls []) := by
    intro fu
    induction fu with
    | zero =>
      intro k x4 x3 hfu hkn e4 e3
      exact absurd hfu (by omega)
    | succ fu ih10 =>
      intro k x4 x3 hfu hkn e4 e3 H locs hP hD hS ls hl
      have hcl := cntL_le (σ := σ) (t := t.toInt) k
      refine lv_iload hx hb dX1_moveClock_10 (lv_at hl 0 rfl) ?_
      refine lv_aload_n hx hb dX1_moveClock_12 rfl (lv_at hl 2 rfl) ?_
      refine va_get (D := G.1) (ci := 2) (v := .ref a.2.1) (own := RX1) (C := RX1) (T := TX1) (N := 6) hx hb hts hiX1 hown hK.1 hP 0 rfl rfl 0 (by decide) lf10 (fun _ h9 => h9) rfl dX1_moveClock_13 ?_
      refine rdV_i (b := a.2.1) (As := []) (rest := [.int x4]) ⟨hx, hb, hml, hown, hts⟩ (c_Jx4a65c_size_8abf5 l G a.2.1 κ.1 (nI (sN σ)) _) cw52 hK (LW_one (CW_list hP)) 0 rfl rfl rfl rfl hl.1 rfl (Nat.le_of_ble_eq_true rfl) dX1_moveClock_16 ⟨Nat.zero_le _, Nat.zero_le _⟩ (fun r1 w1 => ?_)
      have w1 : r1.toInt = (((sN σ) : Nat) : Int) := by rw [w1]; exact ti_nI (by omega)
      refine lv_icmp_gt (tgt := 56) hx hb dX1_moveClock_19 (by decide) (fun c19_2 => ?_) (fun c19_2 => ?_)
      · have c19_2 : (((sN σ) : Nat) : Int) < (((k + 1) : Nat) : Int) := (ti_lt (x := r1) (y := x4) (a := (((sN σ) : Nat) : Int)) (b := (((k + 1) : Nat) : Int)) w1 e4).mp c19_2
        refine lv_iload_n hx hb dX1_moveClock_56 rfl (lv_at hl 1 rfl) ?_
        obtain rfl : k = sN σ := by omega
        exact hret _ _ _ _ _ _ _ () dX1_moveClock_57 (Or.inr (Or.inr rfl)) (nI_ofI e3) hP hD hS (Nat.le_refl _) (Nat.le_refl _)
      · have c19_2 : ¬ ((((sN σ) : Nat) : Int) < (((k + 1) : Nat) : Int)) := mt (ti_lt (x := r1) (y := x4) (a := (((sN σ) : Nat) : Int)) (b := (((k + 1) : Nat) : Int)) w1 e4).mpr c19_2
        refine lv_aload_n hx hb dX1_moveClock_22 rfl (lv_at hl 2 rfl) ?_
        refine lv_iload hx hb dX1_moveClock_23 (lv_at hl 0 rfl) ?_
        refine rdV_q (b := a.1) (As := [.int x4]) (rest := []) ⟨hx, hb, hml, hown, hts⟩ (c_X1_find l G a κ (mvK σ t k) hI1 hC x4) cw65 hK hP 2 rfl rfl rfl rfl hl.1 rfl (Nat.le_of_ble_eq_true rfl) dX1_moveClock_25 ⟨Nat.zero_le _, Nat.zero_le _⟩ (fun r3 w3 => ?_)
        have w3 : (r3 = none ∧ ¬ (1 ≤ (x4).toInt ∧ (x4).toInt ≤ ((sN σ : Nat) : Int))) ∨ (∃ i, i < sN σ ∧ (x4).toInt = (i : Int) + 1 ∧ r3 = some (κ.2.2.2.2.1 i)) := w3
        have hin : k < sN σ := by omega
        obtain rfl : r3 = some (κ.2.2.2.2.1 k) := by
          rcases w3 with ⟨_, w3⟩ | ⟨i, _, hoi, w3⟩
          · exfalso; omega
          · rw [w3, show i = k by omega]
        refine W.eq (g2 := F0 m 28 ls [.ref (κ.2.2.2.2.1 k)]) rfl ?_
        have em : mvO σ t.toInt k k = sO σ k := mvO_at
        have hoj := hI4 k hin
        unfold OI at hoj
        rw [← em] at hoj
        refine lv_astore (lv' := [(5, .ref (κ.2.2.2.2.1 k)), (4, .int x4), (3, .int x3), (0, .ref a.1), (1, .long t)]) hx hb dX1_moveClock_28 hl (by decide) rfl (fun ls hl => ?_)
        refine lv_aload hx hb dX1_moveClock_30 (lv_at hl 0 rfl) ?_
        refine lv_ifnull hx hb dX1_moveClock_32 ?_
        refine lv_aload hx hb dX1_moveClock_35 (lv_at hl 0 rfl) ?_
        refine lv_aload_n hx hb dX1_moveClock_37 rfl (lv_at hl 3 rfl) ?_
        refine va_get (D := G.1) (ci := 2) (v := .long t) (own := RX1) (C := RX1) (T := TX1) (N := 6) hx hb hts hiX1 hown hK.1 hP 0 rfl rfl 5 (by decide) lf30 (fun _ h9 => h9) rfl dX1_moveClock_38 ?_
        refine wrV_raw (b := (κ.2.2.2.2.1 k)) (As := [.long t]) (rest := []) ⟨hx, hb, hml, hown, hts⟩ (c_X0_lapseIfDue l G (κ.2.2.2.2.1 k) (mvO σ t.toInt k k) t (by omega) (by omega)) cw127 hK hZ (CW_ord hP hin) (CW_ordD hD hin) hS hA 1 rfl rfl rfl rfl hl.1 rfl (Nat.le_of_ble_eq_true rfl) dX1_moveClock_41 ⟨Nat.zero_le _, Nat.zero_le _⟩ (fun r41_4 _ H1 locs w41_4 hP1 hk1 hS => ?_)
        have w41_4 : ((r41_4.toInt = 1 ∧ ((oP (mvO σ t.toInt k k)).toInt = 0 ∧ (oX (mvO σ t.toInt k k)).toInt = 20001 ∧ (oM (mvO σ t.toInt k k)).toInt + 14 < (t).toInt)) ∨ (r41_4.toInt = 0 ∧ ¬ ((oP (mvO σ t.toInt k k)).toInt = 0 ∧ (oX (mvO σ t.toInt k k)).toInt = 20001 ∧ (oM (mvO σ t.toInt k k)).toInt + 14 < (t).toInt))) := w41_4
        rw [em] at w41_4
        have hP2 := va_P.put1 hP hD (CW_get hin) hP1 hk1
        rw [CW_set hin, mvO_up] at hP2
        have hD2 := va_D.set (e := .inr (1, fl (lap1 t.toInt (mvO σ t.toInt k k)))) hD (CW_get hin)
        rw [CW_set hin, mvO_up] at hD2
        have hP : va_P G.1 vwCl (CW G a (nI (sG σ).length) t (sR σ) κ.2.2.2.2.2.1 κ.2.2.2.2.2.2 (pO κ.2.2.2.2.1 (mvO σ t.toInt (k + 1)) (sN σ)) (LW G a.2.1 κ.1 κ.2.1 κ.2.2.1 κ.2.2.2.1 (sN σ))) H1 := hP2
        have hD : va_D A (CW G a (nI (sG σ).length) t (sR σ) κ.2.2.2.2.2.1 κ.2.2.2.2.2.2 (pO κ.2.2.2.2.1 (mvO σ t.toInt (k + 1)) (sN σ)) (LW G a.2.1 κ.1 κ.2.1 κ.2.2.1 κ.2.2.2.1 (sN σ))) := hD2
        generalize H1 = H at hP hS ⊢
        refine lv_if_eq (tgt := 50) hx hb dX1_moveClock_44 (by decide) (fun c44_5 => ?_) (fun c44_5 => ?_)
        · have c44_5 : (r41_4).toInt = 0 := (ti_eq (x := r41_4) (y := 0) (a := (r41_4).toInt) (b := 0) rfl rfl).mp c44_5
          obtain ⟨x50_6, e50_6⟩ : ∃ y : Int32, y = x4 + 1 := ⟨_, rfl⟩
          have v50_6 : (x50_6).toInt = ((((k + 1) + 1) : Nat) : Int) := by rw [e50_6]; exact (ti_add (a := (((k + 1) : Nat) : Int)) (b := 1) e4 rfl (by omega) (by omega)).trans (by omega)
          refine lv_iinc (v := x50_6) (lv' := [(4, .int x50_6), (5, .ref (κ.2.2.2.2.1 k)), (3, .int x3), (0, .ref a.1), (1, .long t)]) hx hb dX1_moveClock_50 hl (k := 1) rfl (by rw [e50_6]; rfl) (by decide) rfl (fun ls hl => ?_)
          refine lv_goto (tgt := 10) hx hb dX1_moveClock_53 (by decide) ?_
          have hcn := cntL_n (σ := σ) (t := t.toInt) (k := k) (by omega)
          exact ih10 (k + 1) x50_6 x3 (by omega) (by omega) v50_6 (e3.trans (by omega)) _ _ hP hD hS ls (lv_sub hl [0, 2, 3, 4] rfl)
        · have c44_5 : ¬ ((r41_4).toInt = 0) := mt (ti_eq (x := r41_4) (y := 0) (a := (r41_4).toInt) (b := 0) rfl rfl).mpr c44_5
          obtain ⟨x47_7, e47_7⟩ : ∃ y : Int32, y = x3 + 1 := ⟨_, rfl⟩
          have v47_7 : (x47_7).toInt = ((((cntL σ t.toInt k) + 1) : Nat) : Int) := by rw [e47_7]; exact (ti_add (a := (((cntL σ t.toInt k) : Nat) : Int)) (b := 1) e3 rfl (by omega) (by omega)).trans (by omega)
          refine lv_iinc (v := x47_7) (lv' := [(3, .int x47_7), (5, .ref (κ.2.2.2.2.1 k)), (4, .int x4), (0, .ref a.1), (1, .long t)]) hx hb dX1_moveClock_47 hl (k := 2) rfl (by rw [e47_7]; rfl) (by decide) rfl (fun ls hl => ?_)
          obtain ⟨x50_8, e50_8⟩ : ∃ y : Int32, y = x4 + 1 := ⟨_, rfl⟩
          have v50_8 : (x50_8).toInt = ((((k + 1) + 1) : Nat) : Int) := by rw [e50_8]; exact (ti_add (a := (((k + 1) : Nat) : Int)) (b := 1) e4 rfl (by omega) (by omega)).trans (by omega)
          refine lv_iinc (v := x50_8) (lv' := [(4, .int x50_8), (3, .int x47_7), (5, .ref (κ.2.2.2.2.1 k)), (0, .ref a.1), (1, .long t)]) hx hb dX1_moveClock_50 hl (k := 2) rfl (by rw [e50_8]; rfl) (by decide) rfl (fun ls hl => ?_)
          refine lv_goto (tgt := 10) hx hb dX1_moveClock_53 (by decide) ?_
          have hcn := cntL_y (σ := σ) (t := t.toInt) (k := k) (by omega)
          exact ih10 (k + 1) x50_8 x47_7 (by omega) (by omega) v50_8 (v47_7.trans (by omega)) _ _ hP hD hS ls (lv_sub hl [0, 1, 3, 4] rfl)
  exact loop10 (sN σ + 1) 0 1 0 (by omega) (Nat.zero_le _) rfl rfl _ _ hP hD hS ls (lv_sub hl [0, 1, 2, 3] rfl)

set_option maxHeartbeats 4000000 in
set_option maxRecDepth 100000 in
/-- tick -/
theorem c_X1_tick (l : Launch) (G : GG) (a : AD) (κ : KP) (σ : St) (hI : SI σ) (hC : CI κ σ) (t : Int64) : WrI l yX1_tick wsX1_tick (rmX 5 170 0 0) G [.ref a.1, .long t] (WC G a κ σ) (fun (r : Int32) (u : Unit) => r = (fTick σ t).1) (fun u : Unit => WC G a κ (fTick σ t).2) 0 0 := by
  refine wr_of_i (cc := cX1_tick) (maxL := 3) (t := .int) (by decide +kernel) rfl (Nat.le_of_ble_eq_true rfl) nar_int ?_
  intro p e s m args below meth c Q A hx hb hml hown hts hK hZ hA hret ls hl hP hD hS
  have hown : s.vm.findClass RX1 = some m.cls := hown
  have hl : lv_has ls 3 [(0, .ref a.1), (1, .long t)] := hl
  have hP : va_P G.1 vwCl (CW G a (nI (sG σ).length) (sT σ) (sR σ) κ.2.2.2.2.2.1 κ.2.2.2.2.2.2 (pO κ.2.2.2.2.1 (sO σ) (sN σ)) (LW G a.2.1 κ.1 κ.2.1 κ.2.2.1 κ.2.2.2.1 (sN σ))) s.heap := hP
  have hD : va_D A (CW G a (nI (sG σ).length) (sT σ) (sR σ) κ.2.2.2.2.2.1 κ.2.2.2.2.2.2 (pO κ.2.2.2.2.1 (sO σ) (sN σ)) (LW G a.2.1 κ.1 κ.2.1 κ.2.2.1 κ.2.2.2.1 (sN σ))) := hD
  obtain ⟨hI1, hI2, hI3, hI4, hI5⟩ := id hI
  have cw69 := cwV (R := (rmX 5 170 0 0)) (s := s) (args := args) (rm := (rmX 1 40 0 0)) (mc := 0) (ms := 0) 1 hts gX1_tick_X1_canBeClock rfl rfl rfl (by decide +kernel) ⟨Nat.le_of_ble_eq_true rfl, Nat.le_of_ble_eq_true rfl⟩
  have cw72 := cwV (R := (rmX 5 170 0 0)) (s := s) (args := args) (rm := (rmX 4 140 0 0)) (mc := 0) (ms := 0) 1 hts gX1_tick_X1_moveClock rfl rfl rfl (by decide +kernel) ⟨Nat.le_of_ble_eq_true rfl, Nat.le_of_ble_eq_true rfl⟩
  refine lv_aload_n hx hb dX1_tick_0 rfl (lv_at hl 0 rfl) ?_
  refine lv_lload_n hx hb dX1_tick_1 rfl (lv_at hl 1 rfl) ?_
  refine rdV_i (b := a.1) (As := [.long t]) (rest := []) ⟨hx, hb, hml, hown, hts⟩ (c_X1_canBeClock l G a κ σ hI hC t) cw69 hK hP 2 rfl rfl rfl rfl hl.1 rfl (Nat.le_of_ble_eq_true rfl) dX1_tick_2 ⟨Nat.zero_le _, Nat.zero_le _⟩ (fun r1 w1 => ?_)
  have w1 : ((r1.toInt = 1 ∧ (0 ≤ (t).toInt ∧ (t).toInt ≤ 20000 ∧ (sT σ).toInt ≤ (t).toInt)) ∨ (r1.toInt = 0 ∧ ¬ (0 ≤ (t).toInt ∧ (t).toInt ≤ 20000 ∧ (sT σ).toInt ≤ (t).toInt))) := w1
  refine lv_if_eq (tgt := 16) hx hb dX1_tick_5 (by decide) (fun c5_2 => ?_) (fun c5_2 => ?_)
  · have c5_2 : (r1).toInt = 0 := (ti_eq (x := r1) (y := 0) (a := (r1).toInt) (b := 0) rfl rfl).mp c5_2
    refine lv_bipush (v := (-102)) hx hb dX1_tick_16 (by decide) ?_
    have hF : fTick σ t = ((-102), σ) := if_pos (by omega)
    exact hret _ _ _ _ _ _ _ () dX1_tick_18 (Or.inr (Or.inr rfl)) (by rw [hF]) (by rw [hF]; exact hP) (by rw [hF]; exact hD) hS (Nat.le_refl _) (Nat.le_refl _)
  · have c5_2 : ¬ ((r1).toInt = 0) := mt (ti_eq (x := r1) (y := 0) (a := (r1).toInt) (b := 0) rfl rfl).mpr c5_2
    refine lv_aload_n hx hb dX1_tick_8 rfl (lv_at hl 0 rfl) ?_
    refine lv_lload_n hx hb dX1_tick_9 rfl (lv_at hl 1 rfl) ?_
    refine wrV_i (wr := []) (b := a.1) (As := [.long t]) (rest := []) ⟨hx, hb, hml, hown, hts⟩ (c_X1_moveClock l G a κ σ hI hC t) cw72 hK hZ hP hD hS hA 2 rfl rfl rfl rfl hl.1 rfl (Nat.le_of_ble_eq_true rfl) dX1_tick_10 ⟨Nat.zero_le _, Nat.zero_le _⟩ (fun r3 _ H locs w3 hP hD hS => ?_)
    have hP : va_P G.1 vwCl (CW G a (nI (sG σ).length) t (sR σ) κ.2.2.2.2.2.1 κ.2.2.2.2.2.2 (pO κ.2.2.2.2.1 (sO (mvS σ t)) (sN σ)) (LW G a.2.1 κ.1 κ.2.1 κ.2.2.1 κ.2.2.2.1 (sN σ))) H := hP
    have hD : va_D A (CW G a (nI (sG σ).length) t (sR σ) κ.2.2.2.2.2.1 κ.2.2.2.2.2.2 (pO κ.2.2.2.2.1 (sO (mvS σ t)) (sN σ)) (LW G a.2.1 κ.1 κ.2.1 κ.2.2.1 κ.2.2.2.1 (sN σ))) := hD
    refine lv_goto (tgt := 18) hx hb dX1_tick_13 (by decide) ?_
    rw [w3]
    have hF : fTick σ t = (nI (cntL σ t.toInt (sN σ)), mvS σ t) := if_neg (by omega)
    exact hret _ _ _ _ _ _ _ () dX1_tick_18 (Or.inr (Or.inr rfl)) (by rw [hF]) (by rw [hF]; exact hP) (by rw [hF]; exact hD) hS (Nat.le_refl _) (Nat.le_refl _)

set_option maxHeartbeats 4000000 in
set_option maxRecDepth 100000 in
/-- rank -/
theorem c_X1_rank (l : Launch) (G : GG) (a : AD) (κ : KP) (σ : St) (hI : SI σ) (hC : CI κ σ) (k q : Int32) : WrI l yX1_rank wsX1_rank (rmX 2 90 0 0) G [.ref a.1, .int k, .int q] (WC G a κ σ) (fun (r : Int32) (u : Unit) => r = (fRank σ k q).1) (fun u : Unit => WC G a κ (fRank σ k q).2) 0 0 := by
  refine wr_of_i (cc := cX1_rank) (maxL := 4) (t := .int) (by decide +kernel) rfl (Nat.le_of_ble_eq_true rfl) nar_int ?_
  intro p e s m args below meth c Q A hx hb hml hown hts hK hZ hA hret ls hl hP hD hS
  have hown : s.vm.findClass RX1 = some m.cls := hown
  have hl : lv_has ls 4 [(0, .ref a.1), (1, .int k), (2, .int q)] := hl
  have hP : va_P G.1 vwCl (CW G a (nI (sG σ).length) (sT σ) (sR σ) κ.2.2.2.2.2.1 κ.2.2.2.2.2.2 (pO κ.2.2.2.2.1 (sO σ) (sN σ)) (LW G a.2.1 κ.1 κ.2.1 κ.2.2.1 κ.2.2.2.1 (sN σ))) s.heap := hP
  have hD : va_D A (CW G a (nI (sG σ).length) (sT σ) (sR σ) κ.2.2.2.2.2.1 κ.2.2.2.2.2.2 (pO κ.2.2.2.2.1 (sO σ) (sN σ)) (LW G a.2.1 κ.1 κ.2.1 κ.2.2.1 κ.2.2.2.1 (sN σ))) := hD
  obtain ⟨hI1, hI2, hI3, hI4, hI5⟩ := id hI
  have cw34 := va_cwS (R := (rmX 2 90 0 0)) (s := s) (args := args) (rm := (rmX 0 0 0 0)) (mc := 0) (ms := 0) 1 hts gX1_rank_X1_isKind rfl rfl rfl (by decide +kernel) ⟨Nat.le_of_ble_eq_true rfl, Nat.le_of_ble_eq_true rfl⟩
  have cw111 := cwV (R := (rmX 2 90 0 0)) (s := s) (args := args) (rm := (rmX 1 40 0 0)) (mc := 0) (ms := 0) 1 hts gX1_rank_X1_rankOf rfl rfl rfl (by decide +kernel) ⟨Nat.le_of_ble_eq_true rfl, Nat.le_of_ble_eq_true rfl⟩
  have hiX1 := (show ∀ w ∈ u_ws RX1 TX1 6, w ∈ wsX1_rank by decide +kernel)
  have lf16 := hts (.fieldLink RX1 16 "OrderRows2" "rankOfKind" "[I") (by decide +kernel)
  refine lv_iload_n hx hb dX1_rank_0 rfl (lv_at hl 1 rfl) ?_
  refine rdS_i (As := [.int k]) (rest := []) ⟨hx, hb, hml, hown, hts⟩ (c_X1_isKind l G k) cw34 hK va_P.nil rfl hl.1 rfl (Nat.le_of_ble_eq_true rfl) dX1_rank_1 ⟨Nat.zero_le _, Nat.zero_le _⟩ (fun r1_1 w1_1 => ?_)
  have w1_1 : ((r1_1.toInt = 1 ∧ (0 ≤ (k).toInt ∧ (k).toInt < 9)) ∨ (r1_1.toInt = 0 ∧ ¬ (0 ≤ (k).toInt ∧ (k).toInt < 9))) := w1_1
  refine lv_if_eq (tgt := 17) hx hb dX1_rank_4 (by decide) (fun c4_2 => ?_) (fun c4_2 => ?_)
  · have c4_2 : (r1_1).toInt = 0 := (ti_eq (x := r1_1) (y := 0) (a := (r1_1).toInt) (b := 0) rfl rfl).mp c4_2
    refine lv_bipush (v := (-102)) hx hb dX1_rank_17 (by decide) ?_
    have hF : fRank σ k q = ((-102), σ) := if_pos (by omega)
    exact hret _ _ _ _ _ _ _ () dX1_rank_19 (Or.inr (Or.inr rfl)) (by rw [hF]) (by rw [hF]; exact hP) (by rw [hF]; exact hD) hS (Nat.le_refl _) (Nat.le_refl _)
  · have c4_2 : ¬ ((r1_1).toInt = 0) := mt (ti_eq (x := r1_1) (y := 0) (a := (r1_1).toInt) (b := 0) rfl rfl).mpr c4_2
    refine lv_iload_n hx hb dX1_rank_7 rfl (lv_at hl 2 rfl) ?_
    refine lv_if_lt (tgt := 17) hx hb dX1_rank_8 (by decide) (fun c8_3 => ?_) (fun c8_3 => ?_)
    · have c8_3 : (q).toInt < 0 := (ti_lt (x := q) (y := 0) (a := (q).toInt) (b := 0) rfl rfl).mp c8_3
      refine lv_bipush (v := (-102)) hx hb dX1_rank_17 (by decide) ?_
      have hF : fRank σ k q = ((-102), σ) := if_pos (by omega)
      exact hret _ _ _ _ _ _ _ () dX1_rank_19 (Or.inr (Or.inr rfl)) (by rw [hF]) (by rw [hF]; exact hP) (by rw [hF]; exact hD) hS (Nat.le_refl _) (Nat.le_refl _)
    · have c8_3 : ¬ ((q).toInt < 0) := mt (ti_lt (x := q) (y := 0) (a := (q).toInt) (b := 0) rfl rfl).mpr c8_3
      refine lv_iload_n hx hb dX1_rank_11 rfl (lv_at hl 2 rfl) ?_
      refine lv_bipush (v := 100) hx hb dX1_rank_12 (by decide) ?_
      refine lv_icmp_le (tgt := 20) hx hb dX1_rank_14 (by decide) (fun c14_4 => ?_) (fun c14_4 => ?_)
      · have c14_4 : (q).toInt ≤ 100 := (ti_le (x := q) (y := 100) (a := (q).toInt) (b := 100) rfl rfl).mp c14_4
        refine lv_aload_n hx hb dX1_rank_20 rfl (lv_at hl 0 rfl) ?_
        refine lv_iload_n hx hb dX1_rank_21 rfl (lv_at hl 1 rfl) ?_
        refine rdV_i (b := a.1) (As := [.int k]) (rest := []) ⟨hx, hb, hml, hown, hts⟩ (c_X1_rankOf l G a κ σ hI hC k (by omega) (by omega)) cw111 hK hP 2 rfl rfl rfl rfl hl.1 rfl (Nat.le_of_ble_eq_true rfl) dX1_rank_22 ⟨Nat.zero_le _, Nat.zero_le _⟩ (fun r5 w5 => ?_)
        have w5 : r5 = sR σ (k).toInt.toNat := w5
        subst w5
        refine lv_istore_n (lv' := [(3, .int (sR σ (k).toInt.toNat)), (0, .ref a.1), (1, .int k), (2, .int q)]) hx hb dX1_rank_25 rfl hl (by decide) rfl (fun ls hl => ?_)
        refine lv_aload_n hx hb dX1_rank_26 rfl (lv_at hl 1 rfl) ?_
        refine va_get (D := G.1) (ci := 2) (v := .ref a.2.2.1) (own := RX1) (C := RX1) (T := TX1) (N := 6) hx hb hts hiX1 hown hK.1 hP 0 rfl rfl 1 (by decide) lf16 (fun _ h9 => h9) rfl dX1_rank_27 ?_
        refine lv_iload_n hx hb dX1_rank_30 rfl (lv_at hl 2 rfl) ?_
        refine lv_iload_n hx hb dX1_rank_31 rfl (lv_at hl 3 rfl) ?_
        refine my_iast hx hb hK hP hD hS 1 rfl (x := q) ((k).toInt.toNat) (show (k).toInt = (((k).toInt.toNat : Nat) : Int) by omega) (by omega) dX1_rank_32 (fun H locs hP hD hS => ?_)
        have hP : va_P G.1 vwCl (CW G a (nI (sG σ).length) (sT σ) (upd (sR σ) ((k).toInt.toNat) q) κ.2.2.2.2.2.1 κ.2.2.2.2.2.2 (pO κ.2.2.2.2.1 (sO σ) (sN σ)) (LW G a.2.1 κ.1 κ.2.1 κ.2.2.1 κ.2.2.2.1 (sN σ))) H := hP
        have hD : va_D A (CW G a (nI (sG σ).length) (sT σ) (upd (sR σ) ((k).toInt.toNat) q) κ.2.2.2.2.2.1 κ.2.2.2.2.2.2 (pO κ.2.2.2.2.1 (sO σ) (sN σ)) (LW G a.2.1 κ.1 κ.2.1 κ.2.2.1 κ.2.2.2.1 (sN σ))) := hD
        refine lv_iload_n hx hb dX1_rank_33 rfl (lv_at hl 0 rfl) ?_
        have hF : fRank σ k q = ((sR σ (k).toInt.toNat), (sN σ, sO σ, sT σ, upd (sR σ) (k).toInt.toNat q, sG σ)) := if_neg (by omega)
        exact hret _ _ _ _ _ _ _ () dX1_rank_34 (Or.inr (Or.inr rfl)) (by rw [hF]) (by rw [hF]; exact hP) (by rw [hF]; exact hD) hS (Nat.le_refl _) (Nat.le_refl _)
      · have c14_4 : ¬ ((q).toInt ≤ 100) := mt (ti_le (x := q) (y := 100) (a := (q).toInt) (b := 100) rfl rfl).mpr c14_4
        refine lv_bipush (v := (-102)) hx hb dX1_rank_17 (by decide) ?_
        have hF : fRank σ k q = ((-102), σ) := if_pos (by omega)
        exact hret _ _ _ _ _ _ _ () dX1_rank_19 (Or.inr (Or.inr rfl)) (by rw [hF]) (by rw [hF]; exact hP) (by rw [hF]; exact hD) hS (Nat.le_refl _) (Nat.le_refl _)

set_option maxHeartbeats 4000000 in
set_option maxRecDepth 100000 in
/-- extend -/
theorem c_X1_extend (l : Launch) (G : GG) (a : AD) (κ : KP) (σ : St) (hI : SI σ) (hC : CI κ σ) (o : Int32) (v : Int64) : WrI l yX1_extend wsX1_extend (rmX 4 140 0 0) G [.ref a.1, .int o, .long v] (WC G a κ σ) (fun (r : Int32) (u : Unit) => r = (fExtend σ o v).1) (fun u : Unit => WC G a κ (fExtend σ o v).2) 0 0 := by
  refine wr_of_i (cc := cX1_extend) (maxL := 5) (t := .int) (by decide +kernel) rfl (Nat.le_of_ble_eq_true rfl) nar_int ?_
  intro p e s m args below meth c Q A hx hb hml hown hts hK hZ hA hret ls hl hP hD hS
  have hown : s.vm.findClass RX1 = some m.cls := hown
  have hl : lv_has ls 5 [(0, .ref a.1), (1, .int o), (2, .long v)] := hl
  have hP : va_P G.1 vwCl (CW G a (nI (sG σ).length) (sT σ) (sR σ) κ.2.2.2.2.2.1 κ.2.2.2.2.2.2 (pO κ.2.2.2.2.1 (sO σ) (sN σ)) (LW G a.2.1 κ.1 κ.2.1 κ.2.2.1 κ.2.2.2.1 (sN σ))) s.heap := hP
  have hD : va_D A (CW G a (nI (sG σ).length) (sT σ) (sR σ) κ.2.2.2.2.2.1 κ.2.2.2.2.2.2 (pO κ.2.2.2.2.1 (sO σ) (sN σ)) (LW G a.2.1 κ.1 κ.2.1 κ.2.2.1 κ.2.2.2.1 (sN σ))) := hD
  obtain ⟨hI1, hI2, hI3, hI4, hI5⟩ := id hI
  have cw65 := cwV (R := (rmX 4 140 0 0)) (s := s) (args := args) (rm := (rmX 3 100 0 0)) (mc := 0) (ms := 0) 1 hts gX1_extend_X1_find rfl rfl rfl (by decide +kernel) ⟨Nat.le_of_ble_eq_true rfl, Nat.le_of_ble_eq_true rfl⟩
  have cw48 := va_cwS (R := (rmX 4 140 0 0)) (s := s) (args := args) (rm := (rmX 0 0 0 0)) (mc := 0) (ms := 0) 1 hts gX1_extend_X1_isDay rfl rfl rfl (by decide +kernel) ⟨Nat.le_of_ble_eq_true rfl, Nat.le_of_ble_eq_true rfl⟩
  have cw76 := cwV (R := (rmX 4 140 0 0)) (s := s) (args := args) (rm := (rmX 0 0 0 0)) (mc := 0) (ms := 0) 0 hts gX1_extend_X0_isOver rfl rfl rfl (by decide +kernel) ⟨Nat.le_of_ble_eq_true rfl, Nat.le_of_ble_eq_true rfl⟩
  have hiX0 := (show ∀ w ∈ u_ws RX0 TX0 9, w ∈ wsX1_extend by decide +kernel)
  have lf114 := hts (.fieldLink RX1 114 "OrderRows2$Order" "until" "J") (by decide +kernel)
  refine lv_aload_n hx hb dX1_extend_0 rfl (lv_at hl 0 rfl) ?_
  refine lv_iload_n hx hb dX1_extend_1 rfl (lv_at hl 1 rfl) ?_
  refine rdV_q (b := a.1) (As := [.int o]) (rest := []) ⟨hx, hb, hml, hown, hts⟩ (c_X1_find l G a κ σ hI1 hC o) cw65 hK hP 2 rfl rfl rfl rfl hl.1 rfl (Nat.le_of_ble_eq_true rfl) dX1_extend_2 ⟨Nat.zero_le _, Nat.zero_le _⟩ (fun r1 w1 => ?_)
  rcases w1 with ⟨rfl, w1⟩ | ⟨i, hi, hoi, rfl⟩
  · have hno := w1
    refine W.eq (g2 := F0 m 5 ls [.null]) rfl ?_
    refine lv_astoreN (lv' := [(4, .null), (0, .ref a.1), (1, .int o), (2, .long v)]) hx hb dX1_extend_5 hl (by decide) rfl (fun ls hl => ?_)
    refine lv_aloadN hx hb dX1_extend_7 (lv_at hl 0 rfl) ?_
    refine lv_ifnonnullN hx hb dX1_extend_9 ?_
    refine lv_bipush (v := (-101)) hx hb dX1_extend_12 (by decide) ?_
    have hF : fExtend σ o v = ((-101), σ) := if_pos (by omega)
    exact hret _ _ _ _ _ _ _ () dX1_extend_14 (Or.inr (Or.inr rfl)) (by rw [hF]) (by rw [hF]; exact hP) (by rw [hF]; exact hD) hS (Nat.le_refl _) (Nat.le_refl _)
  · have eoi : oi o = i := by show ((o).toInt - 1).toNat = i; omega
    have hoI := hI4 i hi
    unfold OI at hoI
    refine W.eq (g2 := F0 m 5 ls [.ref (κ.2.2.2.2.1 i)]) rfl ?_
    refine lv_astore (lv' := [(4, .ref (κ.2.2.2.2.1 i)), (0, .ref a.1), (1, .int o), (2, .long v)]) hx hb dX1_extend_5 hl (by decide) rfl (fun ls hl => ?_)
    refine lv_aload hx hb dX1_extend_7 (lv_at hl 0 rfl) ?_
    refine lv_ifnonnull (tgt := 15) hx hb dX1_extend_9 (by decide) ?_
    refine lv_lload_n hx hb dX1_extend_15 rfl (lv_at hl 3 rfl) ?_
    refine rdS_i (As := [.long v]) (rest := []) ⟨hx, hb, hml, hown, hts⟩ (c_X1_isDay l G v) cw48 hK va_P.nil rfl hl.1 rfl (Nat.le_of_ble_eq_true rfl) dX1_extend_16 ⟨Nat.zero_le _, Nat.zero_le _⟩ (fun r16_2 w16_2 => ?_)
    have w16_2 : ((r16_2.toInt = 1 ∧ (0 ≤ (v).toInt ∧ (v).toInt ≤ 20000)) ∨ (r16_2.toInt = 0 ∧ ¬ (0 ≤ (v).toInt ∧ (v).toInt ≤ 20000))) := w16_2
    refine lv_if_ne (tgt := 25) hx hb dX1_extend_19 (by decide) (fun c19_3 => ?_) (fun c19_3 => ?_)
    · have c19_3 : ¬ ((r16_2).toInt = 0) := mt (ti_eq (x := r16_2) (y := 0) (a := (r16_2).toInt) (b := 0) rfl rfl).mpr c19_3
      refine lv_aload hx hb dX1_extend_25 (lv_at hl 0 rfl) ?_
      refine rdV_i (b := (κ.2.2.2.2.1 i)) (As := []) (rest := []) ⟨hx, hb, hml, hown, hts⟩ (c_X0_isOver l G (κ.2.2.2.2.1 i) (sO σ i) ) cw76 hK (CW_ord hP hi) 1 rfl rfl rfl rfl hl.1 rfl (Nat.le_of_ble_eq_true rfl) dX1_extend_27 ⟨Nat.zero_le _, Nat.zero_le _⟩ (fun r27_4 w27_4 => ?_)
      have w27_4 : ((r27_4.toInt = 1 ∧ ((oX (sO σ i)).toInt ≠ 20001)) ∨ (r27_4.toInt = 0 ∧ ¬ ((oX (sO σ i)).toInt ≠ 20001))) := w27_4
      refine lv_if_eq (tgt := 36) hx hb dX1_extend_30 (by decide) (fun c30_5 => ?_) (fun c30_5 => ?_)
      · have c30_5 : (r27_4).toInt = 0 := (ti_eq (x := r27_4) (y := 0) (a := (r27_4).toInt) (b := 0) rfl rfl).mp c30_5
        refine lv_lload_n hx hb dX1_extend_36 rfl (lv_at hl 3 rfl) ?_
        refine lv_aload hx hb dX1_extend_37 (lv_at hl 0 rfl) ?_
        refine va_get (D := G.1) (ci := 1) (v := .long (oU (sO σ i))) (own := RX1) (C := RX0) (T := TX0) (N := 9) hx hb hts hiX0 hown hK.1 hP (i + 4) (CW_get hi) rfl 6 (by decide) lf114 (fun _ h9 => h9) rfl dX1_extend_39 ?_
        refine lc_gt (tgt := 48) hx hb dX1_extend_42 dX1_extend_43 (by decide) (fun c42_6 => ?_) (fun c42_6 => ?_)
        · have c42_6 : ((oU (sO σ i))).toInt < (v).toInt := (tl_lt (x := (oU (sO σ i))) (y := v) (a := ((oU (sO σ i))).toInt) (b := (v).toInt) rfl rfl).mp c42_6
          refine lv_aload hx hb dX1_extend_48 (lv_at hl 0 rfl) ?_
          refine lv_lload_n hx hb dX1_extend_50 rfl (lv_at hl 3 rfl) ?_
          refine va_put (D := G.1) (ci := 1) (v := .long v) (ty := .long) (own := RX1) (C := RX0) (T := TX0) (N := 9) hx hb hts hiX0 tyX0 tyX0_ok nmX0 hown hK.1 hP hD hS (i + 4) (CW_get hi) rfl 6 (by decide) lf114 (fun _ h9 => h9) rfl (by decide +kernel) rfl rfl (Nat.le_of_ble_eq_true rfl) dX1_extend_51 (fun H locs hP hD hS => ?_)
          have hP : va_P G.1 vwCl (CW G a (nI (sG σ).length) (sT σ) (sR σ) κ.2.2.2.2.2.1 κ.2.2.2.2.2.2 (pO κ.2.2.2.2.1 (va_up (sO σ) i (oSU (sO σ i) v)) (sN σ)) (LW G a.2.1 κ.1 κ.2.1 κ.2.2.1 κ.2.2.2.1 (sN σ))) H := (CW_set hi (oSU (sO σ i) v)) ▸ hP
          have hD : va_D A (CW G a (nI (sG σ).length) (sT σ) (sR σ) κ.2.2.2.2.2.1 κ.2.2.2.2.2.2 (pO κ.2.2.2.2.1 (va_up (sO σ) i (oSU (sO σ i) v)) (sN σ)) (LW G a.2.1 κ.1 κ.2.1 κ.2.2.1 κ.2.2.2.1 (sN σ))) := (CW_set hi (oSU (sO σ i) v)) ▸ hD
          refine lv_iconst (v := 1) hx hb dX1_extend_54 (by decide) ?_
          have hF : fExtend σ o v = (1, sPut σ i (oSU (sO σ i) v)) := by unfold fExtend; rw [if_neg (by omega), if_neg (by omega), eoi, if_neg (by omega), if_neg (by omega)]
          exact hret _ _ _ _ _ _ _ () dX1_extend_55 (Or.inr (Or.inr rfl)) (by rw [hF]) (by rw [hF]; exact hP) (by rw [hF]; exact hD) hS (Nat.le_refl _) (Nat.le_refl _)
        · have c42_6 : ¬ (((oU (sO σ i))).toInt < (v).toInt) := mt (tl_lt (x := (oU (sO σ i))) (y := v) (a := ((oU (sO σ i))).toInt) (b := (v).toInt) rfl rfl).mpr c42_6
          refine lv_iconst (v := 0) hx hb dX1_extend_46 (by decide) ?_
          have hF : fExtend σ o v = (0, σ) := by unfold fExtend; rw [if_neg (by omega), if_neg (by omega), eoi, if_neg (by omega), if_pos (by omega)]
          exact hret _ _ _ _ _ _ _ () dX1_extend_47 (Or.inr (Or.inr rfl)) (by rw [hF]) (by rw [hF]; exact hP) (by rw [hF]; exact hD) hS (Nat.le_refl _) (Nat.le_refl _)
      · have c30_5 : ¬ ((r27_4).toInt = 0) := mt (ti_eq (x := r27_4) (y := 0) (a := (r27_4).toInt) (b := 0) rfl rfl).mpr c30_5
        refine lv_bipush (v := (-103)) hx hb dX1_extend_33 (by decide) ?_
        have hF : fExtend σ o v = ((-103), σ) := by unfold fExtend; rw [if_neg (by omega), if_neg (by omega), eoi, if_pos (by omega)]
        exact hret _ _ _ _ _ _ _ () dX1_extend_35 (Or.inr (Or.inr rfl)) (by rw [hF]) (by rw [hF]; exact hP) (by rw [hF]; exact hD) hS (Nat.le_refl _) (Nat.le_refl _)
    · have c19_3 : (r16_2).toInt = 0 := (ti_eq (x := r16_2) (y := 0) (a := (r16_2).toInt) (b := 0) rfl rfl).mp c19_3
      refine lv_bipush (v := (-102)) hx hb dX1_extend_22 (by decide) ?_
      have hF : fExtend σ o v = ((-102), σ) := by unfold fExtend; rw [if_neg (by omega), if_pos (by omega)]
      exact hret _ _ _ _ _ _ _ () dX1_extend_24 (Or.inr (Or.inr rfl)) (by rw [hF]) (by rw [hF]; exact hP) (by rw [hF]; exact hD) hS (Nat.le_refl _) (Nat.le_refl _)

set_option maxHeartbeats 4000000 in
set_option maxRecDepth 100000 in
/-- withdraw -/
theorem c_X1_withdraw (l : Launch) (G : GG) (a : AD) (κ : KP) (σ : St) (hI : SI σ) (hC : CI κ σ) (o : Int32) (t : Int64) : WrI l yX1_withdraw wsX1_withdraw (rmX 5 170 0 0) G [.ref a.1, .int o, .long t] (WC G a κ σ) (fun (r : Int32) (u : Unit) => r = (fWithdraw σ o t).1) (fun u : Unit => WC G a κ (fWithdraw σ o t).2) 0 0 := by
  refine wr_of_i (cc := cX1_withdraw) (maxL := 5) (t := .int) (by decide +kernel) rfl (Nat.le_of_ble_eq_true rfl) nar_int ?_
  intro p e s m args below meth c Q A hx hb hml hown hts hK hZ hA hret ls hl hP hD hS
  have hown : s.vm.findClass RX1 = some m.cls := hown
  have hl : lv_has ls 5 [(0, .ref a.1), (1, .int o), (2, .long t)] := hl
  have hP : va_P G.1 vwCl (CW G a (nI (sG σ).length) (sT σ) (sR σ) κ.2.2.2.2.2.1 κ.2.2.2.2.2.2 (pO κ.2.2.2.2.1 (sO σ) (sN σ)) (LW G a.2.1 κ.1 κ.2.1 κ.2.2.1 κ.2.2.2.1 (sN σ))) s.heap := hP
  have hD : va_D A (CW G a (nI (sG σ).length) (sT σ) (sR σ) κ.2.2.2.2.2.1 κ.2.2.2.2.2.2 (pO κ.2.2.2.2.1 (sO σ) (sN σ)) (LW G a.2.1 κ.1 κ.2.1 κ.2.2.1 κ.2.2.2.1 (sN σ))) := hD
  obtain ⟨hI1, hI2, hI3, hI4, hI5⟩ := id hI
  have cw65 := cwV (R := (rmX 5 170 0 0)) (s := s) (args := args) (rm := (rmX 3 100 0 0)) (mc := 0) (ms := 0) 1 hts gX1_withdraw_X1_find rfl rfl rfl (by decide +kernel) ⟨Nat.le_of_ble_eq_true rfl, Nat.le_of_ble_eq_true rfl⟩
  have cw69 := cwV (R := (rmX 5 170 0 0)) (s := s) (args := args) (rm := (rmX 1 40 0 0)) (mc := 0) (ms := 0) 1 hts gX1_withdraw_X1_canBeClock rfl rfl rfl (by decide +kernel) ⟨Nat.le_of_ble_eq_true rfl, Nat.le_of_ble_eq_true rfl⟩
  have cw72 := cwV (R := (rmX 5 170 0 0)) (s := s) (args := args) (rm := (rmX 4 140 0 0)) (mc := 0) (ms := 0) 1 hts gX1_withdraw_X1_moveClock rfl rfl rfl (by decide +kernel) ⟨Nat.le_of_ble_eq_true rfl, Nat.le_of_ble_eq_true rfl⟩
  have cw76 := cwV (R := (rmX 5 170 0 0)) (s := s) (args := args) (rm := (rmX 0 0 0 0)) (mc := 0) (ms := 0) 0 hts gX1_withdraw_X0_isOver rfl rfl rfl (by decide +kernel) ⟨Nat.le_of_ble_eq_true rfl, Nat.le_of_ble_eq_true rfl⟩
  have hiX1 := (show ∀ w ∈ u_ws RX1 TX1 6, w ∈ wsX1_withdraw by decide +kernel)
  have lf30 := hts (.fieldLink RX1 30 "OrderRows2" "clock" "J") (by decide +kernel)
  have hiX0 := (show ∀ w ∈ u_ws RX0 TX0 9, w ∈ wsX1_withdraw by decide +kernel)
  have lf84 := hts (.fieldLink RX1 84 "OrderRows2$Order" "overFrom" "J") (by decide +kernel)
  have cw87 := cwV (R := (rmX 5 170 0 0)) (s := s) (args := args) (rm := (rmX 1 40 0 0)) (mc := 0) (ms := 0) 1 hts gX1_withdraw_X0_daysOfSpanFrom rfl rfl rfl (by decide +kernel) ⟨Nat.le_of_ble_eq_true rfl, Nat.le_of_ble_eq_true rfl⟩
  refine lv_aload_n hx hb dX1_withdraw_0 rfl (lv_at hl 0 rfl) ?_
  refine lv_iload_n hx hb dX1_withdraw_1 rfl (lv_at hl 1 rfl) ?_
  refine rdV_q (b := a.1) (As := [.int o]) (rest := []) ⟨hx, hb, hml, hown, hts⟩ (c_X1_find l G a κ σ hI1 hC o) cw65 hK hP 2 rfl rfl rfl rfl hl.1 rfl (Nat.le_of_ble_eq_true rfl) dX1_withdraw_2 ⟨Nat.zero_le _, Nat.zero_le _⟩ (fun r1 w1 => ?_)
  rcases w1 with ⟨rfl, w1⟩ | ⟨i, hi, hoi, rfl⟩
  · have hno := w1
    refine W.eq (g2 := F0 m 5 ls [.null]) rfl ?_
    refine lv_astoreN (lv' := [(4, .null), (0, .ref a.1), (1, .int o), (2, .long t)]) hx hb dX1_withdraw_5 hl (by decide) rfl (fun ls hl => ?_)
    refine lv_aloadN hx hb dX1_withdraw_7 (lv_at hl 0 rfl) ?_
    refine lv_ifnonnullN hx hb dX1_withdraw_9 ?_
    refine lv_bipush (v := (-101)) hx hb dX1_withdraw_12 (by decide) ?_
    have hF : fWithdraw σ o t = ((-101), σ) := if_pos (by omega)
    exact hret _ _ _ _ _ _ _ () dX1_withdraw_14 (Or.inr (Or.inr rfl)) (by rw [hF]) (by rw [hF]; exact hP) (by rw [hF]; exact hD) hS (Nat.le_refl _) (Nat.le_refl _)
  · have eoi : oi o = i := by show ((o).toInt - 1).toNat = i; omega
    have hoI := hI4 i hi
    unfold OI at hoI
    refine W.eq (g2 := F0 m 5 ls [.ref (κ.2.2.2.2.1 i)]) rfl ?_
    refine lv_astore (lv' := [(4, .ref (κ.2.2.2.2.1 i)), (0, .ref a.1), (1, .int o), (2, .long t)]) hx hb dX1_withdraw_5 hl (by decide) rfl (fun ls hl => ?_)
    refine lv_aload hx hb dX1_withdraw_7 (lv_at hl 0 rfl) ?_
    refine lv_ifnonnull (tgt := 15) hx hb dX1_withdraw_9 (by decide) ?_
    refine lv_aload_n hx hb dX1_withdraw_15 rfl (lv_at hl 1 rfl) ?_
    refine lv_lload_n hx hb dX1_withdraw_16 rfl (lv_at hl 3 rfl) ?_
    refine rdV_i (b := a.1) (As := [.long t]) (rest := []) ⟨hx, hb, hml, hown, hts⟩ (c_X1_canBeClock l G a κ σ hI hC t) cw69 hK hP 2 rfl rfl rfl rfl hl.1 rfl (Nat.le_of_ble_eq_true rfl) dX1_withdraw_17 ⟨Nat.zero_le _, Nat.zero_le _⟩ (fun r2 w2 => ?_)
    have w2 : ((r2.toInt = 1 ∧ (0 ≤ (t).toInt ∧ (t).toInt ≤ 20000 ∧ (sT σ).toInt ≤ (t).toInt)) ∨ (r2.toInt = 0 ∧ ¬ (0 ≤ (t).toInt ∧ (t).toInt ≤ 20000 ∧ (sT σ).toInt ≤ (t).toInt))) := w2
    refine lv_if_ne (tgt := 26) hx hb dX1_withdraw_20 (by decide) (fun c20_3 => ?_) (fun c20_3 => ?_)
    · have c20_3 : ¬ ((r2).toInt = 0) := mt (ti_eq (x := r2) (y := 0) (a := (r2).toInt) (b := 0) rfl rfl).mpr c20_3
      refine lv_aload_n hx hb dX1_withdraw_26 rfl (lv_at hl 1 rfl) ?_
      refine lv_lload_n hx hb dX1_withdraw_27 rfl (lv_at hl 3 rfl) ?_
      refine wrV_i (wr := []) (b := a.1) (As := [.long t]) (rest := []) ⟨hx, hb, hml, hown, hts⟩ (c_X1_moveClock l G a κ σ hI hC t) cw72 hK hZ hP hD hS hA 2 rfl rfl rfl rfl hl.1 rfl (Nat.le_of_ble_eq_true rfl) dX1_withdraw_28 ⟨Nat.zero_le _, Nat.zero_le _⟩ (fun r4 _ H locs w4 hP hD hS => ?_)
      have hP : va_P G.1 vwCl (CW G a (nI (sG σ).length) t (sR σ) κ.2.2.2.2.2.1 κ.2.2.2.2.2.2 (pO κ.2.2.2.2.1 (sO (mvS σ t)) (sN σ)) (LW G a.2.1 κ.1 κ.2.1 κ.2.2.1 κ.2.2.2.1 (sN σ))) H := hP
      have hD : va_D A (CW G a (nI (sG σ).length) t (sR σ) κ.2.2.2.2.2.1 κ.2.2.2.2.2.2 (pO κ.2.2.2.2.1 (sO (mvS σ t)) (sN σ)) (LW G a.2.1 κ.1 κ.2.1 κ.2.2.1 κ.2.2.2.1 (sN σ))) := hD
      have hI1 := SI_mv hI (show clk σ t by omega)
      have hoJ := hI1.2.2.2.1 i hi
      unfold OI at hoJ
      have eT : (sT (mvS σ t)).toInt = t.toInt := rfl
      refine lv_pop hx hb dX1_withdraw_31 rfl ?_
      refine lv_aload hx hb dX1_withdraw_32 (lv_at hl 0 rfl) ?_
      refine rdV_i (b := (κ.2.2.2.2.1 i)) (As := []) (rest := []) ⟨hx, hb, hml, hown, hts⟩ (c_X0_isOver l G (κ.2.2.2.2.1 i) (sO (mvS σ t) i) ) cw76 hK (CW_ord hP hi) 1 rfl rfl rfl rfl hl.1 rfl (Nat.le_of_ble_eq_true rfl) dX1_withdraw_34 ⟨Nat.zero_le _, Nat.zero_le _⟩ (fun r34_5 w34_5 => ?_)
      have w34_5 : ((r34_5.toInt = 1 ∧ ((oX (sO (mvS σ t) i)).toInt ≠ 20001)) ∨ (r34_5.toInt = 0 ∧ ¬ ((oX (sO (mvS σ t) i)).toInt ≠ 20001))) := w34_5
      refine lv_if_eq (tgt := 43) hx hb dX1_withdraw_37 (by decide) (fun c37_6 => ?_) (fun c37_6 => ?_)
      · have c37_6 : (r34_5).toInt = 0 := (ti_eq (x := r34_5) (y := 0) (a := (r34_5).toInt) (b := 0) rfl rfl).mp c37_6
        refine lv_aload hx hb dX1_withdraw_43 (lv_at hl 0 rfl) ?_
        refine lv_aload_n hx hb dX1_withdraw_45 rfl (lv_at hl 1 rfl) ?_
        refine va_get (D := G.1) (ci := 2) (v := .long t) (own := RX1) (C := RX1) (T := TX1) (N := 6) hx hb hts hiX1 hown hK.1 hP 0 rfl rfl 5 (by decide) lf30 (fun _ h9 => h9) rfl dX1_withdraw_46 ?_
        refine va_put (D := G.1) (ci := 1) (v := .long t) (ty := .long) (own := RX1) (C := RX0) (T := TX0) (N := 9) hx hb hts hiX0 tyX0 tyX0_ok nmX0 hown hK.1 hP hD hS (i + 4) (CW_get hi) rfl 7 (by decide) lf84 (fun _ h9 => h9) rfl (by decide +kernel) rfl rfl (Nat.le_of_ble_eq_true rfl) dX1_withdraw_49 (fun H locs hP hD hS => ?_)
        have hP : va_P G.1 vwCl (CW G a (nI (sG σ).length) t (sR σ) κ.2.2.2.2.2.1 κ.2.2.2.2.2.2 (pO κ.2.2.2.2.1 (va_up (sO (mvS σ t)) i (oSX (sO (mvS σ t) i) t)) (sN σ)) (LW G a.2.1 κ.1 κ.2.1 κ.2.2.1 κ.2.2.2.1 (sN σ))) H := (CW_set hi (oSX (sO (mvS σ t) i) t)) ▸ hP
        have hD : va_D A (CW G a (nI (sG σ).length) t (sR σ) κ.2.2.2.2.2.1 κ.2.2.2.2.2.2 (pO κ.2.2.2.2.1 (va_up (sO (mvS σ t)) i (oSX (sO (mvS σ t) i) t)) (sN σ)) (LW G a.2.1 κ.1 κ.2.1 κ.2.2.1 κ.2.2.2.1 (sN σ))) := (CW_set hi (oSX (sO (mvS σ t) i) t)) ▸ hD
        refine lv_aload hx hb dX1_withdraw_52 (lv_at hl 0 rfl) ?_
        refine lv_aload_n hx hb dX1_withdraw_54 rfl (lv_at hl 1 rfl) ?_
        refine va_get (D := G.1) (ci := 2) (v := .long t) (own := RX1) (C := RX1) (T := TX1) (N := 6) hx hb hts hiX1 hown hK.1 hP 0 rfl rfl 5 (by decide) lf30 (fun _ h9 => h9) rfl dX1_withdraw_55 ?_
        have eod : va_up (sO (mvS σ t)) i (oSX (sO (mvS σ t) i) t) i = (oSX (sO (mvS σ t) i) t) := va_up_self _ _ _
        have hPo := CW_ord hP hi
        rw [eod] at hPo
        refine rdV_i (b := (κ.2.2.2.2.1 i)) (As := [.long t]) (rest := []) ⟨hx, hb, hml, hown, hts⟩ (c_X0_daysOfSpanFrom l G (κ.2.2.2.2.1 i) (oSX (sO (mvS σ t) i) t) t (by show 0 ≤ (oF (sO (mvS σ t) i)).toInt; omega) (by show (oF (sO (mvS σ t) i)).toInt ≤ (oU (sO (mvS σ t) i)).toInt; omega) (by show (oU (sO (mvS σ t) i)).toInt ≤ 20000; omega) (by omega) (by omega)) cw87 hK hPo 1 rfl rfl rfl rfl hl.1 rfl (Nat.le_of_ble_eq_true rfl) dX1_withdraw_58 ⟨Nat.zero_le _, Nat.zero_le _⟩ (fun r7 w7 => ?_)
        have w7 : r7 = nI (dys (sO (mvS σ t) i) t.toInt) := w7
        rw [w7]
        have hF : fWithdraw σ o t = (nI (dys (sO (mvS σ t) i) t.toInt), sPut (mvS σ t) i (oSX (sO (mvS σ t) i) t)) := by unfold fWithdraw; rw [if_neg (by omega), if_neg (by omega), eoi, if_neg (by omega)]
        exact hret _ _ _ _ _ _ _ () dX1_withdraw_61 (Or.inr (Or.inr rfl)) (by rw [hF]) (by rw [hF]; exact hP) (by rw [hF]; exact hD) hS (Nat.le_refl _) (Nat.le_refl _)
      · have c37_6 : ¬ ((r34_5).toInt = 0) := mt (ti_eq (x := r34_5) (y := 0) (a := (r34_5).toInt) (b := 0) rfl rfl).mpr c37_6
        refine lv_bipush (v := (-103)) hx hb dX1_withdraw_40 (by decide) ?_
        have hF : fWithdraw σ o t = ((-103), (mvS σ t)) := by unfold fWithdraw; rw [if_neg (by omega), if_neg (by omega), eoi, if_pos (by omega)]
        exact hret _ _ _ _ _ _ _ () dX1_withdraw_42 (Or.inr (Or.inr rfl)) (by rw [hF]) (by rw [hF]; exact hP) (by rw [hF]; exact hD) hS (Nat.le_refl _) (Nat.le_refl _)
    · have c20_3 : (r2).toInt = 0 := (ti_eq (x := r2) (y := 0) (a := (r2).toInt) (b := 0) rfl rfl).mp c20_3
      refine lv_bipush (v := (-102)) hx hb dX1_withdraw_23 (by decide) ?_
      have hF : fWithdraw σ o t = ((-102), σ) := by unfold fWithdraw; rw [if_neg (by omega), if_pos (by omega)]
      exact hret _ _ _ _ _ _ _ () dX1_withdraw_25 (Or.inr (Or.inr rfl)) (by rw [hF]) (by rw [hF]; exact hP) (by rw [hF]; exact hD) hS (Nat.le_refl _) (Nat.le_refl _)

set_option maxHeartbeats 4000000 in
set_option maxRecDepth 100000 in
/-- proof -/
theorem c_X1_proof (l : Launch) (G : GG) (a : AD) (κ : KP) (σ : St) (hI : SI σ) (hC : CI κ σ) (o g : Int32) (t : Int64) : WrI l yX1_proof wsX1_proof (rmX 5 170 0 0) G [.ref a.1, .int o, .int g, .long t] (WC G a κ σ) (fun (r : Int32) (u : Unit) => r = (fProof σ o g t).1) (fun u : Unit => WC G a κ (fProof σ o g t).2) 0 0 := by
  refine wr_of_i (cc := cX1_proof) (maxL := 6) (t := .int) (by decide +kernel) rfl (Nat.le_of_ble_eq_true rfl) nar_int ?_
  intro p e s m args below meth c Q A hx hb hml hown hts hK hZ hA hret ls hl hP hD hS
  have hown : s.vm.findClass RX1 = some m.cls := hown
  have hl : lv_has ls 6 [(0, .ref a.1), (1, .int o), (2, .int g), (3, .long t)] := hl
  have hP : va_P G.1 vwCl (CW G a (nI (sG σ).length) (sT σ) (sR σ) κ.2.2.2.2.2.1 κ.2.2.2.2.2.2 (pO κ.2.2.2.2.1 (sO σ) (sN σ)) (LW G a.2.1 κ.1 κ.2.1 κ.2.2.1 κ.2.2.2.1 (sN σ))) s.heap := hP
  have hD : va_D A (CW G a (nI (sG σ).length) (sT σ) (sR σ) κ.2.2.2.2.2.1 κ.2.2.2.2.2.2 (pO κ.2.2.2.2.1 (sO σ) (sN σ)) (LW G a.2.1 κ.1 κ.2.1 κ.2.2.1 κ.2.2.2.1 (sN σ))) := hD
  obtain ⟨hI1, hI2, hI3, hI4, hI5⟩ := id hI
  have cw65 := cwV (R := (rmX 5 170 0 0)) (s := s) (args := args) (rm := (rmX 3 100 0 0)) (mc := 0) (ms := 0) 1 hts gX1_proof_X1_find rfl rfl rfl (by decide +kernel) ⟨Nat.le_of_ble_eq_true rfl, Nat.le_of_ble_eq_true rfl⟩
  have cw69 := cwV (R := (rmX 5 170 0 0)) (s := s) (args := args) (rm := (rmX 1 40 0 0)) (mc := 0) (ms := 0) 1 hts gX1_proof_X1_canBeClock rfl rfl rfl (by decide +kernel) ⟨Nat.le_of_ble_eq_true rfl, Nat.le_of_ble_eq_true rfl⟩
  have cw72 := cwV (R := (rmX 5 170 0 0)) (s := s) (args := args) (rm := (rmX 4 140 0 0)) (mc := 0) (ms := 0) 1 hts gX1_proof_X1_moveClock rfl rfl rfl (by decide +kernel) ⟨Nat.le_of_ble_eq_true rfl, Nat.le_of_ble_eq_true rfl⟩
  have cw76 := cwV (R := (rmX 5 170 0 0)) (s := s) (args := args) (rm := (rmX 0 0 0 0)) (mc := 0) (ms := 0) 0 hts gX1_proof_X0_isOver rfl rfl rfl (by decide +kernel) ⟨Nat.le_of_ble_eq_true rfl, Nat.le_of_ble_eq_true rfl⟩
  have hiX0 := (show ∀ w ∈ u_ws RX0 TX0 9, w ∈ wsX1_proof by decide +kernel)
  have lf80 := hts (.fieldLink RX1 80 "OrderRows2$Order" "isProved" "Z") (by decide +kernel)
  have hiX1 := (show ∀ w ∈ u_ws RX1 TX1 6, w ∈ wsX1_proof by decide +kernel)
  have lf30 := hts (.fieldLink RX1 30 "OrderRows2" "clock" "J") (by decide +kernel)
  have lf84 := hts (.fieldLink RX1 84 "OrderRows2$Order" "overFrom" "J") (by decide +kernel)
  refine lv_aload_n hx hb dX1_proof_0 rfl (lv_at hl 0 rfl) ?_
  refine lv_iload_n hx hb dX1_proof_1 rfl (lv_at hl 1 rfl) ?_
  refine rdV_q (b := a.1) (As := [.int o]) (rest := []) ⟨hx, hb, hml, hown, hts⟩ (c_X1_find l G a κ σ hI1 hC o) cw65 hK hP 2 rfl rfl rfl rfl hl.1 rfl (Nat.le_of_ble_eq_true rfl) dX1_proof_2 ⟨Nat.zero_le _, Nat.zero_le _⟩ (fun r1 w1 => ?_)
  rcases w1 with ⟨rfl, w1⟩ | ⟨i, hi, hoi, rfl⟩
  · have hno := w1
    refine W.eq (g2 := F0 m 5 ls [.null]) rfl ?_
    refine lv_astoreN (lv' := [(5, .null), (0, .ref a.1), (1, .int o), (2, .int g), (3, .long t)]) hx hb dX1_proof_5 hl (by decide) rfl (fun ls hl => ?_)
    refine lv_aloadN hx hb dX1_proof_7 (lv_at hl 0 rfl) ?_
    refine lv_ifnonnullN hx hb dX1_proof_9 ?_
    refine lv_bipush (v := (-101)) hx hb dX1_proof_12 (by decide) ?_
    have hF : fProof σ o g t = ((-101), σ) := if_pos (by omega)
    exact hret _ _ _ _ _ _ _ () dX1_proof_14 (Or.inr (Or.inr rfl)) (by rw [hF]) (by rw [hF]; exact hP) (by rw [hF]; exact hD) hS (Nat.le_refl _) (Nat.le_refl _)
  · have eoi : oi o = i := by show ((o).toInt - 1).toNat = i; omega
    have hoI := hI4 i hi
    unfold OI at hoI
    refine W.eq (g2 := F0 m 5 ls [.ref (κ.2.2.2.2.1 i)]) rfl ?_
    refine lv_astore (lv' := [(5, .ref (κ.2.2.2.2.1 i)), (0, .ref a.1), (1, .int o), (2, .int g), (3, .long t)]) hx hb dX1_proof_5 hl (by decide) rfl (fun ls hl => ?_)
    refine lv_aload hx hb dX1_proof_7 (lv_at hl 0 rfl) ?_
    refine lv_ifnonnull (tgt := 15) hx hb dX1_proof_9 (by decide) ?_
    refine lv_aload_n hx hb dX1_proof_15 rfl (lv_at hl 1 rfl) ?_
    refine lv_lload_n hx hb dX1_proof_16 rfl (lv_at hl 4 rfl) ?_
    refine rdV_i (b := a.1) (As := [.long t]) (rest := []) ⟨hx, hb, hml, hown, hts⟩ (c_X1_canBeClock l G a κ σ hI hC t) cw69 hK hP 2 rfl rfl rfl rfl hl.1 rfl (Nat.le_of_ble_eq_true rfl) dX1_proof_17 ⟨Nat.zero_le _, Nat.zero_le _⟩ (fun r2 w2 => ?_)
    have w2 : ((r2.toInt = 1 ∧ (0 ≤ (t).toInt ∧ (t).toInt ≤ 20000 ∧ (sT σ).toInt ≤ (t).toInt)) ∨ (r2.toInt = 0 ∧ ¬ (0 ≤ (t).toInt ∧ (t).toInt ≤ 20000 ∧ (sT σ).toInt ≤ (t).toInt))) := w2
    refine lv_if_ne (tgt := 26) hx hb dX1_proof_20 (by decide) (fun c20_3 => ?_) (fun c20_3 => ?_)
    · have c20_3 : ¬ ((r2).toInt = 0) := mt (ti_eq (x := r2) (y := 0) (a := (r2).toInt) (b := 0) rfl rfl).mpr c20_3
      refine lv_aload_n hx hb dX1_proof_26 rfl (lv_at hl 1 rfl) ?_
      refine lv_lload_n hx hb dX1_proof_27 rfl (lv_at hl 4 rfl) ?_
      refine wrV_i (wr := []) (b := a.1) (As := [.long t]) (rest := []) ⟨hx, hb, hml, hown, hts⟩ (c_X1_moveClock l G a κ σ hI hC t) cw72 hK hZ hP hD hS hA 2 rfl rfl rfl rfl hl.1 rfl (Nat.le_of_ble_eq_true rfl) dX1_proof_28 ⟨Nat.zero_le _, Nat.zero_le _⟩ (fun r4 _ H locs w4 hP hD hS => ?_)
      have hP : va_P G.1 vwCl (CW G a (nI (sG σ).length) t (sR σ) κ.2.2.2.2.2.1 κ.2.2.2.2.2.2 (pO κ.2.2.2.2.1 (sO (mvS σ t)) (sN σ)) (LW G a.2.1 κ.1 κ.2.1 κ.2.2.1 κ.2.2.2.1 (sN σ))) H := hP
      have hD : va_D A (CW G a (nI (sG σ).length) t (sR σ) κ.2.2.2.2.2.1 κ.2.2.2.2.2.2 (pO κ.2.2.2.2.1 (sO (mvS σ t)) (sN σ)) (LW G a.2.1 κ.1 κ.2.1 κ.2.2.1 κ.2.2.2.1 (sN σ))) := hD
      have hI1 := SI_mv hI (show clk σ t by omega)
      have hoJ := hI1.2.2.2.1 i hi
      unfold OI at hoJ
      have eT : (sT (mvS σ t)).toInt = t.toInt := rfl
      refine lv_pop hx hb dX1_proof_31 rfl ?_
      refine lv_aload hx hb dX1_proof_32 (lv_at hl 0 rfl) ?_
      refine rdV_i (b := (κ.2.2.2.2.1 i)) (As := []) (rest := []) ⟨hx, hb, hml, hown, hts⟩ (c_X0_isOver l G (κ.2.2.2.2.1 i) (sO (mvS σ t) i) ) cw76 hK (CW_ord hP hi) 1 rfl rfl rfl rfl hl.1 rfl (Nat.le_of_ble_eq_true rfl) dX1_proof_34 ⟨Nat.zero_le _, Nat.zero_le _⟩ (fun r34_5 w34_5 => ?_)
      have w34_5 : ((r34_5.toInt = 1 ∧ ((oX (sO (mvS σ t) i)).toInt ≠ 20001)) ∨ (r34_5.toInt = 0 ∧ ¬ ((oX (sO (mvS σ t) i)).toInt ≠ 20001))) := w34_5
      refine lv_if_ne (tgt := 48) hx hb dX1_proof_37 (by decide) (fun c37_6 => ?_) (fun c37_6 => ?_)
      · have c37_6 : ¬ ((r34_5).toInt = 0) := mt (ti_eq (x := r34_5) (y := 0) (a := (r34_5).toInt) (b := 0) rfl rfl).mpr c37_6
        refine lv_bipush (v := (-103)) hx hb dX1_proof_48 (by decide) ?_
        have hF : fProof σ o g t = ((-103), (mvS σ t)) := by unfold fProof; rw [if_neg (by omega), if_neg (by omega), eoi, if_pos (by omega)]
        exact hret _ _ _ _ _ _ _ () dX1_proof_50 (Or.inr (Or.inr rfl)) (by rw [hF]) (by rw [hF]; exact hP) (by rw [hF]; exact hD) hS (Nat.le_refl _) (Nat.le_refl _)
      · have c37_6 : (r34_5).toInt = 0 := (ti_eq (x := r34_5) (y := 0) (a := (r34_5).toInt) (b := 0) rfl rfl).mp c37_6
        refine lv_aload hx hb dX1_proof_40 (lv_at hl 0 rfl) ?_
        refine va_get (D := G.1) (ci := 1) (v := .int (oP (sO (mvS σ t) i))) (own := RX1) (C := RX0) (T := TX0) (N := 9) hx hb hts hiX0 hown hK.1 hP (i + 4) (CW_get hi) rfl 8 (by decide) lf80 (fun _ h9 => h9) rfl dX1_proof_42 ?_
        refine lv_if_eq (tgt := 51) hx hb dX1_proof_45 (by decide) (fun c45_7 => ?_) (fun c45_7 => ?_)
        · have c45_7 : ((oP (sO (mvS σ t) i))).toInt = 0 := (ti_eq (x := (oP (sO (mvS σ t) i))) (y := 0) (a := ((oP (sO (mvS σ t) i))).toInt) (b := 0) rfl rfl).mp c45_7
          refine lv_iload_n hx hb dX1_proof_51 rfl (lv_at hl 3 rfl) ?_
          refine lv_if_ne (tgt := 66) hx hb dX1_proof_52 (by decide) (fun c52_8 => ?_) (fun c52_8 => ?_)
          · have c52_8 : ¬ ((g).toInt = 0) := mt (ti_eq (x := g) (y := 0) (a := (g).toInt) (b := 0) rfl rfl).mpr c52_8
            refine lv_aload hx hb dX1_proof_66 (lv_at hl 0 rfl) ?_
            refine lv_iconst (v := 1) hx hb dX1_proof_68 (by decide) ?_
            refine va_put (D := G.1) (ci := 1) (v := .int 1) (ty := .boolean) (own := RX1) (C := RX0) (T := TX0) (N := 9) hx hb hts hiX0 tyX0 tyX0_ok nmX0 hown hK.1 hP hD hS (i + 4) (CW_get hi) rfl 8 (by decide) lf80 (fun _ h9 => h9) rfl (by decide +kernel) rfl rfl (Nat.le_of_ble_eq_true rfl) dX1_proof_69 (fun H locs hP hD hS => ?_)
            have hP : va_P G.1 vwCl (CW G a (nI (sG σ).length) t (sR σ) κ.2.2.2.2.2.1 κ.2.2.2.2.2.2 (pO κ.2.2.2.2.1 (va_up (sO (mvS σ t)) i (oSP (sO (mvS σ t) i) 1)) (sN σ)) (LW G a.2.1 κ.1 κ.2.1 κ.2.2.1 κ.2.2.2.1 (sN σ))) H := (CW_set hi (oSP (sO (mvS σ t) i) 1)) ▸ hP
            have hD : va_D A (CW G a (nI (sG σ).length) t (sR σ) κ.2.2.2.2.2.1 κ.2.2.2.2.2.2 (pO κ.2.2.2.2.1 (va_up (sO (mvS σ t)) i (oSP (sO (mvS σ t) i) 1)) (sN σ)) (LW G a.2.1 κ.1 κ.2.1 κ.2.2.1 κ.2.2.2.1 (sN σ))) := (CW_set hi (oSP (sO (mvS σ t) i) 1)) ▸ hD
            refine lv_iconst (v := 1) hx hb dX1_proof_72 (by decide) ?_
            have hF : fProof σ o g t = (1, sPut (mvS σ t) i (oSP (sO (mvS σ t) i) 1)) := by unfold fProof; rw [if_neg (by omega), if_neg (by omega), eoi, if_neg (by omega), if_neg (by omega)]
            exact hret _ _ _ _ _ _ _ () dX1_proof_73 (Or.inr (Or.inr rfl)) (by rw [hF]) (by rw [hF]; exact hP) (by rw [hF]; exact hD) hS (Nat.le_refl _) (Nat.le_refl _)
          · have c52_8 : (g).toInt = 0 := (ti_eq (x := g) (y := 0) (a := (g).toInt) (b := 0) rfl rfl).mp c52_8
            refine lv_aload hx hb dX1_proof_55 (lv_at hl 0 rfl) ?_
            refine lv_aload_n hx hb dX1_proof_57 rfl (lv_at hl 1 rfl) ?_
            refine va_get (D := G.1) (ci := 2) (v := .long t) (own := RX1) (C := RX1) (T := TX1) (N := 6) hx hb hts hiX1 hown hK.1 hP 0 rfl rfl 5 (by decide) lf30 (fun _ h9 => h9) rfl dX1_proof_58 ?_
            refine va_put (D := G.1) (ci := 1) (v := .long t) (ty := .long) (own := RX1) (C := RX0) (T := TX0) (N := 9) hx hb hts hiX0 tyX0 tyX0_ok nmX0 hown hK.1 hP hD hS (i + 4) (CW_get hi) rfl 7 (by decide) lf84 (fun _ h9 => h9) rfl (by decide +kernel) rfl rfl (Nat.le_of_ble_eq_true rfl) dX1_proof_61 (fun H locs hP hD hS => ?_)
            have hP : va_P G.1 vwCl (CW G a (nI (sG σ).length) t (sR σ) κ.2.2.2.2.2.1 κ.2.2.2.2.2.2 (pO κ.2.2.2.2.1 (va_up (sO (mvS σ t)) i (oSX (sO (mvS σ t) i) t)) (sN σ)) (LW G a.2.1 κ.1 κ.2.1 κ.2.2.1 κ.2.2.2.1 (sN σ))) H := (CW_set hi (oSX (sO (mvS σ t) i) t)) ▸ hP
            have hD : va_D A (CW G a (nI (sG σ).length) t (sR σ) κ.2.2.2.2.2.1 κ.2.2.2.2.2.2 (pO κ.2.2.2.2.1 (va_up (sO (mvS σ t)) i (oSX (sO (mvS σ t) i) t)) (sN σ)) (LW G a.2.1 κ.1 κ.2.1 κ.2.2.1 κ.2.2.2.1 (sN σ))) := (CW_set hi (oSX (sO (mvS σ t) i) t)) ▸ hD
            refine lv_iconst (v := 0) hx hb dX1_proof_64 (by decide) ?_
            have hF : fProof σ o g t = (0, sPut (mvS σ t) i (oSX (sO (mvS σ t) i) t)) := by unfold fProof; rw [if_neg (by omega), if_neg (by omega), eoi, if_neg (by omega), if_pos (by omega)]
            exact hret _ _ _ _ _ _ _ () dX1_proof_65 (Or.inr (Or.inr rfl)) (by rw [hF]) (by rw [hF]; exact hP) (by rw [hF]; exact hD) hS (Nat.le_refl _) (Nat.le_refl _)
        · have c45_7 : ¬ (((oP (sO (mvS σ t) i))).toInt = 0) := mt (ti_eq (x := (oP (sO (mvS σ t) i))) (y := 0) (a := ((oP (sO (mvS σ t) i))).toInt) (b := 0) rfl rfl).mpr c45_7
          refine lv_bipush (v := (-103)) hx hb dX1_proof_48 (by decide) ?_
          have hF : fProof σ o g t = ((-103), (mvS σ t)) := by unfold fProof; rw [if_neg (by omega), if_neg (by omega), eoi, if_pos (by omega)]
          exact hret _ _ _ _ _ _ _ () dX1_proof_50 (Or.inr (Or.inr rfl)) (by rw [hF]) (by rw [hF]; exact hP) (by rw [hF]; exact hD) hS (Nat.le_refl _) (Nat.le_refl _)
    · have c20_3 : (r2).toInt = 0 := (ti_eq (x := r2) (y := 0) (a := (r2).toInt) (b := 0) rfl rfl).mp c20_3
      refine lv_bipush (v := (-102)) hx hb dX1_proof_23 (by decide) ?_
      have hF : fProof σ o g t = ((-102), σ) := by unfold fProof; rw [if_neg (by omega), if_pos (by omega)]
      exact hret _ _ _ _ _ _ _ () dX1_proof_25 (Or.inr (Or.inr rfl)) (by rw [hF]) (by rw [hF]; exact hP) (by rw [hF]; exact hD) hS (Nat.le_refl _) (Nat.le_refl _)
