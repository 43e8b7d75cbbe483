-- ===== laid by wip/whole/gen.py out of the decode rows =====
set_option maxHeartbeats 4000000 in
set_option maxRecDepth 100000 in
/-- told -/
theorem c_X2_told (l : Launch) (G : GG) (b : Nat → Nat) (μ : MP) (σ : St) (hI : SI σ) (hM : MI μ σ) (s0 ix : Int32) : WrI l yX2_told wsX2_told (rmX 2 90 0 0) G [.ref (b 0), .int s0, .int ix] (WM G b μ σ) (fun (r : Int32) (u : Unit) => r = fTold σ s0 ix) (fun u : Unit => (WM G b μ σ)) 0 0 := by
  refine wr_of_i (cc := cX2_told) (maxL := 6) (t := .int) (by decide +kernel) rfl (Nat.le_of_ble_eq_true rfl) nar_int ?_
  intro p e s m args below meth c Q A hx hb hml hown hts hK hZ hA hret ls hl hP hD hS
  have hown : s.vm.findClass RX2 = some m.cls := hown
  have hl : lv_has ls 6 [(0, .ref (b 0)), (1, .int s0), (2, .int ix)] := hl
  have hP : va_P G.1 vwCl (MW G b 0 (nI (sN σ)) (uK μ) (uE μ) (uP μ) (uT μ) (uF μ) (uU μ) (uM μ) (uV μ) (uX μ) (sR σ) (sT σ) (uW μ) (nI (sG σ).length) (uG μ)) s.heap := hP
  have hD : va_D A (MW G b 0 (nI (sN σ)) (uK μ) (uE μ) (uP μ) (uT μ) (uF μ) (uU μ) (uM μ) (uV μ) (uX μ) (sR σ) (sT σ) (uW μ) (nI (sG σ).length) (uG μ)) := hD
  obtain ⟨hI1, hI2, hI3, hI4, hI5⟩ := id hI
  have hiX2 := (show ∀ w ∈ u_ws RX2 TX2 17, w ∈ wsX2_told by decide +kernel)
  have lf52 := hts (.fieldLink RX2 52 "OrderRows2Model" "thrown" "I") (by decide +kernel)
  have kl72 := hts (.constantLong RX2 72 (49)) (by decide +kernel)
  have cw58 := va_cwS (R := (rmX 2 90 0 0)) (s := s) (args := args) (rm := (rmX 0 0 0 0)) (mc := 0) (ms := 0) 3 hts gX2_told_X2_isIn rfl rfl rfl (by decide +kernel) ⟨Nat.le_of_ble_eq_true rfl, Nat.le_of_ble_eq_true rfl⟩
  have lf55 := hts (.fieldLink RX2 55 "OrderRows2Model" "orders" "I") (by decide +kernel)
  have lf16 := hts (.fieldLink RX2 16 "OrderRows2Model" "persons" "[I") (by decide +kernel)
  have lf32 := hts (.fieldLink RX2 32 "OrderRows2Model" "proved" "[Z") (by decide +kernel)
  have lf7 := hts (.fieldLink RX2 7 "OrderRows2Model" "kinds" "[I") (by decide +kernel)
  have lf62 := hts (.fieldLink RX2 62 "OrderRows2Model" "now" "J") (by decide +kernel)
  have cw92 := cwV (R := (rmX 2 90 0 0)) (s := s) (args := args) (rm := (rmX 1 60 0 0)) (mc := 0) (ms := 0) 2 hts gX2_told_X2_isForce rfl rfl rfl (by decide +kernel) ⟨Nat.le_of_ble_eq_true rfl, Nat.le_of_ble_eq_true rfl⟩
  refine lv_aload_n hx hb dX2_told_0 rfl (lv_at hl 0 rfl) ?_
  refine lv_iconst (v := 0) hx hb dX2_told_1 (by decide) ?_
  refine va_put (D := G.1) (ci := 3) (v := .int 0) (ty := .int) (own := RX2) (C := RX2) (T := TX2) (N := 17) hx hb hts hiX2 tyX2 tyX2_ok nmX2 hown hK.1 hP hD hS 0 rfl rfl 0 (by decide) lf52 (fun _ h9 => h9) rfl (by decide +kernel) rfl rfl (Nat.le_of_ble_eq_true rfl) dX2_told_2 (fun H locs hP hD hS => ?_)
  have hP : va_P G.1 vwCl (MW G b 0 (nI (sN σ)) (uK μ) (uE μ) (uP μ) (uT μ) (uF μ) (uU μ) (uM μ) (uV μ) (uX μ) (sR σ) (sT σ) (uW μ) (nI (sG σ).length) (uG μ)) H := hP
  have hD : va_D A (MW G b 0 (nI (sN σ)) (uK μ) (uE μ) (uP μ) (uT μ) (uF μ) (uU μ) (uM μ) (uV μ) (uX μ) (sR σ) (sT σ) (uW μ) (nI (sG σ).length) (uG μ)) := hD
  refine lv_iload_n hx hb dX2_told_5 rfl (lv_at hl 1 rfl) ?_
  refine lv_i2l hx hb dX2_told_6 rfl ?_
  refine lv_lconst (v := 0) hx hb dX2_told_7 rfl ?_
  refine lv_ldc2 (v := 49) hx hb hown kl72 dX2_told_8 ?_
  refine rdS_i (As := [.long ((s0).toInt64), .long 0, .long 49]) (rest := []) ⟨hx, hb, hml, hown, hts⟩ (c_X2_isIn l G ((s0).toInt64 : Int64) (0 : Int64) (49 : Int64)) cw58 hK va_P.nil rfl hl.1 rfl (Nat.le_of_ble_eq_true rfl) dX2_told_11 ⟨Nat.zero_le _, Nat.zero_le _⟩ (fun r11_1 w11_1 => ?_)
  have w11_1 : ((r11_1.toInt = 1 ∧ (((0 : Int64)).toInt ≤ (((s0).toInt64 : Int64)).toInt ∧ (((s0).toInt64 : Int64)).toInt ≤ ((49 : Int64)).toInt)) ∨ (r11_1.toInt = 0 ∧ ¬ (((0 : Int64)).toInt ≤ (((s0).toInt64 : Int64)).toInt ∧ (((s0).toInt64 : Int64)).toInt ≤ ((49 : Int64)).toInt))) := w11_1
  have va2 : (((s0).toInt64 : Int64)).toInt = (s0).toInt := (tl_i2l rfl)
  have va3 : ((0 : Int64)).toInt = 0 := rfl
  have va4 : ((49 : Int64)).toInt = 49 := rfl
  refine lv_if_ne (tgt := 20) hx hb dX2_told_14 (by decide) (fun c14_5 => ?_) (fun c14_5 => ?_)
  · have c14_5 : ¬ ((r11_1).toInt = 0) := mt (ti_eq (x := r11_1) (y := 0) (a := (r11_1).toInt) (b := 0) rfl rfl).mpr c14_5
    refine lv_iconst (v := 0) hx hb dX2_told_20 (by decide) ?_
    refine lv_istore_n (lv' := [(3, .int 0), (0, .ref (b 0)), (1, .int s0), (2, .int ix)]) hx hb dX2_told_21 rfl hl (by decide) rfl (fun ls hl => ?_)
    refine lv_iconst (v := 1) hx hb dX2_told_22 (by decide) ?_
    refine lv_istore (lv' := [(4, .int 1), (3, .int 0), (0, .ref (b 0)), (1, .int s0), (2, .int ix)]) hx hb dX2_told_23 hl (by decide) rfl (fun ls hl => ?_)
    have loop25 : ∀ (fu : Nat) (i cn : Nat) (x4 x3 : Int32), sN σ < i + fu → i ≤ sN σ → cn ≤ i → x4.toInt = ((i + 1 : Nat) : Int) → x3.toInt = ((cn : Nat) : Int) → tdL σ s0.toInt ix.toInt (sN σ - i) i cn = tdL σ s0.toInt ix.toInt (sN σ) 0 0 → ∀ (H : Heap) (locs : List Loc), va_P G.1 vwCl (MW G b 0 (nI (sN σ)) (uK μ) (uE μ) (uP μ) (uT μ) (uF μ) (uU μ) (uM μ) (uV μ) (uX μ) (sR σ) (sT σ) (uW μ) (nI (sG σ).length) (uG μ)) H → va_D A (MW G b 0 (nI (sN σ)) (uK μ) (uE μ) (uP μ) (uT μ) (uF μ) (uU μ) (uM μ) (uV μ) (uX μ) (sR σ) (sT σ) (uW μ) (nI (sG σ).length) (uG μ)) → va_S A s.heap H locs → ∀ ls : Array Slot, lv_has ls 6 [(4, .int x4), (3, .int x3), (0, .ref (b 0)), (1, .int s0), (2, .int ix)] → W p l e (rmX 2 90 0 0) s m args below meth c H locs 0 0 Q (F0 m 25 ls []) := by
      intro fu
      induction fu with
      | zero =>
        intro i cn x4 x3 hfu hin hcn e4 e3 hT
        exact absurd hfu (by omega)
      | succ fu ih25 =>
        intro i cn x4 x3 hfu hin hcn e4 e3 hT H locs hP hD hS ls hl
        refine lv_iload hx hb dX2_told_25 (lv_at hl 0 rfl) ?_
        refine lv_aload_n hx hb dX2_told_27 rfl (lv_at hl 2 rfl) ?_
        refine va_get (D := G.1) (ci := 3) (v := .int (nI (sN σ))) (own := RX2) (C := RX2) (T := TX2) (N := 17) hx hb hts hiX2 hown hK.1 hP 0 rfl rfl 1 (by decide) lf55 (fun _ h9 => h9) rfl dX2_told_28 ?_
        refine lv_icmp_gt (tgt := 118) hx hb dX2_told_31 (by decide) (fun c31_6 => ?_) (fun c31_6 => ?_)
        · have c31_6 : (((sN σ) : Nat) : Int) < (((i + 1) : Nat) : Int) := (ti_lt (x := (nI (sN σ))) (y := x4) (a := (((sN σ) : Nat) : Int)) (b := (((i + 1) : Nat) : Int)) (ti_nI (by omega)) e4).mp c31_6
          refine lv_iconst (v := 0) hx hb dX2_told_118 (by decide) ?_
          have er : sN σ - i = 0 := by omega
          rw [er] at hT
          exact hret _ _ _ _ _ _ _ () dX2_told_119 (Or.inr (Or.inr rfl)) ((if_neg (show ¬ ¬ (0 ≤ s0.toInt ∧ s0.toInt ≤ 49) by omega)).trans hT.symm).symm hP hD hS (Nat.le_refl _) (Nat.le_refl _)
        · have c31_6 : ¬ ((((sN σ) : Nat) : Int) < (((i + 1) : Nat) : Int)) := mt (ti_lt (x := (nI (sN σ))) (y := x4) (a := (((sN σ) : Nat) : Int)) (b := (((i + 1) : Nat) : Int)) (ti_nI (by omega)) e4).mpr c31_6
          have hi : i < sN σ := by omega
          have hmo1 := hM.1 i hi
          have hxi1 : ((oX (sO σ i)).toInt = 20001 ∧ ((uX μ) (i + 1)).toInt = -1) ∨ ((oX (sO σ i)).toInt ≠ 20001 ∧ ((uX μ) (i + 1)).toInt = (oX (sO σ i)).toInt) := XI_i hmo1.2.2.2.2.2.2.2.2
          have hoi1 := hI4 i hi
          unfold OI at hoi1
          refine lv_aload_n hx hb dX2_told_34 rfl (lv_at hl 2 rfl) ?_
          refine va_get (D := G.1) (ci := 3) (v := .ref (b 3)) (own := RX2) (C := RX2) (T := TX2) (N := 17) hx hb hts hiX2 hown hK.1 hP 0 rfl rfl 4 (by decide) lf16 (fun _ h9 => h9) rfl dX2_told_35 ?_
          refine lv_iload hx hb dX2_told_38 (lv_at hl 0 rfl) ?_
          refine my_iald hx hb hK hP 3 rfl (i + 1) e4 (by omega) dX2_told_40 ?_
          refine lv_iload_n hx hb dX2_told_41 rfl (lv_at hl 3 rfl) ?_
          refine lv_icmp_ne (tgt := 83) hx hb dX2_told_42 (by decide) (fun c42_7 => ?_) (fun c42_7 => ?_)
          · have c42_7 : ¬ ((oW (sO σ i)).toInt = (s0).toInt) := mt (ti_eq (x := ((uP μ) (i + 1))) (y := s0) (a := (oW (sO σ i)).toInt) (b := (s0).toInt) (congrArg Int32.toInt hmo1.2.2.1) rfl).mpr c42_7
            refine lv_iconst (v := 0) hx hb dX2_told_83 (by decide) ?_
            refine lv_istore (lv' := [(5, .int 0), (4, .int x4), (3, .int x3), (0, .ref (b 0)), (1, .int s0), (2, .int ix)]) hx hb dX2_told_84 hl (by decide) rfl (fun ls hl => ?_)
            refine lv_iload hx hb dX2_told_86 (lv_at hl 0 rfl) ?_
            refine lv_if_eq (tgt := 99) hx hb dX2_told_88 (by decide) (fun _ => ?_) (fun c88_8 => absurd (by decide) c88_8)
            refine lv_iload hx hb dX2_told_99 (lv_at hl 0 rfl) ?_
            refine lv_if_eq (tgt := 110) hx hb dX2_told_101 (by decide) (fun _ => ?_) (fun c101_9 => absurd (by decide) c101_9)
            refine lv_iload_n hx hb dX2_told_110 rfl (lv_at hl 2 rfl) ?_
            refine lv_istore_n (lv' := [(3, .int x3), (5, .int 0), (4, .int x4), (0, .ref (b 0)), (1, .int s0), (2, .int ix)]) hx hb dX2_told_111 rfl hl (by decide) rfl (fun ls hl => ?_)
            obtain ⟨x112_10, e112_10⟩ : ∃ y : Int32, y = x4 + 1 := ⟨_, rfl⟩
            have v112_10 : (x112_10).toInt = ((((i + 1) + 1) : Nat) : Int) := by rw [e112_10]; exact (ti_add (a := (((i + 1) : Nat) : Int)) (b := 1) e4 rfl (by omega) (by omega)).trans (by omega)
            refine lv_iinc (v := x112_10) (lv' := [(4, .int x112_10), (3, .int x3), (5, .int 0), (0, .ref (b 0)), (1, .int s0), (2, .int ix)]) hx hb dX2_told_112 hl (k := 2) rfl (by rw [e112_10]; rfl) (by decide) rfl (fun ls hl => ?_)
            refine lv_goto (tgt := 25) hx hb dX2_told_115 (by decide) ?_
            have er : sN σ - i = (sN σ - (i + 1)) + 1 := by omega
            exact ih25 (i + 1) cn x112_10 x3 (by omega) (by omega) (by omega) v112_10 e3 (by rw [← hT, er]; exact (tdL_n (by omega)).symm) _ _ hP hD hS ls (lv_sub hl [0, 1, 3, 4, 5] rfl)
          · have c42_7 : (oW (sO σ i)).toInt = (s0).toInt := (ti_eq (x := ((uP μ) (i + 1))) (y := s0) (a := (oW (sO σ i)).toInt) (b := (s0).toInt) (congrArg Int32.toInt hmo1.2.2.1) rfl).mp c42_7
            refine lv_aload_n hx hb dX2_told_45 rfl (lv_at hl 2 rfl) ?_
            refine va_get (D := G.1) (ci := 3) (v := .ref (b 8)) (own := RX2) (C := RX2) (T := TX2) (N := 17) hx hb hts hiX2 hown hK.1 hP 0 rfl rfl 9 (by decide) lf32 (fun _ h9 => h9) rfl dX2_told_46 ?_
            refine lv_iload hx hb dX2_told_49 (lv_at hl 0 rfl) ?_
            refine my_zald hx hb hK hP 8 rfl (i + 1) e4 (by omega) dX2_told_51 ?_
            refine lv_if_eq (tgt := 83) hx hb dX2_told_52 (by decide) (fun c52_11 => ?_) (fun c52_11 => ?_)
            · have c52_11 : (oP (sO σ i)).toInt = 0 := (ti_eq (x := ((uV μ) (i + 1))) (y := 0) (a := (oP (sO σ i)).toInt) (b := 0) (congrArg Int32.toInt hmo1.2.2.2.2.2.2.2.1) rfl).mp c52_11
              refine lv_iconst (v := 0) hx hb dX2_told_83 (by decide) ?_
              refine lv_istore (lv' := [(5, .int 0), (4, .int x4), (3, .int x3), (0, .ref (b 0)), (1, .int s0), (2, .int ix)]) hx hb dX2_told_84 hl (by decide) rfl (fun ls hl => ?_)
              refine lv_iload hx hb dX2_told_86 (lv_at hl 0 rfl) ?_
              refine lv_if_eq (tgt := 99) hx hb dX2_told_88 (by decide) (fun _ => ?_) (fun c88_12 => absurd (by decide) c88_12)
              refine lv_iload hx hb dX2_told_99 (lv_at hl 0 rfl) ?_
              refine lv_if_eq (tgt := 110) hx hb dX2_told_101 (by decide) (fun _ => ?_) (fun c101_13 => absurd (by decide) c101_13)
              refine lv_iload_n hx hb dX2_told_110 rfl (lv_at hl 2 rfl) ?_
              refine lv_istore_n (lv' := [(3, .int x3), (5, .int 0), (4, .int x4), (0, .ref (b 0)), (1, .int s0), (2, .int ix)]) hx hb dX2_told_111 rfl hl (by decide) rfl (fun ls hl => ?_)
              obtain ⟨x112_14, e112_14⟩ : ∃ y : Int32, y = x4 + 1 := ⟨_, rfl⟩
              have v112_14 : (x112_14).toInt = ((((i + 1) + 1) : Nat) : Int) := by rw [e112_14]; exact (ti_add (a := (((i + 1) : Nat) : Int)) (b := 1) e4 rfl (by omega) (by omega)).trans (by omega)
              refine lv_iinc (v := x112_14) (lv' := [(4, .int x112_14), (3, .int x3), (5, .int 0), (0, .ref (b 0)), (1, .int s0), (2, .int ix)]) hx hb dX2_told_112 hl (k := 2) rfl (by rw [e112_14]; rfl) (by decide) rfl (fun ls hl => ?_)
              refine lv_goto (tgt := 25) hx hb dX2_told_115 (by decide) ?_
              have er : sN σ - i = (sN σ - (i + 1)) + 1 := by omega
              exact ih25 (i + 1) cn x112_14 x3 (by omega) (by omega) (by omega) v112_14 e3 (by rw [← hT, er]; exact (tdL_n (by omega)).symm) _ _ hP hD hS ls (lv_sub hl [0, 1, 3, 4, 5] rfl)
            · have c52_11 : ¬ ((oP (sO σ i)).toInt = 0) := mt (ti_eq (x := ((uV μ) (i + 1))) (y := 0) (a := (oP (sO σ i)).toInt) (b := 0) (congrArg Int32.toInt hmo1.2.2.2.2.2.2.2.1) rfl).mpr c52_11
              refine lv_aload_n hx hb dX2_told_55 rfl (lv_at hl 2 rfl) ?_
              refine va_get (D := G.1) (ci := 3) (v := .ref (b 1)) (own := RX2) (C := RX2) (T := TX2) (N := 17) hx hb hts hiX2 hown hK.1 hP 0 rfl rfl 2 (by decide) lf7 (fun _ h9 => h9) rfl dX2_told_56 ?_
              refine lv_iload hx hb dX2_told_59 (lv_at hl 0 rfl) ?_
              refine my_iald hx hb hK hP 1 rfl (i + 1) e4 (by omega) dX2_told_61 ?_
              refine lv_iconst (v := 3) hx hb dX2_told_62 (by decide) ?_
              refine lv_icmp_ge (tgt := 83) hx hb dX2_told_63 (by decide) (fun c63_15 => ?_) (fun c63_15 => ?_)
              · have c63_15 : 3 ≤ (oK (sO σ i)).toInt := (ti_le (x := 3) (y := ((uK μ) (i + 1))) (a := 3) (b := (oK (sO σ i)).toInt) rfl (congrArg Int32.toInt hmo1.1)).mp c63_15
                refine lv_iconst (v := 0) hx hb dX2_told_83 (by decide) ?_
                refine lv_istore (lv' := [(5, .int 0), (4, .int x4), (3, .int x3), (0, .ref (b 0)), (1, .int s0), (2, .int ix)]) hx hb dX2_told_84 hl (by decide) rfl (fun ls hl => ?_)
                refine lv_iload hx hb dX2_told_86 (lv_at hl 0 rfl) ?_
                refine lv_if_eq (tgt := 99) hx hb dX2_told_88 (by decide) (fun _ => ?_) (fun c88_16 => absurd (by decide) c88_16)
                refine lv_iload hx hb dX2_told_99 (lv_at hl 0 rfl) ?_
                refine lv_if_eq (tgt := 110) hx hb dX2_told_101 (by decide) (fun _ => ?_) (fun c101_17 => absurd (by decide) c101_17)
                refine lv_iload_n hx hb dX2_told_110 rfl (lv_at hl 2 rfl) ?_
                refine lv_istore_n (lv' := [(3, .int x3), (5, .int 0), (4, .int x4), (0, .ref (b 0)), (1, .int s0), (2, .int ix)]) hx hb dX2_told_111 rfl hl (by decide) rfl (fun ls hl => ?_)
                obtain ⟨x112_18, e112_18⟩ : ∃ y : Int32, y = x4 + 1 := ⟨_, rfl⟩
                have v112_18 : (x112_18).toInt = ((((i + 1) + 1) : Nat) : Int) := by rw [e112_18]; exact (ti_add (a := (((i + 1) : Nat) : Int)) (b := 1) e4 rfl (by omega) (by omega)).trans (by omega)
                refine lv_iinc (v := x112_18) (lv' := [(4, .int x112_18), (3, .int x3), (5, .int 0), (0, .ref (b 0)), (1, .int s0), (2, .int ix)]) hx hb dX2_told_112 hl (k := 2) rfl (by rw [e112_18]; rfl) (by decide) rfl (fun ls hl => ?_)
                refine lv_goto (tgt := 25) hx hb dX2_told_115 (by decide) ?_
                have er : sN σ - i = (sN σ - (i + 1)) + 1 := by omega
                exact ih25 (i + 1) cn x112_18 x3 (by omega) (by omega) (by omega) v112_18 e3 (by rw [← hT, er]; exact (tdL_n (by omega)).symm) _ _ hP hD hS ls (lv_sub hl [0, 1, 3, 4, 5] rfl)
              · have c63_15 : ¬ (3 ≤ (oK (sO σ i)).toInt) := mt (ti_le (x := 3) (y := ((uK μ) (i + 1))) (a := 3) (b := (oK (sO σ i)).toInt) rfl (congrArg Int32.toInt hmo1.1)).mpr c63_15
                refine lv_aload_n hx hb dX2_told_66 rfl (lv_at hl 2 rfl) ?_
                refine lv_iload hx hb dX2_told_67 (lv_at hl 0 rfl) ?_
                refine lv_aload_n hx hb dX2_told_69 rfl (lv_at hl 2 rfl) ?_
                refine va_get (D := G.1) (ci := 3) (v := .long (sT σ)) (own := RX2) (C := RX2) (T := TX2) (N := 17) hx hb hts hiX2 hown hK.1 hP 0 rfl rfl 12 (by decide) lf62 (fun _ h9 => h9) rfl dX2_told_70 ?_
                refine rdV_i (b := b 0) (As := [.int x4, .long (sT σ)]) (rest := []) ⟨hx, hb, hml, hown, hts⟩ (c_X2_isForce l G b μ σ hI hM x4 (sT σ) i hi e4 (by omega)) cw92 hK hP 3 rfl rfl rfl rfl hl.1 rfl (Nat.le_of_ble_eq_true rfl) dX2_told_73 ⟨Nat.zero_le _, Nat.zero_le _⟩ (fun r73_19 w73_19 => ?_)
                have w73_19 : ((r73_19.toInt = 1 ∧ ((oF (sO σ i)).toInt ≤ (sT σ).toInt ∧ (sT σ).toInt ≤ (oU (sO σ i)).toInt ∧ (sT σ).toInt < (oX (sO σ i)).toInt)) ∨ (r73_19.toInt = 0 ∧ ¬ ((oF (sO σ i)).toInt ≤ (sT σ).toInt ∧ (sT σ).toInt ≤ (oU (sO σ i)).toInt ∧ (sT σ).toInt < (oX (sO σ i)).toInt))) := w73_19
                refine lv_if_eq (tgt := 83) hx hb dX2_told_76 (by decide) (fun c76_20 => ?_) (fun c76_20 => ?_)
                · have c76_20 : (r73_19).toInt = 0 := (ti_eq (x := r73_19) (y := 0) (a := (r73_19).toInt) (b := 0) rfl rfl).mp c76_20
                  refine lv_iconst (v := 0) hx hb dX2_told_83 (by decide) ?_
                  refine lv_istore (lv' := [(5, .int 0), (4, .int x4), (3, .int x3), (0, .ref (b 0)), (1, .int s0), (2, .int ix)]) hx hb dX2_told_84 hl (by decide) rfl (fun ls hl => ?_)
                  refine lv_iload hx hb dX2_told_86 (lv_at hl 0 rfl) ?_
                  refine lv_if_eq (tgt := 99) hx hb dX2_told_88 (by decide) (fun _ => ?_) (fun c88_21 => absurd (by decide) c88_21)
                  refine lv_iload hx hb dX2_told_99 (lv_at hl 0 rfl) ?_
                  refine lv_if_eq (tgt := 110) hx hb dX2_told_101 (by decide) (fun _ => ?_) (fun c101_22 => absurd (by decide) c101_22)
                  refine lv_iload_n hx hb dX2_told_110 rfl (lv_at hl 2 rfl) ?_
                  refine lv_istore_n (lv' := [(3, .int x3), (5, .int 0), (4, .int x4), (0, .ref (b 0)), (1, .int s0), (2, .int ix)]) hx hb dX2_told_111 rfl hl (by decide) rfl (fun ls hl => ?_)
                  obtain ⟨x112_23, e112_23⟩ : ∃ y : Int32, y = x4 + 1 := ⟨_, rfl⟩
                  have v112_23 : (x112_23).toInt = ((((i + 1) + 1) : Nat) : Int) := by rw [e112_23]; exact (ti_add (a := (((i + 1) : Nat) : Int)) (b := 1) e4 rfl (by omega) (by omega)).trans (by omega)
                  refine lv_iinc (v := x112_23) (lv' := [(4, .int x112_23), (3, .int x3), (5, .int 0), (0, .ref (b 0)), (1, .int s0), (2, .int ix)]) hx hb dX2_told_112 hl (k := 2) rfl (by rw [e112_23]; rfl) (by decide) rfl (fun ls hl => ?_)
                  refine lv_goto (tgt := 25) hx hb dX2_told_115 (by decide) ?_
                  have er : sN σ - i = (sN σ - (i + 1)) + 1 := by omega
                  exact ih25 (i + 1) cn x112_23 x3 (by omega) (by omega) (by omega) v112_23 e3 (by rw [← hT, er]; exact (tdL_n (by omega)).symm) _ _ hP hD hS ls (lv_sub hl [0, 1, 3, 4, 5] rfl)
                · have c76_20 : ¬ ((r73_19).toInt = 0) := mt (ti_eq (x := r73_19) (y := 0) (a := (r73_19).toInt) (b := 0) rfl rfl).mpr c76_20
                  refine lv_iconst (v := 1) hx hb dX2_told_79 (by decide) ?_
                  refine lv_goto (tgt := 84) hx hb dX2_told_80 (by decide) ?_
                  refine lv_istore (lv' := [(5, .int 1), (4, .int x4), (3, .int x3), (0, .ref (b 0)), (1, .int s0), (2, .int ix)]) hx hb dX2_told_84 hl (by decide) rfl (fun ls hl => ?_)
                  refine lv_iload hx hb dX2_told_86 (lv_at hl 0 rfl) ?_
                  refine lv_if_eq (tgt := 99) hx hb dX2_told_88 (by decide) (fun c88_24 => absurd c88_24 (by decide)) (fun _ => ?_)
                  refine lv_iload_n hx hb dX2_told_91 rfl (lv_at hl 2 rfl) ?_
                  refine lv_iload_n hx hb dX2_told_92 rfl (lv_at hl 5 rfl) ?_
                  refine lv_icmp_ne (tgt := 99) hx hb dX2_told_93 (by decide) (fun c93_25 => ?_) (fun c93_25 => ?_)
                  · have c93_25 : ¬ (((cn : Nat) : Int) = (ix).toInt) := mt (ti_eq (x := x3) (y := ix) (a := ((cn : Nat) : Int)) (b := (ix).toInt) e3 rfl).mpr c93_25
                    refine lv_iload hx hb dX2_told_99 (lv_at hl 0 rfl) ?_
                    refine lv_if_eq (tgt := 110) hx hb dX2_told_101 (by decide) (fun c101_26 => absurd c101_26 (by decide)) (fun _ => ?_)
                    refine lv_iload_n hx hb dX2_told_104 rfl (lv_at hl 2 rfl) ?_
                    refine lv_iconst (v := 1) hx hb dX2_told_105 (by decide) ?_
                    refine lv_iadd hx hb dX2_told_106 ?_
                    refine lv_topi (fun y106_27 e106_27 => ?_)
                    have v106_27 : (y106_27).toInt = (((cn + 1) : Nat) : Int) := by rw [e106_27]; exact (ti_add (a := ((cn : Nat) : Int)) (b := 1) e3 rfl (by omega) (by omega)).trans (by omega)
                    refine lv_goto (tgt := 111) hx hb dX2_told_107 (by decide) ?_
                    refine lv_istore_n (lv' := [(3, .int y106_27), (5, .int 1), (4, .int x4), (0, .ref (b 0)), (1, .int s0), (2, .int ix)]) hx hb dX2_told_111 rfl hl (by decide) rfl (fun ls hl => ?_)
                    obtain ⟨x112_28, e112_28⟩ : ∃ y : Int32, y = x4 + 1 := ⟨_, rfl⟩
                    have v112_28 : (x112_28).toInt = ((((i + 1) + 1) : Nat) : Int) := by rw [e112_28]; exact (ti_add (a := (((i + 1) : Nat) : Int)) (b := 1) e4 rfl (by omega) (by omega)).trans (by omega)
                    refine lv_iinc (v := x112_28) (lv' := [(4, .int x112_28), (3, .int y106_27), (5, .int 1), (0, .ref (b 0)), (1, .int s0), (2, .int ix)]) hx hb dX2_told_112 hl (k := 2) rfl (by rw [e112_28]; rfl) (by decide) rfl (fun ls hl => ?_)
                    refine lv_goto (tgt := 25) hx hb dX2_told_115 (by decide) ?_
                    have er : sN σ - i = (sN σ - (i + 1)) + 1 := by omega
                    exact ih25 (i + 1) (cn + 1) x112_28 y106_27 (by omega) (by omega) (by omega) v112_28 v106_27 (by rw [← hT, er]; exact (tdL_m (by omega) (by omega)).symm) _ _ hP hD hS ls (lv_sub hl [0, 1, 3, 4, 5] rfl)
                  · have c93_25 : ((cn : Nat) : Int) = (ix).toInt := (ti_eq (x := x3) (y := ix) (a := ((cn : Nat) : Int)) (b := (ix).toInt) e3 rfl).mp c93_25
                    refine lv_iload hx hb dX2_told_96 (lv_at hl 1 rfl) ?_
                    have er : sN σ - i = (sN σ - (i + 1)) + 1 := by omega
                    rw [er] at hT
                    exact hret _ _ _ _ _ _ _ () dX2_told_98 (Or.inr (Or.inr rfl)) ((nI_ofI e4).trans (((if_neg (show ¬ ¬ (0 ≤ s0.toInt ∧ s0.toInt ≤ 49) by omega)).trans (hT.symm.trans (tdL_y (by omega) (by omega)))).symm)) hP hD hS (Nat.le_refl _) (Nat.le_refl _)
    exact loop25 (sN σ + 1) 0 0 1 0 (by omega) (Nat.zero_le _) (Nat.le_refl _) rfl rfl rfl _ _ hP hD hS ls (lv_sub hl [0, 1, 2, 3, 4] rfl)
  · have c14_5 : (r11_1).toInt = 0 := (ti_eq (x := r11_1) (y := 0) (a := (r11_1).toInt) (b := 0) rfl rfl).mp c14_5
    refine lv_bipush (v := (-101)) hx hb dX2_told_17 (by decide) ?_
    exact hret _ _ _ _ _ _ _ () dX2_told_19 (Or.inr (Or.inr rfl)) (if_pos (by omega)).symm hP hD hS (Nat.le_refl _) (Nat.le_refl _)

set_option maxHeartbeats 4000000 in
set_option maxRecDepth 100000 in
/-- find -/
theorem c_X2_find (l : Launch) (G : GG) (b : Nat → Nat) (μ : MP) (σ : St) (hI : SI σ) (hM : MI μ σ) (ad wh kd : Int32) (dy : Int64) (hdy : (dy).toInt ≤ 20000) : RdI l yX2_find wsX2_find (rmX 2 90 0 0) G [.ref (b 0), .int ad, .int wh, .int kd, .long dy] (WM G b μ σ) (fun r => r.toInt = ((oN (bst σ ad.toInt wh.toInt kd.toInt dy.toInt (sN σ)) : Nat) : Int)) := by
  refine rd_of_i (cc := cX2_find) (maxL := 9) (t := .int) (by decide +kernel) rfl (Nat.le_of_ble_eq_true rfl) nar_int ?_
  intro p e s m args below meth c Q hx hb hml hown hts hP hK hret ls hl
  have hown : s.vm.findClass RX2 = some m.cls := hown
  have hl : lv_has ls 9 [(0, .ref (b 0)), (1, .int ad), (2, .int wh), (3, .int kd), (4, .long dy)] := hl
  have hP : va_P G.1 vwCl (MW G b 0 (nI (sN σ)) (uK μ) (uE μ) (uP μ) (uT μ) (uF μ) (uU μ) (uM μ) (uV μ) (uX μ) (sR σ) (sT σ) (uW μ) (nI (sG σ).length) (uG μ)) s.heap := hP
  obtain ⟨hI1, hI2, hI3, hI4, hI5⟩ := id hI
  have hiX2 := (show ∀ w ∈ u_ws RX2 TX2 17, w ∈ wsX2_find by decide +kernel)
  have lf55 := hts (.fieldLink RX2 55 "OrderRows2Model" "orders" "I") (by decide +kernel)
  have lf13 := hts (.fieldLink RX2 13 "OrderRows2Model" "entries" "[I") (by decide +kernel)
  have lf16 := hts (.fieldLink RX2 16 "OrderRows2Model" "persons" "[I") (by decide +kernel)
  have lf7 := hts (.fieldLink RX2 7 "OrderRows2Model" "kinds" "[I") (by decide +kernel)
  have cw92 := cwV (R := (rmX 2 90 0 0)) (s := s) (args := args) (rm := (rmX 1 60 0 0)) (mc := 0) (ms := 0) 2 hts gX2_find_X2_isForce rfl rfl rfl (by decide +kernel) ⟨Nat.le_of_ble_eq_true rfl, Nat.le_of_ble_eq_true rfl⟩
  have lf39 := hts (.fieldLink RX2 39 "OrderRows2Model" "ranks" "[I") (by decide +kernel)
  refine lv_iconst (v := 0) hx hb dX2_find_0 (by decide) ?_
  refine lv_istore (lv' := [(6, .int 0), (0, .ref (b 0)), (1, .int ad), (2, .int wh), (3, .int kd), (4, .long dy)]) hx hb dX2_find_1 hl (by decide) rfl (fun ls hl => ?_)
  refine lv_aload_n hx hb dX2_find_3 rfl (lv_at hl 1 rfl) ?_
  refine va_get (D := G.1) (ci := 3) (v := .int (nI (sN σ))) (own := RX2) (C := RX2) (T := TX2) (N := 17) hx hb hts hiX2 hown hK.1 hP 0 rfl rfl 1 (by decide) lf55 (fun _ h9 => h9) rfl dX2_find_4 ?_
  refine lv_istore (lv' := [(7, .int (nI (sN σ))), (6, .int 0), (0, .ref (b 0)), (1, .int ad), (2, .int wh), (3, .int kd), (4, .long dy)]) hx hb dX2_find_7 hl (by decide) rfl (fun ls hl => ?_)
  have loop9 : ∀ (fu : Nat) (jj : Nat) (x : Option Nat) (x7 x6 : Int32), jj < fu → jj ≤ sN σ → x7.toInt = ((jj : Nat) : Int) → x6.toInt = ((oN x : Nat) : Int) → IsB σ ad.toInt wh.toInt kd.toInt dy.toInt jj (sN σ) x → ∀ ls : Array Slot, lv_has ls 9 [(7, .int x7), (6, .int x6), (0, .ref (b 0)), (1, .int ad), (2, .int wh), (3, .int kd), (4, .long dy)] → W p l e (rmX 2 90 0 0) s m args below meth c s.heap [] 0 0 Q (F0 m 9 ls []) := by
    intro fu
    induction fu with
    | zero =>
      intro jj x x7 x6 hfu hjj e7 e6 hB
      exact absurd hfu (by omega)
    | succ fu ih9 =>
      intro jj x x7 x6 hfu hjj e7 e6 hB ls hl
      refine lv_iload hx hb dX2_find_9 (lv_at hl 0 rfl) ?_
      refine lv_if_le (tgt := 129) hx hb dX2_find_11 (by decide) (fun c11_1 => ?_) (fun c11_1 => ?_)
      · have c11_1 : ((jj : Nat) : Int) ≤ 0 := (ti_le (x := x7) (y := 0) (a := ((jj : Nat) : Int)) (b := 0) e7 rfl).mp c11_1
        refine lv_iload hx hb dX2_find_129 (lv_at hl 1 rfl) ?_
        obtain rfl : jj = 0 := by omega
        exact hret _ _ _ dX2_find_131 (Or.inr (Or.inr rfl)) (by rw [← IsB_uniq hB (bst_isB (sN σ))]; exact e6)
      · have c11_1 : ¬ (((jj : Nat) : Int) ≤ 0) := mt (ti_le (x := x7) (y := 0) (a := ((jj : Nat) : Int)) (b := 0) e7 rfl).mpr c11_1
        obtain ⟨i, rfl⟩ : ∃ i, jj = i + 1 := ⟨jj - 1, by omega⟩
        have hi : i < sN σ := by omega
        have hmo1 := hM.1 i hi
        have hxi1 : ((oX (sO σ i)).toInt = 20001 ∧ ((uX μ) (i + 1)).toInt = -1) ∨ ((oX (sO σ i)).toInt ≠ 20001 ∧ ((uX μ) (i + 1)).toInt = (oX (sO σ i)).toInt) := XI_i hmo1.2.2.2.2.2.2.2.2
        have hoi1 := hI4 i hi
        unfold OI at hoi1
        cases x with
        | none =>
          have e6 : x6.toInt = 0 := e6
          refine lv_aload_n hx hb dX2_find_14 rfl (lv_at hl 2 rfl) ?_
          refine va_get (D := G.1) (ci := 3) (v := .ref (b 2)) (own := RX2) (C := RX2) (T := TX2) (N := 17) hx hb hts hiX2 hown hK.1 hP 0 rfl rfl 3 (by decide) lf13 (fun _ h9 => h9) rfl dX2_find_15 ?_
          refine lv_iload hx hb dX2_find_18 (lv_at hl 0 rfl) ?_
          refine my_iald hx hb hK hP 2 rfl (i + 1) e7 (by omega) dX2_find_20 ?_
          refine lv_iload_n hx hb dX2_find_21 rfl (lv_at hl 3 rfl) ?_
          refine lv_icmp_ne (tgt := 74) hx hb dX2_find_22 (by decide) (fun c22_2 => ?_) (fun c22_2 => ?_)
          · have c22_2 : ¬ ((oE (sO σ i)).toInt = (ad).toInt) := mt (ti_eq (x := ((uE μ) (i + 1))) (y := ad) (a := (oE (sO σ i)).toInt) (b := (ad).toInt) (congrArg Int32.toInt hmo1.2.1) rfl).mpr c22_2
            refine lv_iconst (v := 0) hx hb dX2_find_74 (by decide) ?_
            refine lv_istore (lv' := [(8, .int 0), (7, .int x7), (6, .int x6), (0, .ref (b 0)), (1, .int ad), (2, .int wh), (3, .int kd), (4, .long dy)]) hx hb dX2_find_75 hl (by decide) rfl (fun ls hl => ?_)
            refine lv_iload hx hb dX2_find_77 (lv_at hl 0 rfl) ?_
            refine lv_if_eq (tgt := 119) hx hb dX2_find_79 (by decide) (fun _ => ?_) (fun c79_3 => absurd (by decide) c79_3)
            refine lv_iload hx hb dX2_find_119 (lv_at hl 2 rfl) ?_
            refine lv_istore (lv' := [(6, .int x6), (8, .int 0), (7, .int x7), (0, .ref (b 0)), (1, .int ad), (2, .int wh), (3, .int kd), (4, .long dy)]) hx hb dX2_find_121 hl (by decide) rfl (fun ls hl => ?_)
            obtain ⟨x123_4, e123_4⟩ : ∃ y : Int32, y = x7 + (-1) := ⟨_, rfl⟩
            have v123_4 : (x123_4).toInt = ((((i + 1) : Nat) : Int) + (-1)) := by rw [e123_4]; exact ti_add (a := (((i + 1) : Nat) : Int)) (b := -1) e7 rfl (by omega) (by omega)
            refine lv_iinc (v := x123_4) (lv' := [(7, .int x123_4), (6, .int x6), (8, .int 0), (0, .ref (b 0)), (1, .int ad), (2, .int wh), (3, .int kd), (4, .long dy)]) hx hb dX2_find_123 hl (k := 2) rfl (by rw [e123_4]; rfl) (by decide) rfl (fun ls hl => ?_)
            refine lv_goto (tgt := 9) hx hb dX2_find_126 (by decide) ?_
            have hB2 : IsB σ ad.toInt wh.toInt kd.toInt dy.toInt i (sN σ) none := IsB_no hB (by omega)
            exact ih9 i none x123_4 x6 (by omega) (by omega) (v123_4.trans (by omega)) e6 hB2 ls (lv_sub hl [0, 1, 3, 4, 5, 6, 7] rfl)
          · have c22_2 : (oE (sO σ i)).toInt = (ad).toInt := (ti_eq (x := ((uE μ) (i + 1))) (y := ad) (a := (oE (sO σ i)).toInt) (b := (ad).toInt) (congrArg Int32.toInt hmo1.2.1) rfl).mp c22_2
            refine lv_aload_n hx hb dX2_find_25 rfl (lv_at hl 2 rfl) ?_
            refine va_get (D := G.1) (ci := 3) (v := .ref (b 3)) (own := RX2) (C := RX2) (T := TX2) (N := 17) hx hb hts hiX2 hown hK.1 hP 0 rfl rfl 4 (by decide) lf16 (fun _ h9 => h9) rfl dX2_find_26 ?_
            refine lv_iload hx hb dX2_find_29 (lv_at hl 0 rfl) ?_
            refine my_iald hx hb hK hP 3 rfl (i + 1) e7 (by omega) dX2_find_31 ?_
            refine lv_if_lt (tgt := 46) hx hb dX2_find_32 (by decide) (fun c32_5 => ?_) (fun c32_5 => ?_)
            · have c32_5 : (oW (sO σ i)).toInt < 0 := (ti_lt (x := ((uP μ) (i + 1))) (y := 0) (a := (oW (sO σ i)).toInt) (b := 0) (congrArg Int32.toInt hmo1.2.2.1) rfl).mp c32_5
              refine lv_aload_n hx hb dX2_find_46 rfl (lv_at hl 2 rfl) ?_
              refine va_get (D := G.1) (ci := 3) (v := .ref (b 1)) (own := RX2) (C := RX2) (T := TX2) (N := 17) hx hb hts hiX2 hown hK.1 hP 0 rfl rfl 2 (by decide) lf7 (fun _ h9 => h9) rfl dX2_find_47 ?_
              refine lv_iload hx hb dX2_find_50 (lv_at hl 0 rfl) ?_
              refine my_iald hx hb hK hP 1 rfl (i + 1) e7 (by omega) dX2_find_52 ?_
              refine lv_iconst (v := 3) hx hb dX2_find_53 (by decide) ?_
              refine lv_irem hx hb dX2_find_54 (by decide) ?_
              refine lv_topi (fun y54_6 e54_6 => ?_)
              have v54_6 : (y54_6).toInt = ((oK (sO σ i)).toInt % 3) := by rw [e54_6]; exact ti_rem3 (congrArg Int32.toInt hmo1.1) (by omega)
              refine lv_iload_n hx hb dX2_find_55 rfl (lv_at hl 5 rfl) ?_
              refine lv_icmp_ne (tgt := 74) hx hb dX2_find_56 (by decide) (fun c56_7 => ?_) (fun c56_7 => ?_)
              · have c56_7 : ¬ (((oK (sO σ i)).toInt % 3) = (kd).toInt) := mt (ti_eq (x := y54_6) (y := kd) (a := ((oK (sO σ i)).toInt % 3)) (b := (kd).toInt) v54_6 rfl).mpr c56_7
                refine lv_iconst (v := 0) hx hb dX2_find_74 (by decide) ?_
                refine lv_istore (lv' := [(8, .int 0), (7, .int x7), (6, .int x6), (0, .ref (b 0)), (1, .int ad), (2, .int wh), (3, .int kd), (4, .long dy)]) hx hb dX2_find_75 hl (by decide) rfl (fun ls hl => ?_)
                refine lv_iload hx hb dX2_find_77 (lv_at hl 0 rfl) ?_
                refine lv_if_eq (tgt := 119) hx hb dX2_find_79 (by decide) (fun _ => ?_) (fun c79_8 => absurd (by decide) c79_8)
                refine lv_iload hx hb dX2_find_119 (lv_at hl 2 rfl) ?_
                refine lv_istore (lv' := [(6, .int x6), (8, .int 0), (7, .int x7), (0, .ref (b 0)), (1, .int ad), (2, .int wh), (3, .int kd), (4, .long dy)]) hx hb dX2_find_121 hl (by decide) rfl (fun ls hl => ?_)
                obtain ⟨x123_9, e123_9⟩ : ∃ y : Int32, y = x7 + (-1) := ⟨_, rfl⟩
                have v123_9 : (x123_9).toInt = ((((i + 1) : Nat) : Int) + (-1)) := by rw [e123_9]; exact ti_add (a := (((i + 1) : Nat) : Int)) (b := -1) e7 rfl (by omega) (by omega)
                refine lv_iinc (v := x123_9) (lv' := [(7, .int x123_9), (6, .int x6), (8, .int 0), (0, .ref (b 0)), (1, .int ad), (2, .int wh), (3, .int kd), (4, .long dy)]) hx hb dX2_find_123 hl (k := 2) rfl (by rw [e123_9]; rfl) (by decide) rfl (fun ls hl => ?_)
                refine lv_goto (tgt := 9) hx hb dX2_find_126 (by decide) ?_
                have hB2 : IsB σ ad.toInt wh.toInt kd.toInt dy.toInt i (sN σ) none := IsB_no hB (by omega)
                exact ih9 i none x123_9 x6 (by omega) (by omega) (v123_9.trans (by omega)) e6 hB2 ls (lv_sub hl [0, 1, 3, 4, 5, 6, 7] rfl)
              · have c56_7 : ((oK (sO σ i)).toInt % 3) = (kd).toInt := (ti_eq (x := y54_6) (y := kd) (a := ((oK (sO σ i)).toInt % 3)) (b := (kd).toInt) v54_6 rfl).mp c56_7
                refine lv_aload_n hx hb dX2_find_59 rfl (lv_at hl 2 rfl) ?_
                refine lv_iload hx hb dX2_find_60 (lv_at hl 0 rfl) ?_
                refine lv_lload hx hb dX2_find_62 (lv_at hl 6 rfl) ?_
                refine rdV_i (b := b 0) (As := [.int x7, .long dy]) (rest := []) ⟨hx, hb, hml, hown, hts⟩ (c_X2_isForce l G b μ σ hI hM x7 dy i hi e7 (by omega)) cw92 hK hP 3 rfl rfl rfl rfl hl.1 rfl (Nat.le_of_ble_eq_true rfl) dX2_find_64 ⟨Nat.zero_le _, Nat.zero_le _⟩ (fun r64_10 w64_10 => ?_)
                have w64_10 : ((r64_10.toInt = 1 ∧ ((oF (sO σ i)).toInt ≤ dy.toInt ∧ dy.toInt ≤ (oU (sO σ i)).toInt ∧ dy.toInt < (oX (sO σ i)).toInt)) ∨ (r64_10.toInt = 0 ∧ ¬ ((oF (sO σ i)).toInt ≤ dy.toInt ∧ dy.toInt ≤ (oU (sO σ i)).toInt ∧ dy.toInt < (oX (sO σ i)).toInt))) := w64_10
                refine lv_if_eq (tgt := 74) hx hb dX2_find_67 (by decide) (fun c67_11 => ?_) (fun c67_11 => ?_)
                · have c67_11 : (r64_10).toInt = 0 := (ti_eq (x := r64_10) (y := 0) (a := (r64_10).toInt) (b := 0) rfl rfl).mp c67_11
                  refine lv_iconst (v := 0) hx hb dX2_find_74 (by decide) ?_
                  refine lv_istore (lv' := [(8, .int 0), (7, .int x7), (6, .int x6), (0, .ref (b 0)), (1, .int ad), (2, .int wh), (3, .int kd), (4, .long dy)]) hx hb dX2_find_75 hl (by decide) rfl (fun ls hl => ?_)
                  refine lv_iload hx hb dX2_find_77 (lv_at hl 0 rfl) ?_
                  refine lv_if_eq (tgt := 119) hx hb dX2_find_79 (by decide) (fun _ => ?_) (fun c79_12 => absurd (by decide) c79_12)
                  refine lv_iload hx hb dX2_find_119 (lv_at hl 2 rfl) ?_
                  refine lv_istore (lv' := [(6, .int x6), (8, .int 0), (7, .int x7), (0, .ref (b 0)), (1, .int ad), (2, .int wh), (3, .int kd), (4, .long dy)]) hx hb dX2_find_121 hl (by decide) rfl (fun ls hl => ?_)
                  obtain ⟨x123_13, e123_13⟩ : ∃ y : Int32, y = x7 + (-1) := ⟨_, rfl⟩
                  have v123_13 : (x123_13).toInt = ((((i + 1) : Nat) : Int) + (-1)) := by rw [e123_13]; exact ti_add (a := (((i + 1) : Nat) : Int)) (b := -1) e7 rfl (by omega) (by omega)
                  refine lv_iinc (v := x123_13) (lv' := [(7, .int x123_13), (6, .int x6), (8, .int 0), (0, .ref (b 0)), (1, .int ad), (2, .int wh), (3, .int kd), (4, .long dy)]) hx hb dX2_find_123 hl (k := 2) rfl (by rw [e123_13]; rfl) (by decide) rfl (fun ls hl => ?_)
                  refine lv_goto (tgt := 9) hx hb dX2_find_126 (by decide) ?_
                  have hB2 : IsB σ ad.toInt wh.toInt kd.toInt dy.toInt i (sN σ) none := IsB_no hB (by omega)
                  exact ih9 i none x123_13 x6 (by omega) (by omega) (v123_13.trans (by omega)) e6 hB2 ls (lv_sub hl [0, 1, 3, 4, 5, 6, 7] rfl)
                · have c67_11 : ¬ ((r64_10).toInt = 0) := mt (ti_eq (x := r64_10) (y := 0) (a := (r64_10).toInt) (b := 0) rfl rfl).mpr c67_11
                  refine lv_iconst (v := 1) hx hb dX2_find_70 (by decide) ?_
                  refine lv_goto (tgt := 75) hx hb dX2_find_71 (by decide) ?_
                  refine lv_istore (lv' := [(8, .int 1), (7, .int x7), (6, .int x6), (0, .ref (b 0)), (1, .int ad), (2, .int wh), (3, .int kd), (4, .long dy)]) hx hb dX2_find_75 hl (by decide) rfl (fun ls hl => ?_)
                  refine lv_iload hx hb dX2_find_77 (lv_at hl 0 rfl) ?_
                  refine lv_if_eq (tgt := 119) hx hb dX2_find_79 (by decide) (fun c79_14 => absurd c79_14 (by decide)) (fun _ => ?_)
                  refine lv_iload hx hb dX2_find_82 (lv_at hl 2 rfl) ?_
                  refine lv_if_eq (tgt := 114) hx hb dX2_find_84 (by decide) (fun c84_15 => ?_) (fun c84_15 => ?_)
                  · have c84_15 : (0 : Int) = 0 := (ti_eq (x := x6) (y := 0) (a := (0 : Int)) (b := 0) e6 rfl).mp c84_15
                    refine lv_iload hx hb dX2_find_114 (lv_at hl 1 rfl) ?_
                    refine lv_goto (tgt := 121) hx hb dX2_find_116 (by decide) ?_
                    refine lv_istore (lv' := [(6, .int x7), (8, .int 1), (7, .int x7), (0, .ref (b 0)), (1, .int ad), (2, .int wh), (3, .int kd), (4, .long dy)]) hx hb dX2_find_121 hl (by decide) rfl (fun ls hl => ?_)
                    obtain ⟨x123_16, e123_16⟩ : ∃ y : Int32, y = x7 + (-1) := ⟨_, rfl⟩
                    have v123_16 : (x123_16).toInt = ((((i + 1) : Nat) : Int) + (-1)) := by rw [e123_16]; exact ti_add (a := (((i + 1) : Nat) : Int)) (b := -1) e7 rfl (by omega) (by omega)
                    refine lv_iinc (v := x123_16) (lv' := [(7, .int x123_16), (6, .int x7), (8, .int 1), (0, .ref (b 0)), (1, .int ad), (2, .int wh), (3, .int kd), (4, .long dy)]) hx hb dX2_find_123 hl (k := 2) rfl (by rw [e123_16]; rfl) (by decide) rfl (fun ls hl => ?_)
                    refine lv_goto (tgt := 9) hx hb dX2_find_126 (by decide) ?_
                    have hB2 : IsB σ ad.toInt wh.toInt kd.toInt dy.toInt i (sN σ) (some i) := IsB_first hB hi (by omega)
                    exact ih9 i (some i) x123_16 x7 (by omega) (by omega) (v123_16.trans (by omega)) e7 hB2 ls (lv_sub hl [0, 1, 3, 4, 5, 6, 7] rfl)
                  · have c84_15 : ¬ ((0 : Int) = 0) := mt (ti_eq (x := x6) (y := 0) (a := (0 : Int)) (b := 0) e6 rfl).mpr c84_15
                    exfalso; omega
            · have c32_5 : ¬ ((oW (sO σ i)).toInt < 0) := mt (ti_lt (x := ((uP μ) (i + 1))) (y := 0) (a := (oW (sO σ i)).toInt) (b := 0) (congrArg Int32.toInt hmo1.2.2.1) rfl).mpr c32_5
              refine lv_aload_n hx hb dX2_find_35 rfl (lv_at hl 2 rfl) ?_
              refine va_get (D := G.1) (ci := 3) (v := .ref (b 3)) (own := RX2) (C := RX2) (T := TX2) (N := 17) hx hb hts hiX2 hown hK.1 hP 0 rfl rfl 4 (by decide) lf16 (fun _ h9 => h9) rfl dX2_find_36 ?_
              refine lv_iload hx hb dX2_find_39 (lv_at hl 0 rfl) ?_
              refine my_iald hx hb hK hP 3 rfl (i + 1) e7 (by omega) dX2_find_41 ?_
              refine lv_iload_n hx hb dX2_find_42 rfl (lv_at hl 4 rfl) ?_
              refine lv_icmp_ne (tgt := 74) hx hb dX2_find_43 (by decide) (fun c43_17 => ?_) (fun c43_17 => ?_)
              · have c43_17 : ¬ ((oW (sO σ i)).toInt = (wh).toInt) := mt (ti_eq (x := ((uP μ) (i + 1))) (y := wh) (a := (oW (sO σ i)).toInt) (b := (wh).toInt) (congrArg Int32.toInt hmo1.2.2.1) rfl).mpr c43_17
                refine lv_iconst (v := 0) hx hb dX2_find_74 (by decide) ?_
                refine lv_istore (lv' := [(8, .int 0), (7, .int x7), (6, .int x6), (0, .ref (b 0)), (1, .int ad), (2, .int wh), (3, .int kd), (4, .long dy)]) hx hb dX2_find_75 hl (by decide) rfl (fun ls hl => ?_)
                refine lv_iload hx hb dX2_find_77 (lv_at hl 0 rfl) ?_
                refine lv_if_eq (tgt := 119) hx hb dX2_find_79 (by decide) (fun _ => ?_) (fun c79_18 => absurd (by decide) c79_18)
                refine lv_iload hx hb dX2_find_119 (lv_at hl 2 rfl) ?_
                refine lv_istore (lv' := [(6, .int x6), (8, .int 0), (7, .int x7), (0, .ref (b 0)), (1, .int ad), (2, .int wh), (3, .int kd), (4, .long dy)]) hx hb dX2_find_121 hl (by decide) rfl (fun ls hl => ?_)
                obtain ⟨x123_19, e123_19⟩ : ∃ y : Int32, y = x7 + (-1) := ⟨_, rfl⟩
                have v123_19 : (x123_19).toInt = ((((i + 1) : Nat) : Int) + (-1)) := by rw [e123_19]; exact ti_add (a := (((i + 1) : Nat) : Int)) (b := -1) e7 rfl (by omega) (by omega)
                refine lv_iinc (v := x123_19) (lv' := [(7, .int x123_19), (6, .int x6), (8, .int 0), (0, .ref (b 0)), (1, .int ad), (2, .int wh), (3, .int kd), (4, .long dy)]) hx hb dX2_find_123 hl (k := 2) rfl (by rw [e123_19]; rfl) (by decide) rfl (fun ls hl => ?_)
                refine lv_goto (tgt := 9) hx hb dX2_find_126 (by decide) ?_
                have hB2 : IsB σ ad.toInt wh.toInt kd.toInt dy.toInt i (sN σ) none := IsB_no hB (by omega)
                exact ih9 i none x123_19 x6 (by omega) (by omega) (v123_19.trans (by omega)) e6 hB2 ls (lv_sub hl [0, 1, 3, 4, 5, 6, 7] rfl)
              · have c43_17 : (oW (sO σ i)).toInt = (wh).toInt := (ti_eq (x := ((uP μ) (i + 1))) (y := wh) (a := (oW (sO σ i)).toInt) (b := (wh).toInt) (congrArg Int32.toInt hmo1.2.2.1) rfl).mp c43_17
                refine lv_aload_n hx hb dX2_find_46 rfl (lv_at hl 2 rfl) ?_
                refine va_get (D := G.1) (ci := 3) (v := .ref (b 1)) (own := RX2) (C := RX2) (T := TX2) (N := 17) hx hb hts hiX2 hown hK.1 hP 0 rfl rfl 2 (by decide) lf7 (fun _ h9 => h9) rfl dX2_find_47 ?_
                refine lv_iload hx hb dX2_find_50 (lv_at hl 0 rfl) ?_
                refine my_iald hx hb hK hP 1 rfl (i + 1) e7 (by omega) dX2_find_52 ?_
                refine lv_iconst (v := 3) hx hb dX2_find_53 (by decide) ?_
                refine lv_irem hx hb dX2_find_54 (by decide) ?_
                refine lv_topi (fun y54_20 e54_20 => ?_)
                have v54_20 : (y54_20).toInt = ((oK (sO σ i)).toInt % 3) := by rw [e54_20]; exact ti_rem3 (congrArg Int32.toInt hmo1.1) (by omega)
                refine lv_iload_n hx hb dX2_find_55 rfl (lv_at hl 5 rfl) ?_
                refine lv_icmp_ne (tgt := 74) hx hb dX2_find_56 (by decide) (fun c56_21 => ?_) (fun c56_21 => ?_)
                · have c56_21 : ¬ (((oK (sO σ i)).toInt % 3) = (kd).toInt) := mt (ti_eq (x := y54_20) (y := kd) (a := ((oK (sO σ i)).toInt % 3)) (b := (kd).toInt) v54_20 rfl).mpr c56_21
                  refine lv_iconst (v := 0) hx hb dX2_find_74 (by decide) ?_
                  refine lv_istore (lv' := [(8, .int 0), (7, .int x7), (6, .int x6), (0, .ref (b 0)), (1, .int ad), (2, .int wh), (3, .int kd), (4, .long dy)]) hx hb dX2_find_75 hl (by decide) rfl (fun ls hl => ?_)
                  refine lv_iload hx hb dX2_find_77 (lv_at hl 0 rfl) ?_
                  refine lv_if_eq (tgt := 119) hx hb dX2_find_79 (by decide) (fun _ => ?_) (fun c79_22 => absurd (by decide) c79_22)
                  refine lv_iload hx hb dX2_find_119 (lv_at hl 2 rfl) ?_
                  refine lv_istore (lv' := [(6, .int x6), (8, .int 0), (7, .int x7), (0, .ref (b 0)), (1, .int ad), (2, .int wh), (3, .int kd), (4, .long dy)]) hx hb dX2_find_121 hl (by decide) rfl (fun ls hl => ?_)
                  obtain ⟨x123_23, e123_23⟩ : ∃ y : Int32, y = x7 + (-1) := ⟨_, rfl⟩
                  have v123_23 : (x123_23).toInt = ((((i + 1) : Nat) : Int) + (-1)) := by rw [e123_23]; exact ti_add (a := (((i + 1) : Nat) : Int)) (b := -1) e7 rfl (by omega) (by omega)
                  refine lv_iinc (v := x123_23) (lv' := [(7, .int x123_23), (6, .int x6), (8, .int 0), (0, .ref (b 0)), (1, .int ad), (2, .int wh), (3, .int kd), (4, .long dy)]) hx hb dX2_find_123 hl (k := 2) rfl (by rw [e123_23]; rfl) (by decide) rfl (fun ls hl => ?_)
                  refine lv_goto (tgt := 9) hx hb dX2_find_126 (by decide) ?_
                  have hB2 : IsB σ ad.toInt wh.toInt kd.toInt dy.toInt i (sN σ) none := IsB_no hB (by omega)
                  exact ih9 i none x123_23 x6 (by omega) (by omega) (v123_23.trans (by omega)) e6 hB2 ls (lv_sub hl [0, 1, 3, 4, 5, 6, 7] rfl)
                · have c56_21 : ((oK (sO σ i)).toInt % 3) = (kd).toInt := (ti_eq (x := y54_20) (y := kd) (a := ((oK (sO σ i)).toInt % 3)) (b := (kd).toInt) v54_20 rfl).mp c56_21
                  refine lv_aload_n hx hb dX2_find_59 rfl (lv_at hl 2 rfl) ?_
                  refine lv_iload hx hb dX2_find_60 (lv_at hl 0 rfl) ?_
                  refine lv_lload hx hb dX2_find_62 (lv_at hl 6 rfl) ?_
                  refine rdV_i (b := b 0) (As := [.int x7, .long dy]) (rest := []) ⟨hx, hb, hml, hown, hts⟩ (c_X2_isForce l G b μ σ hI hM x7 dy i hi e7 (by omega)) cw92 hK hP 3 rfl rfl rfl rfl hl.1 rfl (Nat.le_of_ble_eq_true rfl) dX2_find_64 ⟨Nat.zero_le _, Nat.zero_le _⟩ (fun r64_24 w64_24 => ?_)
                  have w64_24 : ((r64_24.toInt = 1 ∧ ((oF (sO σ i)).toInt ≤ dy.toInt ∧ dy.toInt ≤ (oU (sO σ i)).toInt ∧ dy.toInt < (oX (sO σ i)).toInt)) ∨ (r64_24.toInt = 0 ∧ ¬ ((oF (sO σ i)).toInt ≤ dy.toInt ∧ dy.toInt ≤ (oU (sO σ i)).toInt ∧ dy.toInt < (oX (sO σ i)).toInt))) := w64_24
                  refine lv_if_eq (tgt := 74) hx hb dX2_find_67 (by decide) (fun c67_25 => ?_) (fun c67_25 => ?_)
                  · have c67_25 : (r64_24).toInt = 0 := (ti_eq (x := r64_24) (y := 0) (a := (r64_24).toInt) (b := 0) rfl rfl).mp c67_25
                    refine lv_iconst (v := 0) hx hb dX2_find_74 (by decide) ?_
                    refine lv_istore (lv' := [(8, .int 0), (7, .int x7), (6, .int x6), (0, .ref (b 0)), (1, .int ad), (2, .int wh), (3, .int kd), (4, .long dy)]) hx hb dX2_find_75 hl (by decide) rfl (fun ls hl => ?_)
                    refine lv_iload hx hb dX2_find_77 (lv_at hl 0 rfl) ?_
                    refine lv_if_eq (tgt := 119) hx hb dX2_find_79 (by decide) (fun _ => ?_) (fun c79_26 => absurd (by decide) c79_26)
                    refine lv_iload hx hb dX2_find_119 (lv_at hl 2 rfl) ?_
                    refine lv_istore (lv' := [(6, .int x6), (8, .int 0), (7, .int x7), (0, .ref (b 0)), (1, .int ad), (2, .int wh), (3, .int kd), (4, .long dy)]) hx hb dX2_find_121 hl (by decide) rfl (fun ls hl => ?_)
                    obtain ⟨x123_27, e123_27⟩ : ∃ y : Int32, y = x7 + (-1) := ⟨_, rfl⟩
                    have v123_27 : (x123_27).toInt = ((((i + 1) : Nat) : Int) + (-1)) := by rw [e123_27]; exact ti_add (a := (((i + 1) : Nat) : Int)) (b := -1) e7 rfl (by omega) (by omega)
                    refine lv_iinc (v := x123_27) (lv' := [(7, .int x123_27), (6, .int x6), (8, .int 0), (0, .ref (b 0)), (1, .int ad), (2, .int wh), (3, .int kd), (4, .long dy)]) hx hb dX2_find_123 hl (k := 2) rfl (by rw [e123_27]; rfl) (by decide) rfl (fun ls hl => ?_)
                    refine lv_goto (tgt := 9) hx hb dX2_find_126 (by decide) ?_
                    have hB2 : IsB σ ad.toInt wh.toInt kd.toInt dy.toInt i (sN σ) none := IsB_no hB (by omega)
                    exact ih9 i none x123_27 x6 (by omega) (by omega) (v123_27.trans (by omega)) e6 hB2 ls (lv_sub hl [0, 1, 3, 4, 5, 6, 7] rfl)
                  · have c67_25 : ¬ ((r64_24).toInt = 0) := mt (ti_eq (x := r64_24) (y := 0) (a := (r64_24).toInt) (b := 0) rfl rfl).mpr c67_25
                    refine lv_iconst (v := 1) hx hb dX2_find_70 (by decide) ?_
                    refine lv_goto (tgt := 75) hx hb dX2_find_71 (by decide) ?_
                    refine lv_istore (lv' := [(8, .int 1), (7, .int x7), (6, .int x6), (0, .ref (b 0)), (1, .int ad), (2, .int wh), (3, .int kd), (4, .long dy)]) hx hb dX2_find_75 hl (by decide) rfl (fun ls hl => ?_)
                    refine lv_iload hx hb dX2_find_77 (lv_at hl 0 rfl) ?_
                    refine lv_if_eq (tgt := 119) hx hb dX2_find_79 (by decide) (fun c79_28 => absurd c79_28 (by decide)) (fun _ => ?_)
                    refine lv_iload hx hb dX2_find_82 (lv_at hl 2 rfl) ?_
                    refine lv_if_eq (tgt := 114) hx hb dX2_find_84 (by decide) (fun c84_29 => ?_) (fun c84_29 => ?_)
                    · have c84_29 : (0 : Int) = 0 := (ti_eq (x := x6) (y := 0) (a := (0 : Int)) (b := 0) e6 rfl).mp c84_29
                      refine lv_iload hx hb dX2_find_114 (lv_at hl 1 rfl) ?_
                      refine lv_goto (tgt := 121) hx hb dX2_find_116 (by decide) ?_
                      refine lv_istore (lv' := [(6, .int x7), (8, .int 1), (7, .int x7), (0, .ref (b 0)), (1, .int ad), (2, .int wh), (3, .int kd), (4, .long dy)]) hx hb dX2_find_121 hl (by decide) rfl (fun ls hl => ?_)
                      obtain ⟨x123_30, e123_30⟩ : ∃ y : Int32, y = x7 + (-1) := ⟨_, rfl⟩
                      have v123_30 : (x123_30).toInt = ((((i + 1) : Nat) : Int) + (-1)) := by rw [e123_30]; exact ti_add (a := (((i + 1) : Nat) : Int)) (b := -1) e7 rfl (by omega) (by omega)
                      refine lv_iinc (v := x123_30) (lv' := [(7, .int x123_30), (6, .int x7), (8, .int 1), (0, .ref (b 0)), (1, .int ad), (2, .int wh), (3, .int kd), (4, .long dy)]) hx hb dX2_find_123 hl (k := 2) rfl (by rw [e123_30]; rfl) (by decide) rfl (fun ls hl => ?_)
                      refine lv_goto (tgt := 9) hx hb dX2_find_126 (by decide) ?_
                      have hB2 : IsB σ ad.toInt wh.toInt kd.toInt dy.toInt i (sN σ) (some i) := IsB_first hB hi (by omega)
                      exact ih9 i (some i) x123_30 x7 (by omega) (by omega) (v123_30.trans (by omega)) e7 hB2 ls (lv_sub hl [0, 1, 3, 4, 5, 6, 7] rfl)
                    · have c84_29 : ¬ ((0 : Int) = 0) := mt (ti_eq (x := x6) (y := 0) (a := (0 : Int)) (b := 0) e6 rfl).mpr c84_29
                      exfalso; omega
        | some b1 =>
          have e6 : x6.toInt = (((b1 + 1) : Nat) : Int) := e6
          have hbn : b1 < sN σ := hB.2.1
          have hmo2 := hM.1 b1 hbn
          have hxi2 : ((oX (sO σ b1)).toInt = 20001 ∧ ((uX μ) (b1 + 1)).toInt = -1) ∨ ((oX (sO σ b1)).toInt ≠ 20001 ∧ ((uX μ) (b1 + 1)).toInt = (oX (sO σ b1)).toInt) := XI_i hmo2.2.2.2.2.2.2.2.2
          have hoi2 := hI4 b1 hbn
          unfold OI at hoi2
          refine lv_aload_n hx hb dX2_find_14 rfl (lv_at hl 2 rfl) ?_
          refine va_get (D := G.1) (ci := 3) (v := .ref (b 2)) (own := RX2) (C := RX2) (T := TX2) (N := 17) hx hb hts hiX2 hown hK.1 hP 0 rfl rfl 3 (by decide) lf13 (fun _ h9 => h9) rfl dX2_find_15 ?_
          refine lv_iload hx hb dX2_find_18 (lv_at hl 0 rfl) ?_
          refine my_iald hx hb hK hP 2 rfl (i + 1) e7 (by omega) dX2_find_20 ?_
          refine lv_iload_n hx hb dX2_find_21 rfl (lv_at hl 3 rfl) ?_
          refine lv_icmp_ne (tgt := 74) hx hb dX2_find_22 (by decide) (fun c22_31 => ?_) (fun c22_31 => ?_)
          · have c22_31 : ¬ ((oE (sO σ i)).toInt = (ad).toInt) := mt (ti_eq (x := ((uE μ) (i + 1))) (y := ad) (a := (oE (sO σ i)).toInt) (b := (ad).toInt) (congrArg Int32.toInt hmo1.2.1) rfl).mpr c22_31
            refine lv_iconst (v := 0) hx hb dX2_find_74 (by decide) ?_
            refine lv_istore (lv' := [(8, .int 0), (7, .int x7), (6, .int x6), (0, .ref (b 0)), (1, .int ad), (2, .int wh), (3, .int kd), (4, .long dy)]) hx hb dX2_find_75 hl (by decide) rfl (fun ls hl => ?_)
            refine lv_iload hx hb dX2_find_77 (lv_at hl 0 rfl) ?_
            refine lv_if_eq (tgt := 119) hx hb dX2_find_79 (by decide) (fun _ => ?_) (fun c79_32 => absurd (by decide) c79_32)
            refine lv_iload hx hb dX2_find_119 (lv_at hl 2 rfl) ?_
            refine lv_istore (lv' := [(6, .int x6), (8, .int 0), (7, .int x7), (0, .ref (b 0)), (1, .int ad), (2, .int wh), (3, .int kd), (4, .long dy)]) hx hb dX2_find_121 hl (by decide) rfl (fun ls hl => ?_)
            obtain ⟨x123_33, e123_33⟩ : ∃ y : Int32, y = x7 + (-1) := ⟨_, rfl⟩
            have v123_33 : (x123_33).toInt = ((((i + 1) : Nat) : Int) + (-1)) := by rw [e123_33]; exact ti_add (a := (((i + 1) : Nat) : Int)) (b := -1) e7 rfl (by omega) (by omega)
            refine lv_iinc (v := x123_33) (lv' := [(7, .int x123_33), (6, .int x6), (8, .int 0), (0, .ref (b 0)), (1, .int ad), (2, .int wh), (3, .int kd), (4, .long dy)]) hx hb dX2_find_123 hl (k := 2) rfl (by rw [e123_33]; rfl) (by decide) rfl (fun ls hl => ?_)
            refine lv_goto (tgt := 9) hx hb dX2_find_126 (by decide) ?_
            have hB2 : IsB σ ad.toInt wh.toInt kd.toInt dy.toInt i (sN σ) (some b1) := by first | exact IsB_no hB (by omega) | exact IsB_keep hB (by show ¬ (sR σ (oK (sO σ b1)).toInt.toNat).toInt < (sR σ (oK (sO σ i)).toInt.toNat).toInt; omega)
            exact ih9 i (some b1) x123_33 x6 (by omega) (by omega) (v123_33.trans (by omega)) e6 hB2 ls (lv_sub hl [0, 1, 3, 4, 5, 6, 7] rfl)
          · have c22_31 : (oE (sO σ i)).toInt = (ad).toInt := (ti_eq (x := ((uE μ) (i + 1))) (y := ad) (a := (oE (sO σ i)).toInt) (b := (ad).toInt) (congrArg Int32.toInt hmo1.2.1) rfl).mp c22_31
            refine lv_aload_n hx hb dX2_find_25 rfl (lv_at hl 2 rfl) ?_
            refine va_get (D := G.1) (ci := 3) (v := .ref (b 3)) (own := RX2) (C := RX2) (T := TX2) (N := 17) hx hb hts hiX2 hown hK.1 hP 0 rfl rfl 4 (by decide) lf16 (fun _ h9 => h9) rfl dX2_find_26 ?_
            refine lv_iload hx hb dX2_find_29 (lv_at hl 0 rfl) ?_
            refine my_iald hx hb hK hP 3 rfl (i + 1) e7 (by omega) dX2_find_31 ?_
            refine lv_if_lt (tgt := 46) hx hb dX2_find_32 (by decide) (fun c32_34 => ?_) (fun c32_34 => ?_)
            · have c32_34 : (oW (sO σ i)).toInt < 0 := (ti_lt (x := ((uP μ) (i + 1))) (y := 0) (a := (oW (sO σ i)).toInt) (b := 0) (congrArg Int32.toInt hmo1.2.2.1) rfl).mp c32_34
              refine lv_aload_n hx hb dX2_find_46 rfl (lv_at hl 2 rfl) ?_
              refine va_get (D := G.1) (ci := 3) (v := .ref (b 1)) (own := RX2) (C := RX2) (T := TX2) (N := 17) hx hb hts hiX2 hown hK.1 hP 0 rfl rfl 2 (by decide) lf7 (fun _ h9 => h9) rfl dX2_find_47 ?_
              refine lv_iload hx hb dX2_find_50 (lv_at hl 0 rfl) ?_
              refine my_iald hx hb hK hP 1 rfl (i + 1) e7 (by omega) dX2_find_52 ?_
              refine lv_iconst (v := 3) hx hb dX2_find_53 (by decide) ?_
              refine lv_irem hx hb dX2_find_54 (by decide) ?_
              refine lv_topi (fun y54_35 e54_35 => ?_)
              have v54_35 : (y54_35).toInt = ((oK (sO σ i)).toInt % 3) := by rw [e54_35]; exact ti_rem3 (congrArg Int32.toInt hmo1.1) (by omega)
              refine lv_iload_n hx hb dX2_find_55 rfl (lv_at hl 5 rfl) ?_
              refine lv_icmp_ne (tgt := 74) hx hb dX2_find_56 (by decide) (fun c56_36 => ?_) (fun c56_36 => ?_)
              · have c56_36 : ¬ (((oK (sO σ i)).toInt % 3) = (kd).toInt) := mt (ti_eq (x := y54_35) (y := kd) (a := ((oK (sO σ i)).toInt % 3)) (b := (kd).toInt) v54_35 rfl).mpr c56_36
                refine lv_iconst (v := 0) hx hb dX2_find_74 (by decide) ?_
                refine lv_istore (lv' := [(8, .int 0), (7, .int x7), (6, .int x6), (0, .ref (b 0)), (1, .int ad), (2, .int wh), (3, .int kd), (4, .long dy)]) hx hb dX2_find_75 hl (by decide) rfl (fun ls hl => ?_)
                refine lv_iload hx hb dX2_find_77 (lv_at hl 0 rfl) ?_
                refine lv_if_eq (tgt := 119) hx hb dX2_find_79 (by decide) (fun _ => ?_) (fun c79_37 => absurd (by decide) c79_37)
                refine lv_iload hx hb dX2_find_119 (lv_at hl 2 rfl) ?_
                refine lv_istore (lv' := [(6, .int x6), (8, .int 0), (7, .int x7), (0, .ref (b 0)), (1, .int ad), (2, .int wh), (3, .int kd), (4, .long dy)]) hx hb dX2_find_121 hl (by decide) rfl (fun ls hl => ?_)
                obtain ⟨x123_38, e123_38⟩ : ∃ y : Int32, y = x7 + (-1) := ⟨_, rfl⟩
                have v123_38 : (x123_38).toInt = ((((i + 1) : Nat) : Int) + (-1)) := by rw [e123_38]; exact ti_add (a := (((i + 1) : Nat) : Int)) (b := -1) e7 rfl (by omega) (by omega)
                refine lv_iinc (v := x123_38) (lv' := [(7, .int x123_38), (6, .int x6), (8, .int 0), (0, .ref (b 0)), (1, .int ad), (2, .int wh), (3, .int kd), (4, .long dy)]) hx hb dX2_find_123 hl (k := 2) rfl (by rw [e123_38]; rfl) (by decide) rfl (fun ls hl => ?_)
                refine lv_goto (tgt := 9) hx hb dX2_find_126 (by decide) ?_
                have hB2 : IsB σ ad.toInt wh.toInt kd.toInt dy.toInt i (sN σ) (some b1) := by first | exact IsB_no hB (by omega) | exact IsB_keep hB (by show ¬ (sR σ (oK (sO σ b1)).toInt.toNat).toInt < (sR σ (oK (sO σ i)).toInt.toNat).toInt; omega)
                exact ih9 i (some b1) x123_38 x6 (by omega) (by omega) (v123_38.trans (by omega)) e6 hB2 ls (lv_sub hl [0, 1, 3, 4, 5, 6, 7] rfl)
              · have c56_36 : ((oK (sO σ i)).toInt % 3) = (kd).toInt := (ti_eq (x := y54_35) (y := kd) (a := ((oK (sO σ i)).toInt % 3)) (b := (kd).toInt) v54_35 rfl).mp c56_36
                refine lv_aload_n hx hb dX2_find_59 rfl (lv_at hl 2 rfl) ?_
                refine lv_iload hx hb dX2_find_60 (lv_at hl 0 rfl) ?_
                refine lv_lload hx hb dX2_find_62 (lv_at hl 6 rfl) ?_
                refine rdV_i (b := b 0) (As := [.int x7, .long dy]) (rest := []) ⟨hx, hb, hml, hown, hts⟩ (c_X2_isForce l G b μ σ hI hM x7 dy i hi e7 (by omega)) cw92 hK hP 3 rfl rfl rfl rfl hl.1 rfl (Nat.le_of_ble_eq_true rfl) dX2_find_64 ⟨Nat.zero_le _, Nat.zero_le _⟩ (fun r64_39 w64_39 => ?_)
                have w64_39 : ((r64_39.toInt = 1 ∧ ((oF (sO σ i)).toInt ≤ dy.toInt ∧ dy.toInt ≤ (oU (sO σ i)).toInt ∧ dy.toInt < (oX (sO σ i)).toInt)) ∨ (r64_39.toInt = 0 ∧ ¬ ((oF (sO σ i)).toInt ≤ dy.toInt ∧ dy.toInt ≤ (oU (sO σ i)).toInt ∧ dy.toInt < (oX (sO σ i)).toInt))) := w64_39
                refine lv_if_eq (tgt := 74) hx hb dX2_find_67 (by decide) (fun c67_40 => ?_) (fun c67_40 => ?_)
                · have c67_40 : (r64_39).toInt = 0 := (ti_eq (x := r64_39) (y := 0) (a := (r64_39).toInt) (b := 0) rfl rfl).mp c67_40
                  refine lv_iconst (v := 0) hx hb dX2_find_74 (by decide) ?_
                  refine lv_istore (lv' := [(8, .int 0), (7, .int x7), (6, .int x6), (0, .ref (b 0)), (1, .int ad), (2, .int wh), (3, .int kd), (4, .long dy)]) hx hb dX2_find_75 hl (by decide) rfl (fun ls hl => ?_)
                  refine lv_iload hx hb dX2_find_77 (lv_at hl 0 rfl) ?_
                  refine lv_if_eq (tgt := 119) hx hb dX2_find_79 (by decide) (fun _ => ?_) (fun c79_41 => absurd (by decide) c79_41)
                  refine lv_iload hx hb dX2_find_119 (lv_at hl 2 rfl) ?_
                  refine lv_istore (lv' := [(6, .int x6), (8, .int 0), (7, .int x7), (0, .ref (b 0)), (1, .int ad), (2, .int wh), (3, .int kd), (4, .long dy)]) hx hb dX2_find_121 hl (by decide) rfl (fun ls hl => ?_)
                  obtain ⟨x123_42, e123_42⟩ : ∃ y : Int32, y = x7 + (-1) := ⟨_, rfl⟩
                  have v123_42 : (x123_42).toInt = ((((i + 1) : Nat) : Int) + (-1)) := by rw [e123_42]; exact ti_add (a := (((i + 1) : Nat) : Int)) (b := -1) e7 rfl (by omega) (by omega)
                  refine lv_iinc (v := x123_42) (lv' := [(7, .int x123_42), (6, .int x6), (8, .int 0), (0, .ref (b 0)), (1, .int ad), (2, .int wh), (3, .int kd), (4, .long dy)]) hx hb dX2_find_123 hl (k := 2) rfl (by rw [e123_42]; rfl) (by decide) rfl (fun ls hl => ?_)
                  refine lv_goto (tgt := 9) hx hb dX2_find_126 (by decide) ?_
                  have hB2 : IsB σ ad.toInt wh.toInt kd.toInt dy.toInt i (sN σ) (some b1) := by first | exact IsB_no hB (by omega) | exact IsB_keep hB (by show ¬ (sR σ (oK (sO σ b1)).toInt.toNat).toInt < (sR σ (oK (sO σ i)).toInt.toNat).toInt; omega)
                  exact ih9 i (some b1) x123_42 x6 (by omega) (by omega) (v123_42.trans (by omega)) e6 hB2 ls (lv_sub hl [0, 1, 3, 4, 5, 6, 7] rfl)
                · have c67_40 : ¬ ((r64_39).toInt = 0) := mt (ti_eq (x := r64_39) (y := 0) (a := (r64_39).toInt) (b := 0) rfl rfl).mpr c67_40
                  refine lv_iconst (v := 1) hx hb dX2_find_70 (by decide) ?_
                  refine lv_goto (tgt := 75) hx hb dX2_find_71 (by decide) ?_
                  refine lv_istore (lv' := [(8, .int 1), (7, .int x7), (6, .int x6), (0, .ref (b 0)), (1, .int ad), (2, .int wh), (3, .int kd), (4, .long dy)]) hx hb dX2_find_75 hl (by decide) rfl (fun ls hl => ?_)
                  refine lv_iload hx hb dX2_find_77 (lv_at hl 0 rfl) ?_
                  refine lv_if_eq (tgt := 119) hx hb dX2_find_79 (by decide) (fun c79_43 => absurd c79_43 (by decide)) (fun _ => ?_)
                  refine lv_iload hx hb dX2_find_82 (lv_at hl 2 rfl) ?_
                  refine lv_if_eq (tgt := 114) hx hb dX2_find_84 (by decide) (fun c84_44 => ?_) (fun c84_44 => ?_)
                  · have c84_44 : (((b1 + 1) : Nat) : Int) = 0 := (ti_eq (x := x6) (y := 0) (a := (((b1 + 1) : Nat) : Int)) (b := 0) e6 rfl).mp c84_44
                    exfalso; omega
                  · have c84_44 : ¬ ((((b1 + 1) : Nat) : Int) = 0) := mt (ti_eq (x := x6) (y := 0) (a := (((b1 + 1) : Nat) : Int)) (b := 0) e6 rfl).mpr c84_44
                    refine lv_aload_n hx hb dX2_find_87 rfl (lv_at hl 3 rfl) ?_
                    refine va_get (D := G.1) (ci := 3) (v := .ref (b 10)) (own := RX2) (C := RX2) (T := TX2) (N := 17) hx hb hts hiX2 hown hK.1 hP 0 rfl rfl 11 (by decide) lf39 (fun _ h9 => h9) rfl dX2_find_88 ?_
                    refine lv_aload_n hx hb dX2_find_91 rfl (lv_at hl 3 rfl) ?_
                    refine va_get (D := G.1) (ci := 3) (v := .ref (b 1)) (own := RX2) (C := RX2) (T := TX2) (N := 17) hx hb hts hiX2 hown hK.1 hP 0 rfl rfl 2 (by decide) lf7 (fun _ h9 => h9) rfl dX2_find_92 ?_
                    refine lv_iload hx hb dX2_find_95 (lv_at hl 1 rfl) ?_
                    refine my_iald hx hb hK hP 1 rfl (i + 1) e7 (by omega) dX2_find_97 ?_
                    refine my_iald hx hb hK hP 10 rfl (((oK (sO σ i)).toInt).toNat) ((congrArg Int32.toInt hmo1.1).trans (by omega)) (by omega) dX2_find_98 ?_
                    refine lv_aload_n hx hb dX2_find_99 rfl (lv_at hl 3 rfl) ?_
                    refine va_get (D := G.1) (ci := 3) (v := .ref (b 10)) (own := RX2) (C := RX2) (T := TX2) (N := 17) hx hb hts hiX2 hown hK.1 hP 0 rfl rfl 11 (by decide) lf39 (fun _ h9 => h9) rfl dX2_find_100 ?_
                    refine lv_aload_n hx hb dX2_find_103 rfl (lv_at hl 3 rfl) ?_
                    refine va_get (D := G.1) (ci := 3) (v := .ref (b 1)) (own := RX2) (C := RX2) (T := TX2) (N := 17) hx hb hts hiX2 hown hK.1 hP 0 rfl rfl 2 (by decide) lf7 (fun _ h9 => h9) rfl dX2_find_104 ?_
                    refine lv_iload hx hb dX2_find_107 (lv_at hl 2 rfl) ?_
                    refine my_iald hx hb hK hP 1 rfl (b1 + 1) e6 (by omega) dX2_find_109 ?_
                    refine my_iald hx hb hK hP 10 rfl (((oK (sO σ b1)).toInt).toNat) ((congrArg Int32.toInt hmo2.1).trans (by omega)) (by omega) dX2_find_110 ?_
                    refine lv_icmp_le (tgt := 119) hx hb dX2_find_111 (by decide) (fun c111_45 => ?_) (fun c111_45 => ?_)
                    · have c111_45 : (((sR σ) (((oK (sO σ i)).toInt).toNat))).toInt ≤ (((sR σ) (((oK (sO σ b1)).toInt).toNat))).toInt := (ti_le (x := ((sR σ) (((oK (sO σ i)).toInt).toNat))) (y := ((sR σ) (((oK (sO σ b1)).toInt).toNat))) (a := (((sR σ) (((oK (sO σ i)).toInt).toNat))).toInt) (b := (((sR σ) (((oK (sO σ b1)).toInt).toNat))).toInt) rfl rfl).mp c111_45
                      refine lv_iload hx hb dX2_find_119 (lv_at hl 2 rfl) ?_
                      refine lv_istore (lv' := [(6, .int x6), (8, .int 1), (7, .int x7), (0, .ref (b 0)), (1, .int ad), (2, .int wh), (3, .int kd), (4, .long dy)]) hx hb dX2_find_121 hl (by decide) rfl (fun ls hl => ?_)
                      obtain ⟨x123_46, e123_46⟩ : ∃ y : Int32, y = x7 + (-1) := ⟨_, rfl⟩
                      have v123_46 : (x123_46).toInt = ((((i + 1) : Nat) : Int) + (-1)) := by rw [e123_46]; exact ti_add (a := (((i + 1) : Nat) : Int)) (b := -1) e7 rfl (by omega) (by omega)
                      refine lv_iinc (v := x123_46) (lv' := [(7, .int x123_46), (6, .int x6), (8, .int 1), (0, .ref (b 0)), (1, .int ad), (2, .int wh), (3, .int kd), (4, .long dy)]) hx hb dX2_find_123 hl (k := 2) rfl (by rw [e123_46]; rfl) (by decide) rfl (fun ls hl => ?_)
                      refine lv_goto (tgt := 9) hx hb dX2_find_126 (by decide) ?_
                      have hB2 : IsB σ ad.toInt wh.toInt kd.toInt dy.toInt i (sN σ) (some b1) := by first | exact IsB_no hB (by omega) | exact IsB_keep hB (by show ¬ (sR σ (oK (sO σ b1)).toInt.toNat).toInt < (sR σ (oK (sO σ i)).toInt.toNat).toInt; omega)
                      exact ih9 i (some b1) x123_46 x6 (by omega) (by omega) (v123_46.trans (by omega)) e6 hB2 ls (lv_sub hl [0, 1, 3, 4, 5, 6, 7] rfl)
                    · have c111_45 : ¬ ((((sR σ) (((oK (sO σ i)).toInt).toNat))).toInt ≤ (((sR σ) (((oK (sO σ b1)).toInt).toNat))).toInt) := mt (ti_le (x := ((sR σ) (((oK (sO σ i)).toInt).toNat))) (y := ((sR σ) (((oK (sO σ b1)).toInt).toNat))) (a := (((sR σ) (((oK (sO σ i)).toInt).toNat))).toInt) (b := (((sR σ) (((oK (sO σ b1)).toInt).toNat))).toInt) rfl rfl).mpr c111_45
                      refine lv_iload hx hb dX2_find_114 (lv_at hl 1 rfl) ?_
                      refine lv_goto (tgt := 121) hx hb dX2_find_116 (by decide) ?_
                      refine lv_istore (lv' := [(6, .int x7), (8, .int 1), (7, .int x7), (0, .ref (b 0)), (1, .int ad), (2, .int wh), (3, .int kd), (4, .long dy)]) hx hb dX2_find_121 hl (by decide) rfl (fun ls hl => ?_)
                      obtain ⟨x123_47, e123_47⟩ : ∃ y : Int32, y = x7 + (-1) := ⟨_, rfl⟩
                      have v123_47 : (x123_47).toInt = ((((i + 1) : Nat) : Int) + (-1)) := by rw [e123_47]; exact ti_add (a := (((i + 1) : Nat) : Int)) (b := -1) e7 rfl (by omega) (by omega)
                      refine lv_iinc (v := x123_47) (lv' := [(7, .int x123_47), (6, .int x7), (8, .int 1), (0, .ref (b 0)), (1, .int ad), (2, .int wh), (3, .int kd), (4, .long dy)]) hx hb dX2_find_123 hl (k := 2) rfl (by rw [e123_47]; rfl) (by decide) rfl (fun ls hl => ?_)
                      refine lv_goto (tgt := 9) hx hb dX2_find_126 (by decide) ?_
                      have hB2 : IsB σ ad.toInt wh.toInt kd.toInt dy.toInt i (sN σ) (some i) := IsB_rep hB hi (by omega) (by show (sR σ (oK (sO σ b1)).toInt.toNat).toInt < (sR σ (oK (sO σ i)).toInt.toNat).toInt; omega)
                      exact ih9 i (some i) x123_47 x7 (by omega) (by omega) (v123_47.trans (by omega)) e7 hB2 ls (lv_sub hl [0, 1, 3, 4, 5, 6, 7] rfl)
            · have c32_34 : ¬ ((oW (sO σ i)).toInt < 0) := mt (ti_lt (x := ((uP μ) (i + 1))) (y := 0) (a := (oW (sO σ i)).toInt) (b := 0) (congrArg Int32.toInt hmo1.2.2.1) rfl).mpr c32_34
              refine lv_aload_n hx hb dX2_find_35 rfl (lv_at hl 2 rfl) ?_
              refine va_get (D := G.1) (ci := 3) (v := .ref (b 3)) (own := RX2) (C := RX2) (T := TX2) (N := 17) hx hb hts hiX2 hown hK.1 hP 0 rfl rfl 4 (by decide) lf16 (fun _ h9 => h9) rfl dX2_find_36 ?_
              refine lv_iload hx hb dX2_find_39 (lv_at hl 0 rfl) ?_
              refine my_iald hx hb hK hP 3 rfl (i + 1) e7 (by omega) dX2_find_41 ?_
              refine lv_iload_n hx hb dX2_find_42 rfl (lv_at hl 4 rfl) ?_
              refine lv_icmp_ne (tgt := 74) hx hb dX2_find_43 (by decide) (fun c43_48 => ?_) (fun c43_48 => ?_)
              · have c43_48 : ¬ ((oW (sO σ i)).toInt = (wh).toInt) := mt (ti_eq (x := ((uP μ) (i + 1))) (y := wh) (a := (oW (sO σ i)).toInt) (b := (wh).toInt) (congrArg Int32.toInt hmo1.2.2.1) rfl).mpr c43_48
                refine lv_iconst (v := 0) hx hb dX2_find_74 (by decide) ?_
                refine lv_istore (lv' := [(8, .int 0), (7, .int x7), (6, .int x6), (0, .ref (b 0)), (1, .int ad), (2, .int wh), (3, .int kd), (4, .long dy)]) hx hb dX2_find_75 hl (by decide) rfl (fun ls hl => ?_)
                refine lv_iload hx hb dX2_find_77 (lv_at hl 0 rfl) ?_
                refine lv_if_eq (tgt := 119) hx hb dX2_find_79 (by decide) (fun _ => ?_) (fun c79_49 => absurd (by decide) c79_49)
                refine lv_iload hx hb dX2_find_119 (lv_at hl 2 rfl) ?_
                refine lv_istore (lv' := [(6, .int x6), (8, .int 0), (7, .int x7), (0, .ref (b 0)), (1, .int ad), (2, .int wh), (3, .int kd), (4, .long dy)]) hx hb dX2_find_121 hl (by decide) rfl (fun ls hl => ?_)
                obtain ⟨x123_50, e123_50⟩ : ∃ y : Int32, y = x7 + (-1) := ⟨_, rfl⟩
                have v123_50 : (x123_50).toInt = ((((i + 1) : Nat) : Int) + (-1)) := by rw [e123_50]; exact ti_add (a := (((i + 1) : Nat) : Int)) (b := -1) e7 rfl (by omega) (by omega)
                refine lv_iinc (v := x123_50) (lv' := [(7, .int x123_50), (6, .int x6), (8, .int 0), (0, .ref (b 0)), (1, .int ad), (2, .int wh), (3, .int kd), (4, .long dy)]) hx hb dX2_find_123 hl (k := 2) rfl (by rw [e123_50]; rfl) (by decide) rfl (fun ls hl => ?_)
                refine lv_goto (tgt := 9) hx hb dX2_find_126 (by decide) ?_
                have hB2 : IsB σ ad.toInt wh.toInt kd.toInt dy.toInt i (sN σ) (some b1) := by first | exact IsB_no hB (by omega) | exact IsB_keep hB (by show ¬ (sR σ (oK (sO σ b1)).toInt.toNat).toInt < (sR σ (oK (sO σ i)).toInt.toNat).toInt; omega)
                exact ih9 i (some b1) x123_50 x6 (by omega) (by omega) (v123_50.trans (by omega)) e6 hB2 ls (lv_sub hl [0, 1, 3, 4, 5, 6, 7] rfl)
              · have c43_48 : (oW (sO σ i)).toInt = (wh).toInt := (ti_eq (x := ((uP μ) (i + 1))) (y := wh) (a := (oW (sO σ i)).toInt) (b := (wh).toInt) (congrArg Int32.toInt hmo1.2.2.1) rfl).mp c43_48
                refine lv_aload_n hx hb dX2_find_46 rfl (lv_at hl 2 rfl) ?_
                refine va_get (D := G.1) (ci := 3) (v := .ref (b 1)) (own := RX2) (C := RX2) (T := TX2) (N := 17) hx hb hts hiX2 hown hK.1 hP 0 rfl rfl 2 (by decide) lf7 (fun _ h9 => h9) rfl dX2_find_47 ?_
                refine lv_iload hx hb dX2_find_50 (lv_at hl 0 rfl) ?_
                refine my_iald hx hb hK hP 1 rfl (i + 1) e7 (by omega) dX2_find_52 ?_
                refine lv_iconst (v := 3) hx hb dX2_find_53 (by decide) ?_
                refine lv_irem hx hb dX2_find_54 (by decide) ?_
                refine lv_topi (fun y54_51 e54_51 => ?_)
                have v54_51 : (y54_51).toInt = ((oK (sO σ i)).toInt % 3) := by rw [e54_51]; exact ti_rem3 (congrArg Int32.toInt hmo1.1) (by omega)
                refine lv_iload_n hx hb dX2_find_55 rfl (lv_at hl 5 rfl) ?_
                refine lv_icmp_ne (tgt := 74) hx hb dX2_find_56 (by decide) (fun c56_52 => ?_) (fun c56_52 => ?_)
                · have c56_52 : ¬ (((oK (sO σ i)).toInt % 3) = (kd).toInt) := mt (ti_eq (x := y54_51) (y := kd) (a := ((oK (sO σ i)).toInt % 3)) (b := (kd).toInt) v54_51 rfl).mpr c56_52
                  refine lv_iconst (v := 0) hx hb dX2_find_74 (by decide) ?_
                  refine lv_istore (lv' := [(8, .int 0), (7, .int x7), (6, .int x6), (0, .ref (b 0)), (1, .int ad), (2, .int wh), (3, .int kd), (4, .long dy)]) hx hb dX2_find_75 hl (by decide) rfl (fun ls hl => ?_)
                  refine lv_iload hx hb dX2_find_77 (lv_at hl 0 rfl) ?_
                  refine lv_if_eq (tgt := 119) hx hb dX2_find_79 (by decide) (fun _ => ?_) (fun c79_53 => absurd (by decide) c79_53)
                  refine lv_iload hx hb dX2_find_119 (lv_at hl 2 rfl) ?_
                  refine lv_istore (lv' := [(6, .int x6), (8, .int 0), (7, .int x7), (0, .ref (b 0)), (1, .int ad), (2, .int wh), (3, .int kd), (4, .long dy)]) hx hb dX2_find_121 hl (by decide) rfl (fun ls hl => ?_)
                  obtain ⟨x123_54, e123_54⟩ : ∃ y : Int32, y = x7 + (-1) := ⟨_, rfl⟩
                  have v123_54 : (x123_54).toInt = ((((i + 1) : Nat) : Int) + (-1)) := by rw [e123_54]; exact ti_add (a := (((i + 1) : Nat) : Int)) (b := -1) e7 rfl (by omega) (by omega)
                  refine lv_iinc (v := x123_54) (lv' := [(7, .int x123_54), (6, .int x6), (8, .int 0), (0, .ref (b 0)), (1, .int ad), (2, .int wh), (3, .int kd), (4, .long dy)]) hx hb dX2_find_123 hl (k := 2) rfl (by rw [e123_54]; rfl) (by decide) rfl (fun ls hl => ?_)
                  refine lv_goto (tgt := 9) hx hb dX2_find_126 (by decide) ?_
                  have hB2 : IsB σ ad.toInt wh.toInt kd.toInt dy.toInt i (sN σ) (some b1) := by first | exact IsB_no hB (by omega) | exact IsB_keep hB (by show ¬ (sR σ (oK (sO σ b1)).toInt.toNat).toInt < (sR σ (oK (sO σ i)).toInt.toNat).toInt; omega)
                  exact ih9 i (some b1) x123_54 x6 (by omega) (by omega) (v123_54.trans (by omega)) e6 hB2 ls (lv_sub hl [0, 1, 3, 4, 5, 6, 7] rfl)
                · have c56_52 : ((oK (sO σ i)).toInt % 3) = (kd).toInt := (ti_eq (x := y54_51) (y := kd) (a := ((oK (sO σ i)).toInt % 3)) (b := (kd).toInt) v54_51 rfl).mp c56_52
                  refine lv_aload_n hx hb dX2_find_59 rfl (lv_at hl 2 rfl) ?_
                  refine lv_iload hx hb dX2_find_60 (lv_at hl 0 rfl) ?_
                  refine lv_lload hx hb dX2_find_62 (lv_at hl 6 rfl) ?_
                  refine rdV_i (b := b 0) (As := [.int x7, .long dy]) (rest := []) ⟨hx, hb, hml, hown, hts⟩ (c_X2_isForce l G b μ σ hI hM x7 dy i hi e7 (by omega)) cw92 hK hP 3 rfl rfl rfl rfl hl.1 rfl (Nat.le_of_ble_eq_true rfl) dX2_find_64 ⟨Nat.zero_le _, Nat.zero_le _⟩ (fun r64_55 w64_55 => ?_)
                  have w64_55 : ((r64_55.toInt = 1 ∧ ((oF (sO σ i)).toInt ≤ dy.toInt ∧ dy.toInt ≤ (oU (sO σ i)).toInt ∧ dy.toInt < (oX (sO σ i)).toInt)) ∨ (r64_55.toInt = 0 ∧ ¬ ((oF (sO σ i)).toInt ≤ dy.toInt ∧ dy.toInt ≤ (oU (sO σ i)).toInt ∧ dy.toInt < (oX (sO σ i)).toInt))) := w64_55
                  refine lv_if_eq (tgt := 74) hx hb dX2_find_67 (by decide) (fun c67_56 => ?_) (fun c67_56 => ?_)
                  · have c67_56 : (r64_55).toInt = 0 := (ti_eq (x := r64_55) (y := 0) (a := (r64_55).toInt) (b := 0) rfl rfl).mp c67_56
                    refine lv_iconst (v := 0) hx hb dX2_find_74 (by decide) ?_
                    refine lv_istore (lv' := [(8, .int 0), (7, .int x7), (6, .int x6), (0, .ref (b 0)), (1, .int ad), (2, .int wh), (3, .int kd), (4, .long dy)]) hx hb dX2_find_75 hl (by decide) rfl (fun ls hl => ?_)
                    refine lv_iload hx hb dX2_find_77 (lv_at hl 0 rfl) ?_
                    refine lv_if_eq (tgt := 119) hx hb dX2_find_79 (by decide) (fun _ => ?_) (fun c79_57 => absurd (by decide) c79_57)
                    refine lv_iload hx hb dX2_find_119 (lv_at hl 2 rfl) ?_
                    refine lv_istore (lv' := [(6, .int x6), (8, .int 0), (7, .int x7), (0, .ref (b 0)), (1, .int ad), (2, .int wh), (3, .int kd), (4, .long dy)]) hx hb dX2_find_121 hl (by decide) rfl (fun ls hl => ?_)
                    obtain ⟨x123_58, e123_58⟩ : ∃ y : Int32, y = x7 + (-1) := ⟨_, rfl⟩
                    have v123_58 : (x123_58).toInt = ((((i + 1) : Nat) : Int) + (-1)) := by rw [e123_58]; exact ti_add (a := (((i + 1) : Nat) : Int)) (b := -1) e7 rfl (by omega) (by omega)
                    refine lv_iinc (v := x123_58) (lv' := [(7, .int x123_58), (6, .int x6), (8, .int 0), (0, .ref (b 0)), (1, .int ad), (2, .int wh), (3, .int kd), (4, .long dy)]) hx hb dX2_find_123 hl (k := 2) rfl (by rw [e123_58]; rfl) (by decide) rfl (fun ls hl => ?_)
                    refine lv_goto (tgt := 9) hx hb dX2_find_126 (by decide) ?_
                    have hB2 : IsB σ ad.toInt wh.toInt kd.toInt dy.toInt i (sN σ) (some b1) := by first | exact IsB_no hB (by omega) | exact IsB_keep hB (by show ¬ (sR σ (oK (sO σ b1)).toInt.toNat).toInt < (sR σ (oK (sO σ i)).toInt.toNat).toInt; omega)
                    exact ih9 i (some b1) x123_58 x6 (by omega) (by omega) (v123_58.trans (by omega)) e6 hB2 ls (lv_sub hl [0, 1, 3, 4, 5, 6, 7] rfl)
                  · have c67_56 : ¬ ((r64_55).toInt = 0) := mt (ti_eq (x := r64_55) (y := 0) (a := (r64_55).toInt) (b := 0) rfl rfl).mpr c67_56
                    refine lv_iconst (v := 1) hx hb dX2_find_70 (by decide) ?_
                    refine lv_goto (tgt := 75) hx hb dX2_find_71 (by decide) ?_
                    refine lv_istore (lv' := [(8, .int 1), (7, .int x7), (6, .int x6), (0, .ref (b 0)), (1, .int ad), (2, .int wh), (3, .int kd), (4, .long dy)]) hx hb dX2_find_75 hl (by decide) rfl (fun ls hl => ?_)
                    refine lv_iload hx hb dX2_find_77 (lv_at hl 0 rfl) ?_
                    refine lv_if_eq (tgt := 119) hx hb dX2_find_79 (by decide) (fun c79_59 => absurd c79_59 (by decide)) (fun _ => ?_)
                    refine lv_iload hx hb dX2_find_82 (lv_at hl 2 rfl) ?_
                    refine lv_if_eq (tgt := 114) hx hb dX2_find_84 (by decide) (fun c84_60 => ?_) (fun c84_60 => ?_)
                    · have c84_60 : (((b1 + 1) : Nat) : Int) = 0 := (ti_eq (x := x6) (y := 0) (a := (((b1 + 1) : Nat) : Int)) (b := 0) e6 rfl).mp c84_60
                      exfalso; omega
                    · have c84_60 : ¬ ((((b1 + 1) : Nat) : Int) = 0) := mt (ti_eq (x := x6) (y := 0) (a := (((b1 + 1) : Nat) : Int)) (b := 0) e6 rfl).mpr c84_60
                      refine lv_aload_n hx hb dX2_find_87 rfl (lv_at hl 3 rfl) ?_
                      refine va_get (D := G.1) (ci := 3) (v := .ref (b 10)) (own := RX2) (C := RX2) (T := TX2) (N := 17) hx hb hts hiX2 hown hK.1 hP 0 rfl rfl 11 (by decide) lf39 (fun _ h9 => h9) rfl dX2_find_88 ?_
                      refine lv_aload_n hx hb dX2_find_91 rfl (lv_at hl 3 rfl) ?_
                      refine va_get (D := G.1) (ci := 3) (v := .ref (b 1)) (own := RX2) (C := RX2) (T := TX2) (N := 17) hx hb hts hiX2 hown hK.1 hP 0 rfl rfl 2 (by decide) lf7 (fun _ h9 => h9) rfl dX2_find_92 ?_
                      refine lv_iload hx hb dX2_find_95 (lv_at hl 1 rfl) ?_
                      refine my_iald hx hb hK hP 1 rfl (i + 1) e7 (by omega) dX2_find_97 ?_
                      refine my_iald hx hb hK hP 10 rfl (((oK (sO σ i)).toInt).toNat) ((congrArg Int32.toInt hmo1.1).trans (by omega)) (by omega) dX2_find_98 ?_
                      refine lv_aload_n hx hb dX2_find_99 rfl (lv_at hl 3 rfl) ?_
                      refine va_get (D := G.1) (ci := 3) (v := .ref (b 10)) (own := RX2) (C := RX2) (T := TX2) (N := 17) hx hb hts hiX2 hown hK.1 hP 0 rfl rfl 11 (by decide) lf39 (fun _ h9 => h9) rfl dX2_find_100 ?_
                      refine lv_aload_n hx hb dX2_find_103 rfl (lv_at hl 3 rfl) ?_
                      refine va_get (D := G.1) (ci := 3) (v := .ref (b 1)) (own := RX2) (C := RX2) (T := TX2) (N := 17) hx hb hts hiX2 hown hK.1 hP 0 rfl rfl 2 (by decide) lf7 (fun _ h9 => h9) rfl dX2_find_104 ?_
                      refine lv_iload hx hb dX2_find_107 (lv_at hl 2 rfl) ?_
                      refine my_iald hx hb hK hP 1 rfl (b1 + 1) e6 (by omega) dX2_find_109 ?_
                      refine my_iald hx hb hK hP 10 rfl (((oK (sO σ b1)).toInt).toNat) ((congrArg Int32.toInt hmo2.1).trans (by omega)) (by omega) dX2_find_110 ?_
                      refine lv_icmp_le (tgt := 119) hx hb dX2_find_111 (by decide) (fun c111_61 => ?_) (fun c111_61 => ?_)
                      · have c111_61 : (((sR σ) (((oK (sO σ i)).toInt).toNat))).toInt ≤ (((sR σ) (((oK (sO σ b1)).toInt).toNat))).toInt := (ti_le (x := ((sR σ) (((oK (sO σ i)).toInt).toNat))) (y := ((sR σ) (((oK (sO σ b1)).toInt).toNat))) (a := (((sR σ) (((oK (sO σ i)).toInt).toNat))).toInt) (b := (((sR σ) (((oK (sO σ b1)).toInt).toNat))).toInt) rfl rfl).mp c111_61
                        refine lv_iload hx hb dX2_find_119 (lv_at hl 2 rfl) ?_
                        refine lv_istore (lv' := [(6, .int x6), (8, .int 1), (7, .int x7), (0, .ref (b 0)), (1, .int ad), (2, .int wh), (3, .int kd), (4, .long dy)]) hx hb dX2_find_121 hl (by decide) rfl (fun ls hl => ?_)
                        obtain ⟨x123_62, e123_62⟩ : ∃ y : Int32, y = x7 + (-1) := ⟨_, rfl⟩
                        have v123_62 : (x123_62).toInt = ((((i + 1) : Nat) : Int) + (-1)) := by rw [e123_62]; exact ti_add (a := (((i + 1) : Nat) : Int)) (b := -1) e7 rfl (by omega) (by omega)
                        refine lv_iinc (v := x123_62) (lv' := [(7, .int x123_62), (6, .int x6), (8, .int 1), (0, .ref (b 0)), (1, .int ad), (2, .int wh), (3, .int kd), (4, .long dy)]) hx hb dX2_find_123 hl (k := 2) rfl (by rw [e123_62]; rfl) (by decide) rfl (fun ls hl => ?_)
                        refine lv_goto (tgt := 9) hx hb dX2_find_126 (by decide) ?_
                        have hB2 : IsB σ ad.toInt wh.toInt kd.toInt dy.toInt i (sN σ) (some b1) := by first | exact IsB_no hB (by omega) | exact IsB_keep hB (by show ¬ (sR σ (oK (sO σ b1)).toInt.toNat).toInt < (sR σ (oK (sO σ i)).toInt.toNat).toInt; omega)
                        exact ih9 i (some b1) x123_62 x6 (by omega) (by omega) (v123_62.trans (by omega)) e6 hB2 ls (lv_sub hl [0, 1, 3, 4, 5, 6, 7] rfl)
                      · have c111_61 : ¬ ((((sR σ) (((oK (sO σ i)).toInt).toNat))).toInt ≤ (((sR σ) (((oK (sO σ b1)).toInt).toNat))).toInt) := mt (ti_le (x := ((sR σ) (((oK (sO σ i)).toInt).toNat))) (y := ((sR σ) (((oK (sO σ b1)).toInt).toNat))) (a := (((sR σ) (((oK (sO σ i)).toInt).toNat))).toInt) (b := (((sR σ) (((oK (sO σ b1)).toInt).toNat))).toInt) rfl rfl).mpr c111_61
                        refine lv_iload hx hb dX2_find_114 (lv_at hl 1 rfl) ?_
                        refine lv_goto (tgt := 121) hx hb dX2_find_116 (by decide) ?_
                        refine lv_istore (lv' := [(6, .int x7), (8, .int 1), (7, .int x7), (0, .ref (b 0)), (1, .int ad), (2, .int wh), (3, .int kd), (4, .long dy)]) hx hb dX2_find_121 hl (by decide) rfl (fun ls hl => ?_)
                        obtain ⟨x123_63, e123_63⟩ : ∃ y : Int32, y = x7 + (-1) := ⟨_, rfl⟩
                        have v123_63 : (x123_63).toInt = ((((i + 1) : Nat) : Int) + (-1)) := by rw [e123_63]; exact ti_add (a := (((i + 1) : Nat) : Int)) (b := -1) e7 rfl (by omega) (by omega)
                        refine lv_iinc (v := x123_63) (lv' := [(7, .int x123_63), (6, .int x7), (8, .int 1), (0, .ref (b 0)), (1, .int ad), (2, .int wh), (3, .int kd), (4, .long dy)]) hx hb dX2_find_123 hl (k := 2) rfl (by rw [e123_63]; rfl) (by decide) rfl (fun ls hl => ?_)
                        refine lv_goto (tgt := 9) hx hb dX2_find_126 (by decide) ?_
                        have hB2 : IsB σ ad.toInt wh.toInt kd.toInt dy.toInt i (sN σ) (some i) := IsB_rep hB hi (by omega) (by show (sR σ (oK (sO σ b1)).toInt.toNat).toInt < (sR σ (oK (sO σ i)).toInt.toNat).toInt; omega)
                        exact ih9 i (some i) x123_63 x7 (by omega) (by omega) (v123_63.trans (by omega)) e7 hB2 ls (lv_sub hl [0, 1, 3, 4, 5, 6, 7] rfl)
  exact loop9 (sN σ + 1) (sN σ) none (nI (sN σ)) 0 (by omega) (Nat.le_refl _) (ti_nI (by omega)) rfl IsB_nil ls (lv_sub hl [0, 1, 2, 3, 4, 5, 6] rfl)

set_option maxHeartbeats 4000000 in
set_option maxRecDepth 100000 in
/-- effective -/
theorem c_X2_effective (l : Launch) (G : GG) (b : Nat → Nat) (μ : MP) (σ : St) (hI : SI σ) (hM : MI μ σ) (en wh kd : Int32) (dy : Int64) : WrI l yX2_effective wsX2_effective (rmX 3 130 0 0) G [.ref (b 0), .int en, .int wh, .int kd, .long dy] (WM G b μ σ) (fun (r : Int32) (u : MP) => r = (fEff σ en wh kd dy).1 ∧ MI u (fEff σ en wh kd dy).2) (fun u : MP => WM G b u (fEff σ en wh kd dy).2) 0 0 := by
  refine wr_of_i (cc := cX2_effective) (maxL := 10) (t := .int) (by decide +kernel) rfl (Nat.le_of_ble_eq_true rfl) nar_int ?_
  intro p e s m args below meth c Q A hx hb hml hown hts hK hZ hA hret ls hl hP hD hS
  have hown : s.vm.findClass RX2 = some m.cls := hown
  have hl : lv_has ls 10 [(0, .ref (b 0)), (1, .int en), (2, .int wh), (3, .int kd), (4, .long dy)] := hl
  have hP : va_P G.1 vwCl (MW G b 0 (nI (sN σ)) (uK μ) (uE μ) (uP μ) (uT μ) (uF μ) (uU μ) (uM μ) (uV μ) (uX μ) (sR σ) (sT σ) (uW μ) (nI (sG σ).length) (uG μ)) s.heap := hP
  have hD : va_D A (MW G b 0 (nI (sN σ)) (uK μ) (uE μ) (uP μ) (uT μ) (uF μ) (uU μ) (uM μ) (uV μ) (uX μ) (sR σ) (sT σ) (uW μ) (nI (sG σ).length) (uG μ)) := hD
  obtain ⟨hI1, hI2, hI3, hI4, hI5⟩ := id hI
  have hiX2 := (show ∀ w ∈ u_ws RX2 TX2 17, w ∈ wsX2_effective by decide +kernel)
  have lf52 := hts (.fieldLink RX2 52 "OrderRows2Model" "thrown" "I") (by decide +kernel)
  have kl68 := hts (.constantLong RX2 68 (99)) (by decide +kernel)
  have cw58 := va_cwS (R := (rmX 3 130 0 0)) (s := s) (args := args) (rm := (rmX 0 0 0 0)) (mc := 0) (ms := 0) 3 hts gX2_effective_X2_isIn rfl rfl rfl (by decide +kernel) ⟨Nat.le_of_ble_eq_true rfl, Nat.le_of_ble_eq_true rfl⟩
  have kl72 := hts (.constantLong RX2 72 (49)) (by decide +kernel)
  have kl96 := hts (.constantLong RX2 96 (2)) (by decide +kernel)
  have kl66 := hts (.constantLong RX2 66 (20000)) (by decide +kernel)
  have lf42 := hts (.fieldLink RX2 42 "OrderRows2Model" "way" "[I") (by decide +kernel)
  have cw98 := cwV (R := (rmX 3 130 0 0)) (s := s) (args := args) (rm := (rmX 2 90 0 0)) (mc := 0) (ms := 0) 4 hts gX2_effective_X2_find rfl rfl rfl (by decide +kernel) ⟨Nat.le_of_ble_eq_true rfl, Nat.le_of_ble_eq_true rfl⟩
  have lf7 := hts (.fieldLink RX2 7 "OrderRows2Model" "kinds" "[I") (by decide +kernel)
  have lf19 := hts (.fieldLink RX2 19 "OrderRows2Model" "tos" "[I") (by decide +kernel)
  have lf48 := hts (.fieldLink RX2 48 "OrderRows2Model" "ringSize" "I") (by decide +kernel)
  have lf45 := hts (.fieldLink RX2 45 "OrderRows2Model" "ring" "[I") (by decide +kernel)
  refine lv_aload_n hx hb dX2_effective_0 rfl (lv_at hl 0 rfl) ?_
  refine lv_iconst (v := 0) hx hb dX2_effective_1 (by decide) ?_
  refine va_put (D := G.1) (ci := 3) (v := .int 0) (ty := .int) (own := RX2) (C := RX2) (T := TX2) (N := 17) hx hb hts hiX2 tyX2 tyX2_ok nmX2 hown hK.1 hP hD hS 0 rfl rfl 0 (by decide) lf52 (fun _ h9 => h9) rfl (by decide +kernel) rfl rfl (Nat.le_of_ble_eq_true rfl) dX2_effective_2 (fun H locs hP hD hS => ?_)
  have hP : va_P G.1 vwCl (MW G b 0 (nI (sN σ)) (uK μ) (uE μ) (uP μ) (uT μ) (uF μ) (uU μ) (uM μ) (uV μ) (uX μ) (sR σ) (sT σ) (uW μ) (nI (sG σ).length) (uG μ)) H := hP
  have hD : va_D A (MW G b 0 (nI (sN σ)) (uK μ) (uE μ) (uP μ) (uT μ) (uF μ) (uU μ) (uM μ) (uV μ) (uX μ) (sR σ) (sT σ) (uW μ) (nI (sG σ).length) (uG μ)) := hD
  refine lv_iload_n hx hb dX2_effective_5 rfl (lv_at hl 1 rfl) ?_
  refine lv_i2l hx hb dX2_effective_6 rfl ?_
  refine lv_lconst (v := 1) hx hb dX2_effective_7 rfl ?_
  refine lv_ldc2 (v := 99) hx hb hown kl68 dX2_effective_8 ?_
  refine rdS_i (As := [.long ((en).toInt64), .long 1, .long 99]) (rest := []) ⟨hx, hb, hml, hown, hts⟩ (c_X2_isIn l G ((en).toInt64 : Int64) (1 : Int64) (99 : Int64)) cw58 hK va_P.nil rfl hl.1 rfl (Nat.le_of_ble_eq_true rfl) dX2_effective_11 ⟨Nat.zero_le _, Nat.zero_le _⟩ (fun r11_1 w11_1 => ?_)
  have w11_1 : ((r11_1.toInt = 1 ∧ (((1 : Int64)).toInt ≤ (((en).toInt64 : Int64)).toInt ∧ (((en).toInt64 : Int64)).toInt ≤ ((99 : Int64)).toInt)) ∨ (r11_1.toInt = 0 ∧ ¬ (((1 : Int64)).toInt ≤ (((en).toInt64 : Int64)).toInt ∧ (((en).toInt64 : Int64)).toInt ≤ ((99 : Int64)).toInt))) := w11_1
  have va2 : (((en).toInt64 : Int64)).toInt = (en).toInt := (tl_i2l rfl)
  have va3 : ((1 : Int64)).toInt = 1 := rfl
  have va4 : ((99 : Int64)).toInt = 99 := rfl
  refine lv_if_eq (tgt := 29) hx hb dX2_effective_14 (by decide) (fun c14_5 => ?_) (fun c14_5 => ?_)
  · have c14_5 : (r11_1).toInt = 0 := (ti_eq (x := r11_1) (y := 0) (a := (r11_1).toInt) (b := 0) rfl rfl).mp c14_5
    refine lv_bipush (v := (-101)) hx hb dX2_effective_29 (by decide) ?_
    have hF : fEff σ en wh kd dy = ((-101), σ) := if_pos (by omega)
    exact hret _ _ _ _ _ _ _ (mWG μ (uW μ) (uG μ)) dX2_effective_31 (Or.inr (Or.inr rfl)) (by rw [hF]; exact ⟨rfl, hM⟩) (by rw [hF]; exact hP) (by rw [hF]; exact hD) hS (Nat.le_refl _) (Nat.le_refl _)
  · have c14_5 : ¬ ((r11_1).toInt = 0) := mt (ti_eq (x := r11_1) (y := 0) (a := (r11_1).toInt) (b := 0) rfl rfl).mpr c14_5
    refine lv_iload_n hx hb dX2_effective_17 rfl (lv_at hl 2 rfl) ?_
    refine lv_i2l hx hb dX2_effective_18 rfl ?_
    refine lv_lconst (v := 0) hx hb dX2_effective_19 rfl ?_
    refine lv_ldc2 (v := 49) hx hb hown kl72 dX2_effective_20 ?_
    refine rdS_i (As := [.long ((wh).toInt64), .long 0, .long 49]) (rest := []) ⟨hx, hb, hml, hown, hts⟩ (c_X2_isIn l G ((wh).toInt64 : Int64) (0 : Int64) (49 : Int64)) cw58 hK va_P.nil rfl hl.1 rfl (Nat.le_of_ble_eq_true rfl) dX2_effective_23 ⟨Nat.zero_le _, Nat.zero_le _⟩ (fun r23_6 w23_6 => ?_)
    have w23_6 : ((r23_6.toInt = 1 ∧ (((0 : Int64)).toInt ≤ (((wh).toInt64 : Int64)).toInt ∧ (((wh).toInt64 : Int64)).toInt ≤ ((49 : Int64)).toInt)) ∨ (r23_6.toInt = 0 ∧ ¬ (((0 : Int64)).toInt ≤ (((wh).toInt64 : Int64)).toInt ∧ (((wh).toInt64 : Int64)).toInt ≤ ((49 : Int64)).toInt))) := w23_6
    have va7 : (((wh).toInt64 : Int64)).toInt = (wh).toInt := (tl_i2l rfl)
    have va8 : ((0 : Int64)).toInt = 0 := rfl
    have va9 : ((49 : Int64)).toInt = 49 := rfl
    refine lv_if_ne (tgt := 32) hx hb dX2_effective_26 (by decide) (fun c26_10 => ?_) (fun c26_10 => ?_)
    · have c26_10 : ¬ ((r23_6).toInt = 0) := mt (ti_eq (x := r23_6) (y := 0) (a := (r23_6).toInt) (b := 0) rfl rfl).mpr c26_10
      refine lv_iload_n hx hb dX2_effective_32 rfl (lv_at hl 3 rfl) ?_
      refine lv_i2l hx hb dX2_effective_33 rfl ?_
      refine lv_lconst (v := 0) hx hb dX2_effective_34 rfl ?_
      refine lv_ldc2 (v := 2) hx hb hown kl96 dX2_effective_35 ?_
      refine rdS_i (As := [.long ((kd).toInt64), .long 0, .long 2]) (rest := []) ⟨hx, hb, hml, hown, hts⟩ (c_X2_isIn l G ((kd).toInt64 : Int64) (0 : Int64) (2 : Int64)) cw58 hK va_P.nil rfl hl.1 rfl (Nat.le_of_ble_eq_true rfl) dX2_effective_38 ⟨Nat.zero_le _, Nat.zero_le _⟩ (fun r38_11 w38_11 => ?_)
      have w38_11 : ((r38_11.toInt = 1 ∧ (((0 : Int64)).toInt ≤ (((kd).toInt64 : Int64)).toInt ∧ (((kd).toInt64 : Int64)).toInt ≤ ((2 : Int64)).toInt)) ∨ (r38_11.toInt = 0 ∧ ¬ (((0 : Int64)).toInt ≤ (((kd).toInt64 : Int64)).toInt ∧ (((kd).toInt64 : Int64)).toInt ≤ ((2 : Int64)).toInt))) := w38_11
      have va12 : (((kd).toInt64 : Int64)).toInt = (kd).toInt := (tl_i2l rfl)
      have va13 : ((0 : Int64)).toInt = 0 := rfl
      have va14 : ((2 : Int64)).toInt = 2 := rfl
      refine lv_if_eq (tgt := 56) hx hb dX2_effective_41 (by decide) (fun c41_15 => ?_) (fun c41_15 => ?_)
      · have c41_15 : (r38_11).toInt = 0 := (ti_eq (x := r38_11) (y := 0) (a := (r38_11).toInt) (b := 0) rfl rfl).mp c41_15
        refine lv_bipush (v := (-102)) hx hb dX2_effective_56 (by decide) ?_
        have hF : fEff σ en wh kd dy = ((-102), σ) := (if_neg (by omega)).trans (if_pos (by omega))
        exact hret _ _ _ _ _ _ _ (mWG μ (uW μ) (uG μ)) dX2_effective_58 (Or.inr (Or.inr rfl)) (by rw [hF]; exact ⟨rfl, hM⟩) (by rw [hF]; exact hP) (by rw [hF]; exact hD) hS (Nat.le_refl _) (Nat.le_refl _)
      · have c41_15 : ¬ ((r38_11).toInt = 0) := mt (ti_eq (x := r38_11) (y := 0) (a := (r38_11).toInt) (b := 0) rfl rfl).mpr c41_15
        refine lv_lload hx hb dX2_effective_44 (lv_at hl 4 rfl) ?_
        refine lv_lconst (v := 0) hx hb dX2_effective_46 rfl ?_
        refine lv_ldc2 (v := 20000) hx hb hown kl66 dX2_effective_47 ?_
        refine rdS_i (As := [.long dy, .long 0, .long 20000]) (rest := []) ⟨hx, hb, hml, hown, hts⟩ (c_X2_isIn l G (dy : Int64) (0 : Int64) (20000 : Int64)) cw58 hK va_P.nil rfl hl.1 rfl (Nat.le_of_ble_eq_true rfl) dX2_effective_50 ⟨Nat.zero_le _, Nat.zero_le _⟩ (fun r50_16 w50_16 => ?_)
        have w50_16 : ((r50_16.toInt = 1 ∧ (((0 : Int64)).toInt ≤ ((dy : Int64)).toInt ∧ ((dy : Int64)).toInt ≤ ((20000 : Int64)).toInt)) ∨ (r50_16.toInt = 0 ∧ ¬ (((0 : Int64)).toInt ≤ ((dy : Int64)).toInt ∧ ((dy : Int64)).toInt ≤ ((20000 : Int64)).toInt))) := w50_16
        have va17 : ((0 : Int64)).toInt = 0 := rfl
        have va18 : ((20000 : Int64)).toInt = 20000 := rfl
        refine lv_if_ne (tgt := 59) hx hb dX2_effective_53 (by decide) (fun c53_19 => ?_) (fun c53_19 => ?_)
        · have c53_19 : ¬ ((r50_16).toInt = 0) := mt (ti_eq (x := r50_16) (y := 0) (a := (r50_16).toInt) (b := 0) rfl rfl).mpr c53_19
          refine lv_aload_n hx hb dX2_effective_59 rfl (lv_at hl 0 rfl) ?_
          refine va_get (D := G.1) (ci := 3) (v := .ref (b 11)) (own := RX2) (C := RX2) (T := TX2) (N := 17) hx hb hts hiX2 hown hK.1 hP 0 rfl rfl 13 (by decide) lf42 (fun _ h9 => h9) rfl dX2_effective_60 ?_
          refine lv_iconst (v := 0) hx hb dX2_effective_63 (by decide) ?_
          refine lv_iload_n hx hb dX2_effective_64 rfl (lv_at hl 1 rfl) ?_
          refine my_iast hx hb hK hP hD hS 11 rfl (x := en) 0 rfl (by omega) dX2_effective_65 (fun H locs hP hD hS => ?_)
          have hP : va_P G.1 vwCl (MW G b 0 (nI (sN σ)) (uK μ) (uE μ) (uP μ) (uT μ) (uF μ) (uU μ) (uM μ) (uV μ) (uX μ) (sR σ) (sT σ) (upd (uW μ) 0 en) (nI (sG σ).length) (uG μ)) H := hP
          have hD : va_D A (MW G b 0 (nI (sN σ)) (uK μ) (uE μ) (uP μ) (uT μ) (uF μ) (uU μ) (uM μ) (uV μ) (uX μ) (sR σ) (sT σ) (upd (uW μ) 0 en) (nI (sG σ).length) (uG μ)) := hD
          refine lv_iconst (v := 1) hx hb dX2_effective_66 (by decide) ?_
          refine lv_istore (lv' := [(6, .int 1), (0, .ref (b 0)), (1, .int en), (2, .int wh), (3, .int kd), (4, .long dy)]) hx hb dX2_effective_67 hl (by decide) rfl (fun ls hl => ?_)
          have loop69 : ∀ (fu : Nat) (q : List Int32) (aq x6 : Int32) (wy : Nat → Int32), 100 < q.length + fu → q.length ≤ 100 → x6.toInt = ((q.length + 1 : Nat) : Int) → (∀ i, i < (q ++ [aq]).length → wy i = (q ++ [aq]).getD i 0) → ¬ fst1 q aq < q.length → (∀ i, i < (q ++ [aq]).length → AdOk ((q ++ [aq]).getD i 0)) → (∀ i j, i < j → j < (q ++ [aq]).length → (q ++ [aq]).getD i 0 ≠ (q ++ [aq]).getD j 0) → eff σ wh.toInt kd.toInt dy.toInt (100 - q.length) q aq = eff σ wh.toInt kd.toInt dy.toInt 100 [] en → ∀ (H : Heap) (locs : List Loc), va_P G.1 vwCl (MW G b 0 (nI (sN σ)) (uK μ) (uE μ) (uP μ) (uT μ) (uF μ) (uU μ) (uM μ) (uV μ) (uX μ) (sR σ) (sT σ) wy (nI (sG σ).length) (uG μ)) H → va_D A (MW G b 0 (nI (sN σ)) (uK μ) (uE μ) (uP μ) (uT μ) (uF μ) (uU μ) (uM μ) (uV μ) (uX μ) (sR σ) (sT σ) wy (nI (sG σ).length) (uG μ)) → va_S A s.heap H locs → ∀ ls : Array Slot, lv_has ls 10 [(6, .int x6), (0, .ref (b 0)), (1, .int en), (2, .int wh), (3, .int kd), (4, .long dy)] → W p l e (rmX 3 130 0 0) s m args below meth c H locs 0 0 Q (F0 m 69 ls []) := by
            intro fu
            induction fu with
            | zero =>
              intro q aq x6 wy hfu hq e6 hway hno hR hN hE
              exact absurd hfu (by omega)
            | succ fu ih69 =>
              intro q aq x6 wy hfu hq e6 hway hno hR hN hE H locs hP hD hS ls hl
              have hl99 := way_len hR hN
              rw [len_app] at hl99
              obtain ⟨r0, hr0⟩ : ∃ r0, 100 - q.length = r0 + 1 := ⟨99 - q.length, by omega⟩
              have hwa0 : wy q.length = aq := by rw [hway q.length (by rw [len_app]; omega), gD_last]
              refine lv_iload hx hb dX2_effective_69 (lv_at hl 0 rfl) ?_
              refine lv_bipush (v := 101) hx hb dX2_effective_71 (by decide) ?_
              refine lv_icmp_ge (tgt := 246) hx hb dX2_effective_73 (by decide) (fun c73_20 => ?_) (fun c73_20 => ?_)
              · have c73_20 : 101 ≤ (((q.length + 1) : Nat) : Int) := (ti_le (x := 101) (y := x6) (a := 101) (b := (((q.length + 1) : Nat) : Int)) rfl e6).mp c73_20
                exfalso; omega
              · have c73_20 : ¬ (101 ≤ (((q.length + 1) : Nat) : Int)) := mt (ti_le (x := 101) (y := x6) (a := 101) (b := (((q.length + 1) : Nat) : Int)) rfl e6).mpr c73_20
                refine lv_aload_n hx hb dX2_effective_76 rfl (lv_at hl 1 rfl) ?_
                refine lv_aload_n hx hb dX2_effective_77 rfl (lv_at hl 1 rfl) ?_
                refine va_get (D := G.1) (ci := 3) (v := .ref (b 11)) (own := RX2) (C := RX2) (T := TX2) (N := 17) hx hb hts hiX2 hown hK.1 hP 0 rfl rfl 13 (by decide) lf42 (fun _ h9 => h9) rfl dX2_effective_78 ?_
                refine lv_iload hx hb dX2_effective_81 (lv_at hl 0 rfl) ?_
                refine lv_iconst (v := 1) hx hb dX2_effective_83 (by decide) ?_
                refine lv_isub hx hb dX2_effective_84 ?_
                refine lv_topi (fun y84_21 e84_21 => ?_)
                have v84_21 : (y84_21).toInt = ((((q.length + 1) : Nat) : Int) - 1) := by rw [e84_21]; exact ti_sub (a := (((q.length + 1) : Nat) : Int)) (b := 1) e6 rfl (by omega) (by omega)
                refine my_iald hx hb hK hP 11 rfl q.length (v84_21.trans (by omega)) (by omega) dX2_effective_85 ?_
                refine lv_iload_n hx hb dX2_effective_86 rfl (lv_at hl 3 rfl) ?_
                refine lv_iload_n hx hb dX2_effective_87 rfl (lv_at hl 4 rfl) ?_
                refine lv_lload hx hb dX2_effective_88 (lv_at hl 5 rfl) ?_
                have hwa : (wy q.length) = aq := hwa0
                rw [hwa]
                refine rdV_i (b := b 0) (As := [.int aq, .int wh, .int kd, .long dy]) (rest := []) ⟨hx, hb, hml, hown, hts⟩ (c_X2_find l G b (mWG μ wy (uG μ)) σ hI hM aq wh kd dy (by omega)) cw98 hK hP 3 rfl rfl rfl rfl hl.1 rfl (Nat.le_of_ble_eq_true rfl) dX2_effective_90 ⟨Nat.zero_le _, Nat.zero_le _⟩ (fun ro wo => ?_)
                cases hbs : bst σ aq.toInt wh.toInt kd.toInt dy.toInt (sN σ) with
                | none =>
                  have wo : ro.toInt = 0 := by rw [wo, hbs]; rfl
                  refine lv_istore (lv' := [(7, .int ro), (6, .int x6), (0, .ref (b 0)), (1, .int en), (2, .int wh), (3, .int kd), (4, .long dy)]) hx hb dX2_effective_93 hl (by decide) rfl (fun ls hl => ?_)
                  refine lv_iload hx hb dX2_effective_95 (lv_at hl 0 rfl) ?_
                  refine lv_if_eq (tgt := 111) hx hb dX2_effective_97 (by decide) (fun c97_22 => ?_) (fun c97_22 => ?_)
                  · have c97_22 : (0 : Int) = 0 := (ti_eq (x := ro) (y := 0) (a := (0 : Int)) (b := 0) wo rfl).mp c97_22
                    refine lv_iload hx hb dX2_effective_111 (lv_at hl 0 rfl) ?_
                    refine lv_if_ne (tgt := 128) hx hb dX2_effective_113 (by decide) (fun c113_23 => ?_) (fun c113_23 => ?_)
                    · have c113_23 : ¬ ((0 : Int) = 0) := mt (ti_eq (x := ro) (y := 0) (a := (0 : Int)) (b := 0) wo rfl).mpr c113_23
                      exfalso; omega
                    · have c113_23 : (0 : Int) = 0 := (ti_eq (x := ro) (y := 0) (a := (0 : Int)) (b := 0) wo rfl).mp c113_23
                      refine lv_aload_n hx hb dX2_effective_116 rfl (lv_at hl 2 rfl) ?_
                      refine va_get (D := G.1) (ci := 3) (v := .ref (b 11)) (own := RX2) (C := RX2) (T := TX2) (N := 17) hx hb hts hiX2 hown hK.1 hP 0 rfl rfl 13 (by decide) lf42 (fun _ h9 => h9) rfl dX2_effective_117 ?_
                      refine lv_iload hx hb dX2_effective_120 (lv_at hl 1 rfl) ?_
                      refine lv_iconst (v := 1) hx hb dX2_effective_122 (by decide) ?_
                      refine lv_isub hx hb dX2_effective_123 ?_
                      refine lv_topi (fun y123_24 e123_24 => ?_)
                      have v123_24 : (y123_24).toInt = ((((q.length + 1) : Nat) : Int) - 1) := by rw [e123_24]; exact ti_sub (a := (((q.length + 1) : Nat) : Int)) (b := 1) e6 rfl (by omega) (by omega)
                      refine my_iald hx hb hK hP 11 rfl q.length (v123_24.trans (by omega)) (by omega) dX2_effective_124 ?_
                      refine lv_goto (tgt := 146) hx hb dX2_effective_125 (by decide) ?_
                      rw [hwa0]
                      have hE3 : eff σ wh.toInt kd.toInt dy.toInt 100 [] en = (aq, sG σ) := by rw [← hE, hr0]; exact eff_none hno hbs
                      have hF : fEff σ en wh kd dy = (aq, sGs σ (sG σ)) := fEff_of (by omega) (by omega) hE3
                      exact hret _ _ _ _ _ _ _ (mWG μ wy (uG μ)) dX2_effective_146 (Or.inr (Or.inr rfl)) (by rw [hF]; exact ⟨rfl, hM⟩) (by rw [hF]; exact hP) (by rw [hF]; exact hD) hS (Nat.le_refl _) (Nat.le_refl _)
                  · have c97_22 : ¬ ((0 : Int) = 0) := mt (ti_eq (x := ro) (y := 0) (a := (0 : Int)) (b := 0) wo rfl).mpr c97_22
                    exfalso; omega
                | some b1 =>
                  have wo : ro.toInt = (((b1 + 1) : Nat) : Int) := by rw [wo, hbs]; rfl
                  have hbn : b1 < sN σ := bst_lt hbs
                  have hmo2 := hM.1 b1 hbn
                  have hxi2 : ((oX (sO σ b1)).toInt = 20001 ∧ ((uX μ) (b1 + 1)).toInt = -1) ∨ ((oX (sO σ b1)).toInt ≠ 20001 ∧ ((uX μ) (b1 + 1)).toInt = (oX (sO σ b1)).toInt) := XI_i hmo2.2.2.2.2.2.2.2.2
                  have hoi2 := hI4 b1 hbn
                  unfold OI at hoi2
                  refine lv_istore (lv' := [(7, .int ro), (6, .int x6), (0, .ref (b 0)), (1, .int en), (2, .int wh), (3, .int kd), (4, .long dy)]) hx hb dX2_effective_93 hl (by decide) rfl (fun ls hl => ?_)
                  refine lv_iload hx hb dX2_effective_95 (lv_at hl 0 rfl) ?_
                  refine lv_if_eq (tgt := 111) hx hb dX2_effective_97 (by decide) (fun c97_25 => ?_) (fun c97_25 => ?_)
                  · have c97_25 : (((b1 + 1) : Nat) : Int) = 0 := (ti_eq (x := ro) (y := 0) (a := (((b1 + 1) : Nat) : Int)) (b := 0) wo rfl).mp c97_25
                    refine lv_iload hx hb dX2_effective_111 (lv_at hl 0 rfl) ?_
                    refine lv_if_ne (tgt := 128) hx hb dX2_effective_113 (by decide) (fun c113_26 => ?_) (fun c113_26 => ?_)
                    · have c113_26 : ¬ ((((b1 + 1) : Nat) : Int) = 0) := mt (ti_eq (x := ro) (y := 0) (a := (((b1 + 1) : Nat) : Int)) (b := 0) wo rfl).mpr c113_26
                      refine lv_aload_n hx hb dX2_effective_128 rfl (lv_at hl 2 rfl) ?_
                      refine va_get (D := G.1) (ci := 3) (v := .ref (b 1)) (own := RX2) (C := RX2) (T := TX2) (N := 17) hx hb hts hiX2 hown hK.1 hP 0 rfl rfl 2 (by decide) lf7 (fun _ h9 => h9) rfl dX2_effective_129 ?_
                      refine lv_iload hx hb dX2_effective_132 (lv_at hl 0 rfl) ?_
                      refine my_iald hx hb hK hP 1 rfl (b1 + 1) wo (by omega) dX2_effective_134 ?_
                      refine lv_bipush (v := 6) hx hb dX2_effective_135 (by decide) ?_
                      refine lv_icmp_ge (tgt := 144) hx hb dX2_effective_137 (by decide) (fun c137_27 => ?_) (fun c137_27 => ?_)
                      · have c137_27 : 6 ≤ (oK (sO σ b1)).toInt := (ti_le (x := 6) (y := ((uK μ) (b1 + 1))) (a := 6) (b := (oK (sO σ b1)).toInt) rfl (congrArg Int32.toInt hmo2.1)).mp c137_27
                        refine lv_bipush (v := (-2)) hx hb dX2_effective_144 (by decide) ?_
                        have hE3 : eff σ wh.toInt kd.toInt dy.toInt 100 [] en = (-2, sG σ) := by rw [← hE, hr0]; exact eff_refused hno hbs (by omega) (by omega)
                        have hF : fEff σ en wh kd dy = ((-2), sGs σ (sG σ)) := fEff_of (by omega) (by omega) hE3
                        exact hret _ _ _ _ _ _ _ (mWG μ wy (uG μ)) dX2_effective_146 (Or.inr (Or.inr rfl)) (by rw [hF]; exact ⟨rfl, hM⟩) (by rw [hF]; exact hP) (by rw [hF]; exact hD) hS (Nat.le_refl _) (Nat.le_refl _)
                      · have c137_27 : ¬ (6 ≤ (oK (sO σ b1)).toInt) := mt (ti_le (x := 6) (y := ((uK μ) (b1 + 1))) (a := 6) (b := (oK (sO σ b1)).toInt) rfl (congrArg Int32.toInt hmo2.1)).mpr c137_27
                        refine lv_iconst (v := 0) hx hb dX2_effective_140 (by decide) ?_
                        refine lv_goto (tgt := 146) hx hb dX2_effective_141 (by decide) ?_
                        have hE3 : eff σ wh.toInt kd.toInt dy.toInt 100 [] en = (0, sG σ) := by rw [← hE, hr0]; exact eff_held hno hbs (by omega) (by omega)
                        have hF : fEff σ en wh kd dy = (0, sGs σ (sG σ)) := fEff_of (by omega) (by omega) hE3
                        exact hret _ _ _ _ _ _ _ (mWG μ wy (uG μ)) dX2_effective_146 (Or.inr (Or.inr rfl)) (by rw [hF]; exact ⟨rfl, hM⟩) (by rw [hF]; exact hP) (by rw [hF]; exact hD) hS (Nat.le_refl _) (Nat.le_refl _)
                    · have c113_26 : (((b1 + 1) : Nat) : Int) = 0 := (ti_eq (x := ro) (y := 0) (a := (((b1 + 1) : Nat) : Int)) (b := 0) wo rfl).mp c113_26
                      exfalso; omega
                  · have c97_25 : ¬ ((((b1 + 1) : Nat) : Int) = 0) := mt (ti_eq (x := ro) (y := 0) (a := (((b1 + 1) : Nat) : Int)) (b := 0) wo rfl).mpr c97_25
                    refine lv_aload_n hx hb dX2_effective_100 rfl (lv_at hl 2 rfl) ?_
                    refine va_get (D := G.1) (ci := 3) (v := .ref (b 1)) (own := RX2) (C := RX2) (T := TX2) (N := 17) hx hb hts hiX2 hown hK.1 hP 0 rfl rfl 2 (by decide) lf7 (fun _ h9 => h9) rfl dX2_effective_101 ?_
                    refine lv_iload hx hb dX2_effective_104 (lv_at hl 0 rfl) ?_
                    refine my_iald hx hb hK hP 1 rfl (b1 + 1) wo (by omega) dX2_effective_106 ?_
                    refine lv_iconst (v := 2) hx hb dX2_effective_107 (by decide) ?_
                    refine lv_icmp_le (tgt := 147) hx hb dX2_effective_108 (by decide) (fun c108_28 => ?_) (fun c108_28 => ?_)
                    · have c108_28 : (oK (sO σ b1)).toInt ≤ 2 := (ti_le (x := ((uK μ) (b1 + 1))) (y := 2) (a := (oK (sO σ b1)).toInt) (b := 2) (congrArg Int32.toInt hmo2.1) rfl).mp c108_28
                      refine lv_aload_n hx hb dX2_effective_147 rfl (lv_at hl 2 rfl) ?_
                      refine va_get (D := G.1) (ci := 3) (v := .ref (b 11)) (own := RX2) (C := RX2) (T := TX2) (N := 17) hx hb hts hiX2 hown hK.1 hP 0 rfl rfl 13 (by decide) lf42 (fun _ h9 => h9) rfl dX2_effective_148 ?_
                      refine lv_iload hx hb dX2_effective_151 (lv_at hl 1 rfl) ?_
                      refine lv_aload_n hx hb dX2_effective_153 rfl (lv_at hl 2 rfl) ?_
                      refine va_get (D := G.1) (ci := 3) (v := .ref (b 4)) (own := RX2) (C := RX2) (T := TX2) (N := 17) hx hb hts hiX2 hown hK.1 hP 0 rfl rfl 5 (by decide) lf19 (fun _ h9 => h9) rfl dX2_effective_154 ?_
                      refine lv_iload hx hb dX2_effective_157 (lv_at hl 0 rfl) ?_
                      refine my_iald hx hb hK hP 4 rfl (b1 + 1) wo (by omega) dX2_effective_159 ?_
                      have hto : uT μ (b1 + 1) = oT (sO σ b1) := hmo2.2.2.2.1 (by omega)
                      refine my_iast hx hb hK hP hD hS 11 rfl (x := (uT μ (b1 + 1))) (q.length + 1) e6 (by omega) dX2_effective_160 (fun H locs hP hD hS => ?_)
                      have hP : va_P G.1 vwCl (MW G b 0 (nI (sN σ)) (uK μ) (uE μ) (uP μ) (uT μ) (uF μ) (uU μ) (uM μ) (uV μ) (uX μ) (sR σ) (sT σ) (upd wy (q.length + 1) (uT μ (b1 + 1))) (nI (sG σ).length) (uG μ)) H := hP
                      have hD : va_D A (MW G b 0 (nI (sN σ)) (uK μ) (uE μ) (uP μ) (uT μ) (uF μ) (uU μ) (uM μ) (uV μ) (uX μ) (sR σ) (sT σ) (upd wy (q.length + 1) (uT μ (b1 + 1))) (nI (sG σ).length) (uG μ)) := hD
                      have hway2 : ∀ i, i < ((q ++ [aq]) ++ [oT (sO σ b1)]).length → (upd wy (q.length + 1) (uT μ (b1 + 1))) i = ((q ++ [aq]) ++ [oT (sO σ b1)]).getD i 0 := by
                        have h9 := pa_app (a := oT (sO σ b1)) hway
                        have e9 : (q ++ [aq]).length = q.length + 1 := len_app
                        rw [e9] at h9
                        rw [hto]
                        exact h9
                      have hE2 : eff σ wh.toInt kd.toInt dy.toInt (100 - (q ++ [aq]).length) (q ++ [aq]) (oT (sO σ b1)) = eff σ wh.toInt kd.toInt dy.toInt 100 [] en := by rw [← hE, hr0, eff_go hno hbs (by omega), len_app, show 100 - (q.length + 1) = r0 by omega]
                      obtain ⟨w2, hw2⟩ : ∃ w2 : Nat → Int32, w2 = (upd wy (q.length + 1) (uT μ (b1 + 1))) := ⟨_, rfl⟩
                      rw [← hw2] at hway2 hP hD
                      have hP : va_P G.1 vwCl (MW G b 0 (nI (sN σ)) (uK μ) (uE μ) (uP μ) (uT μ) (uF μ) (uU μ) (uM μ) (uV μ) (uX μ) (sR σ) (sT σ) w2 (nI (sG σ).length) (uG μ)) H := hP
                      have hD : va_D A (MW G b 0 (nI (sN σ)) (uK μ) (uE μ) (uP μ) (uT μ) (uF μ) (uU μ) (uM μ) (uV μ) (uX μ) (sR σ) (sT σ) w2 (nI (sG σ).length) (uG μ)) := hD
                      have hwn : w2 (q.length + 1) = oT (sO σ b1) := by
                        have h9 := hway2 (q ++ [aq]).length (by rw [len_app (q := q ++ [aq])]; exact Nat.lt_succ_self _)
                        rw [gD_last, len_app] at h9
                        exact h9
                      have hfl : fst1 (q ++ [aq]) (oT (sO σ b1)) ≤ q.length + 1 := by have h9 := fa_first_le (fun j => decide ((q ++ [aq]).getD j 0 = oT (sO σ b1))) (q ++ [aq]).length; rw [len_app] at h9; unfold fst1; rw [len_app]; exact h9
                      refine lv_iconst (v := 0) hx hb dX2_effective_161 (by decide) ?_
                      refine lv_istore (lv' := [(8, .int 0), (7, .int ro), (6, .int x6), (0, .ref (b 0)), (1, .int en), (2, .int wh), (3, .int kd), (4, .long dy)]) hx hb dX2_effective_162 hl (by decide) rfl (fun ls hl => ?_)
                      have loop164 : ∀ (fu2 : Nat) (kq : Nat) (x8 : Int32), q.length + 1 < kq + fu2 → kq ≤ q.length + 1 → x8.toInt = ((kq : Nat) : Int) → (∀ i, i < kq → w2 i ≠ oT (sO σ b1)) → ∀ (H : Heap) (locs : List Loc), va_P G.1 vwCl (MW G b 0 (nI (sN σ)) (uK μ) (uE μ) (uP μ) (uT μ) (uF μ) (uU μ) (uM μ) (uV μ) (uX μ) (sR σ) (sT σ) w2 (nI (sG σ).length) (uG μ)) H → va_D A (MW G b 0 (nI (sN σ)) (uK μ) (uE μ) (uP μ) (uT μ) (uF μ) (uU μ) (uM μ) (uV μ) (uX μ) (sR σ) (sT σ) w2 (nI (sG σ).length) (uG μ)) → va_S A s.heap H locs → ∀ ls : Array Slot, lv_has ls 10 [(8, .int x8), (7, .int ro), (6, .int x6), (0, .ref (b 0)), (1, .int en), (2, .int wh), (3, .int kd), (4, .long dy)] → W p l e (rmX 3 130 0 0) s m args below meth c H locs 0 0 Q (F0 m 164 ls []) := by
                        intro fu2
                        induction fu2 with
                        | zero =>
                          intro kq x8 hfu hkl e8 hkq
                          exact absurd hfu (by omega)
                        | succ fu2 ih164 =>
                          intro kq x8 hfu hkl e8 hkq H locs hP hD hS ls hl
                          refine lv_aload_n hx hb dX2_effective_164 rfl (lv_at hl 3 rfl) ?_
                          refine va_get (D := G.1) (ci := 3) (v := .ref (b 11)) (own := RX2) (C := RX2) (T := TX2) (N := 17) hx hb hts hiX2 hown hK.1 hP 0 rfl rfl 13 (by decide) lf42 (fun _ h9 => h9) rfl dX2_effective_165 ?_
                          refine lv_iload hx hb dX2_effective_168 (lv_at hl 0 rfl) ?_
                          refine my_iald hx hb hK hP 11 rfl kq e8 (by omega) dX2_effective_170 ?_
                          refine lv_aload_n hx hb dX2_effective_171 rfl (lv_at hl 3 rfl) ?_
                          refine va_get (D := G.1) (ci := 3) (v := .ref (b 11)) (own := RX2) (C := RX2) (T := TX2) (N := 17) hx hb hts hiX2 hown hK.1 hP 0 rfl rfl 13 (by decide) lf42 (fun _ h9 => h9) rfl dX2_effective_172 ?_
                          refine lv_iload hx hb dX2_effective_175 (lv_at hl 2 rfl) ?_
                          refine my_iald hx hb hK hP 11 rfl (q.length + 1) e6 (by omega) dX2_effective_177 ?_
                          refine lv_icmp_eq (tgt := 187) hx hb dX2_effective_178 (by decide) (fun c178_29 => ?_) (fun c178_29 => ?_)
                          · have c178_29 : ((w2 kq)).toInt = ((w2 (q.length + 1))).toInt := (ti_eq (x := (w2 kq)) (y := (w2 (q.length + 1))) (a := ((w2 kq)).toInt) (b := ((w2 (q.length + 1))).toInt) rfl rfl).mp c178_29
                            have c178x := c178_29
                            have hkf : kq = (fst1 (q ++ [aq]) (oT (sO σ b1))) := by
                              have hk1 : w2 kq = oT (sO σ b1) := (ti_inj c178x).trans hwn
                              rcases Nat.lt_or_ge kq (q.length + 1) with z | z
                              · symm
                                refine ff_found (by rw [len_app]; exact z) (decide_eq_true ?_) (fun i hi => decide_eq_false ?_)
                                · rw [← gD_app (a := oT (sO σ b1)) (by rw [len_app]; exact z), ← hway2 kq (by rw [len_app, len_app]; omega)]; exact hk1
                                · rw [← gD_app (a := oT (sO σ b1)) (by rw [len_app]; omega), ← hway2 i (by rw [len_app, len_app]; omega)]; exact hkq i hi
                              · have z2 : kq = q.length + 1 := by omega
                                rw [z2]
                                symm
                                refine (ff_none (fun i hi => decide_eq_false ?_)).trans len_app
                                rw [len_app] at hi
                                rw [← gD_app (a := oT (sO σ b1)) (by rw [len_app]; omega), ← hway2 i (by rw [len_app, len_app]; omega)]; exact hkq i (by omega)
                            refine lv_iload hx hb dX2_effective_187 (lv_at hl 0 rfl) ?_
                            refine lv_iload hx hb dX2_effective_189 (lv_at hl 2 rfl) ?_
                            refine lv_icmp_ge (tgt := 240) hx hb dX2_effective_191 (by decide) (fun c191_30 => ?_) (fun c191_30 => ?_)
                            · have c191_30 : (((q.length + 1) : Nat) : Int) ≤ ((kq : Nat) : Int) := (ti_le (x := x6) (y := x8) (a := (((q.length + 1) : Nat) : Int)) (b := ((kq : Nat) : Int)) e6 e8).mp c191_30
                              have hno2 : ¬ (fst1 (q ++ [aq]) (oT (sO σ b1))) < (q ++ [aq]).length := by rw [len_app, ← hkf]; omega
                              obtain ⟨x240_31, e240_31⟩ : ∃ y : Int32, y = x6 + 1 := ⟨_, rfl⟩
                              have v240_31 : (x240_31).toInt = ((((q.length + 1) + 1) : Nat) : Int) := by rw [e240_31]; exact (ti_add (a := (((q.length + 1) : Nat) : Int)) (b := 1) e6 rfl (by omega) (by omega)).trans (by omega)
                              refine lv_iinc (v := x240_31) (lv' := [(6, .int x240_31), (8, .int x8), (7, .int ro), (0, .ref (b 0)), (1, .int en), (2, .int wh), (3, .int kd), (4, .long dy)]) hx hb dX2_effective_240 hl (k := 2) rfl (by rw [e240_31]; rfl) (by decide) rfl (fun ls hl => ?_)
                              refine lv_goto (tgt := 69) hx hb dX2_effective_243 (by decide) ?_
                              exact ih69 (q ++ [aq]) (oT (sO σ b1)) x240_31 w2 (by rw [len_app]; omega) (by rw [len_app]; omega) (by rw [len_app]; exact v240_31) hway2 hno2 (way_ok hR (OI_to (hI4 b1 hbn) (by omega))) (way_ne hN hno2) hE2 _ _ hP hD hS ls (lv_sub hl [0, 3, 4, 5, 6, 7] rfl)
                            · have c191_30 : ¬ ((((q.length + 1) : Nat) : Int) ≤ ((kq : Nat) : Int)) := mt (ti_le (x := x6) (y := x8) (a := (((q.length + 1) : Nat) : Int)) (b := ((kq : Nat) : Int)) e6 e8).mpr c191_30
                              refine lv_aload_n hx hb dX2_effective_194 rfl (lv_at hl 3 rfl) ?_
                              refine lv_iload hx hb dX2_effective_195 (lv_at hl 2 rfl) ?_
                              refine lv_iload hx hb dX2_effective_197 (lv_at hl 0 rfl) ?_
                              refine lv_isub hx hb dX2_effective_199 ?_
                              refine lv_topi (fun y199_32 e199_32 => ?_)
                              have v199_32 : (y199_32).toInt = ((((q.length + 1) : Nat) : Int) - ((kq : Nat) : Int)) := by rw [e199_32]; exact ti_sub (a := (((q.length + 1) : Nat) : Int)) (b := ((kq : Nat) : Int)) e6 e8 (by omega) (by omega)
                              refine va_put (D := G.1) (ci := 3) (v := .int y199_32) (ty := .int) (own := RX2) (C := RX2) (T := TX2) (N := 17) hx hb hts hiX2 tyX2 tyX2_ok nmX2 hown hK.1 hP hD hS 0 rfl rfl 15 (by decide) lf48 (fun _ h9 => h9) rfl (by decide +kernel) rfl rfl (Nat.le_of_ble_eq_true rfl) dX2_effective_200 (fun H locs hP hD hS => ?_)
                              have hP : va_P G.1 vwCl (MW G b 0 (nI (sN σ)) (uK μ) (uE μ) (uP μ) (uT μ) (uF μ) (uU μ) (uM μ) (uV μ) (uX μ) (sR σ) (sT σ) w2 y199_32 (uG μ)) H := hP
                              have hD : va_D A (MW G b 0 (nI (sN σ)) (uK μ) (uE μ) (uP μ) (uT μ) (uF μ) (uU μ) (uM μ) (uV μ) (uX μ) (sR σ) (sT σ) w2 y199_32 (uG μ)) := hD
                              obtain rfl : y199_32 = nI (q.length + 1 - kq) := nI_ofI (v199_32.trans (by omega))
                              have hP : va_P G.1 vwCl (MW G b 0 (nI (sN σ)) (uK μ) (uE μ) (uP μ) (uT μ) (uF μ) (uU μ) (uM μ) (uV μ) (uX μ) (sR σ) (sT σ) w2 (nI (q.length + 1 - kq)) (uG μ)) H := hP
                              have hD : va_D A (MW G b 0 (nI (sN σ)) (uK μ) (uE μ) (uP μ) (uT μ) (uF μ) (uU μ) (uM μ) (uV μ) (uX μ) (sR σ) (sT σ) w2 (nI (q.length + 1 - kq)) (uG μ)) := hD
                              refine lv_iconst (v := 0) hx hb dX2_effective_203 (by decide) ?_
                              refine lv_istore (lv' := [(9, .int 0), (8, .int x8), (7, .int ro), (6, .int x6), (0, .ref (b 0)), (1, .int en), (2, .int wh), (3, .int kd), (4, .long dy)]) hx hb dX2_effective_204 hl (by decide) rfl (fun ls hl => ?_)
                              have loop206 : ∀ (fu3 : Nat) (mq : Nat) (x9 : Int32) (gq : Nat → Int32), q.length + 1 - kq < mq + fu3 → mq ≤ q.length + 1 - kq → x9.toInt = ((mq : Nat) : Int) → (∀ i, i < mq → gq i = w2 (kq + i)) → ∀ (H : Heap) (locs : List Loc), va_P G.1 vwCl (MW G b 0 (nI (sN σ)) (uK μ) (uE μ) (uP μ) (uT μ) (uF μ) (uU μ) (uM μ) (uV μ) (uX μ) (sR σ) (sT σ) w2 (nI (q.length + 1 - kq)) gq) H → va_D A (MW G b 0 (nI (sN σ)) (uK μ) (uE μ) (uP μ) (uT μ) (uF μ) (uU μ) (uM μ) (uV μ) (uX μ) (sR σ) (sT σ) w2 (nI (q.length + 1 - kq)) gq) → va_S A s.heap H locs → ∀ ls : Array Slot, lv_has ls 10 [(9, .int x9), (8, .int x8), (0, .ref (b 0))] → W p l e (rmX 3 130 0 0) s m args below meth c H locs 0 0 Q (F0 m 206 ls []) := by
                                intro fu3
                                induction fu3 with
                                | zero =>
                                  intro mq x9 gq hfu hmq e9 hgq
                                  exact absurd hfu (by omega)
                                | succ fu3 ih206 =>
                                  intro mq x9 gq hfu hmq e9 hgq H locs hP hD hS ls hl
                                  refine lv_iload hx hb dX2_effective_206 (lv_at hl 0 rfl) ?_
                                  refine lv_aload_n hx hb dX2_effective_208 rfl (lv_at hl 2 rfl) ?_
                                  refine va_get (D := G.1) (ci := 3) (v := .int (nI (q.length + 1 - kq))) (own := RX2) (C := RX2) (T := TX2) (N := 17) hx hb hts hiX2 hown hK.1 hP 0 rfl rfl 15 (by decide) lf48 (fun _ h9 => h9) rfl dX2_effective_209 ?_
                                  refine lv_icmp_ge (tgt := 238) hx hb dX2_effective_212 (by decide) (fun c212_33 => ?_) (fun c212_33 => ?_)
                                  · have c212_33 : (((q.length + 1 - kq) : Nat) : Int) ≤ ((mq : Nat) : Int) := (ti_le (x := (nI (q.length + 1 - kq))) (y := x9) (a := (((q.length + 1 - kq) : Nat) : Int)) (b := ((mq : Nat) : Int)) (ti_nI (by omega)) e9).mp c212_33
                                    refine lv_iconst (v := (-1)) hx hb dX2_effective_238 (by decide) ?_
                                    obtain rfl : mq = q.length + 1 - kq := by omega
                                    have hlt : (fst1 (q ++ [aq]) (oT (sO σ b1))) < (q ++ [aq]).length := by rw [len_app, ← hkf]; omega
                                    obtain ⟨r1, hr1⟩ : ∃ r1, 100 - (q ++ [aq]).length = r1 + 1 := ⟨99 - (q ++ [aq]).length, by rw [len_app]; omega⟩
                                    have hE3 : eff σ wh.toInt kd.toInt dy.toInt 100 [] en = (-1, ((q ++ [aq]).drop (fst1 (q ++ [aq]) (oT (sO σ b1))))) := by rw [← hE2, hr1]; exact eff_ring hlt
                                    have hgl : ((q ++ [aq]).drop (fst1 (q ++ [aq]) (oT (sO σ b1)))).length = q.length + 1 - kq := by rw [List.length_drop, len_app, ← hkf]
                                    have hM2 : MI (mWG μ w2 gq) (sGs σ ((q ++ [aq]).drop (fst1 (q ++ [aq]) (oT (sO σ b1))))) := by
                                      refine ⟨hM.1, hM.2.1, fun i hi => ?_⟩
                                      have hi : i < ((q ++ [aq]).drop (fst1 (q ++ [aq]) (oT (sO σ b1)))).length := hi
                                      rw [hgl] at hi
                                      show gq i = ((q ++ [aq]).drop (fst1 (q ++ [aq]) (oT (sO σ b1)))).getD i 0
                                      rw [gD_drop, ← hkf, hgq i hi, hway2 (kq + i) (by rw [len_app, len_app]; omega), gD_app (by rw [len_app]; omega)]
                                    rw [← hgl] at hP hD
                                    have hF : fEff σ en wh kd dy = ((-1), sGs σ ((q ++ [aq]).drop (fst1 (q ++ [aq]) (oT (sO σ b1))))) := fEff_of (by omega) (by omega) hE3
                                    exact hret _ _ _ _ _ _ _ (mWG μ w2 gq) dX2_effective_239 (Or.inr (Or.inr rfl)) (by rw [hF]; exact ⟨rfl, hM2⟩) (by rw [hF]; exact hP) (by rw [hF]; exact hD) hS (Nat.le_refl _) (Nat.le_refl _)
                                  · have c212_33 : ¬ ((((q.length + 1 - kq) : Nat) : Int) ≤ ((mq : Nat) : Int)) := mt (ti_le (x := (nI (q.length + 1 - kq))) (y := x9) (a := (((q.length + 1 - kq) : Nat) : Int)) (b := ((mq : Nat) : Int)) (ti_nI (by omega)) e9).mpr c212_33
                                    refine lv_aload_n hx hb dX2_effective_215 rfl (lv_at hl 2 rfl) ?_
                                    refine va_get (D := G.1) (ci := 3) (v := .ref (b 12)) (own := RX2) (C := RX2) (T := TX2) (N := 17) hx hb hts hiX2 hown hK.1 hP 0 rfl rfl 16 (by decide) lf45 (fun _ h9 => h9) rfl dX2_effective_216 ?_
                                    refine lv_iload hx hb dX2_effective_219 (lv_at hl 0 rfl) ?_
                                    refine lv_aload_n hx hb dX2_effective_221 rfl (lv_at hl 2 rfl) ?_
                                    refine va_get (D := G.1) (ci := 3) (v := .ref (b 11)) (own := RX2) (C := RX2) (T := TX2) (N := 17) hx hb hts hiX2 hown hK.1 hP 0 rfl rfl 13 (by decide) lf42 (fun _ h9 => h9) rfl dX2_effective_222 ?_
                                    refine lv_iload hx hb dX2_effective_225 (lv_at hl 1 rfl) ?_
                                    refine lv_iload hx hb dX2_effective_227 (lv_at hl 0 rfl) ?_
                                    refine lv_iadd hx hb dX2_effective_229 ?_
                                    refine lv_topi (fun y229_34 e229_34 => ?_)
                                    have v229_34 : (y229_34).toInt = (((kq + mq) : Nat) : Int) := by rw [e229_34]; exact (ti_add (a := ((kq : Nat) : Int)) (b := ((mq : Nat) : Int)) e8 e9 (by omega) (by omega)).trans (by omega)
                                    refine my_iald hx hb hK hP 11 rfl (kq + mq) v229_34 (by omega) dX2_effective_230 ?_
                                    refine my_iast hx hb hK hP hD hS 12 rfl (x := (w2 (kq + mq))) mq e9 (by omega) dX2_effective_231 (fun H locs hP hD hS => ?_)
                                    have hP : va_P G.1 vwCl (MW G b 0 (nI (sN σ)) (uK μ) (uE μ) (uP μ) (uT μ) (uF μ) (uU μ) (uM μ) (uV μ) (uX μ) (sR σ) (sT σ) w2 (nI (q.length + 1 - kq)) (upd gq mq (w2 (kq + mq)))) H := hP
                                    have hD : va_D A (MW G b 0 (nI (sN σ)) (uK μ) (uE μ) (uP μ) (uT μ) (uF μ) (uU μ) (uM μ) (uV μ) (uX μ) (sR σ) (sT σ) w2 (nI (q.length + 1 - kq)) (upd gq mq (w2 (kq + mq)))) := hD
                                    obtain ⟨x232_35, e232_35⟩ : ∃ y : Int32, y = x9 + 1 := ⟨_, rfl⟩
                                    have v232_35 : (x232_35).toInt = (((mq + 1) : Nat) : Int) := by rw [e232_35]; exact (ti_add (a := ((mq : Nat) : Int)) (b := 1) e9 rfl (by omega) (by omega)).trans (by omega)
                                    refine lv_iinc (v := x232_35) (lv' := [(9, .int x232_35), (8, .int x8), (0, .ref (b 0))]) hx hb dX2_effective_232 hl (k := 0) rfl (by rw [e232_35]; rfl) (by decide) rfl (fun ls hl => ?_)
                                    refine lv_goto (tgt := 206) hx hb dX2_effective_235 (by decide) ?_
                                    have hgq2 : ∀ i, i < mq + 1 → (upd gq mq (w2 (kq + mq))) i = w2 (kq + i) := fun i hi => by
                                      rcases Nat.lt_or_eq_of_le (Nat.lt_succ_iff.mp hi) with z | z
                                      · rw [pk_un (Nat.ne_of_lt z)]; exact hgq i z
                                      · subst z; exact pk_us
                                    exact ih206 (mq + 1) x232_35 (upd gq mq (w2 (kq + mq))) (by omega) (by omega) v232_35 hgq2 _ _ hP hD hS ls (lv_sub hl [0, 1, 2] rfl)
                              exact loop206 (q.length + 2) 0 0 (uG μ) (by omega) (Nat.zero_le _) rfl (fun i hi => absurd hi (Nat.not_lt_zero i)) _ _ hP hD hS ls (lv_sub hl [0, 1, 4] rfl)
                          · have c178_29 : ¬ (((w2 kq)).toInt = ((w2 (q.length + 1))).toInt) := mt (ti_eq (x := (w2 kq)) (y := (w2 (q.length + 1))) (a := ((w2 kq)).toInt) (b := ((w2 (q.length + 1))).toInt) rfl rfl).mpr c178_29
                            have c178x := c178_29
                            obtain ⟨x181_36, e181_36⟩ : ∃ y : Int32, y = x8 + 1 := ⟨_, rfl⟩
                            have v181_36 : (x181_36).toInt = (((kq + 1) : Nat) : Int) := by rw [e181_36]; exact (ti_add (a := ((kq : Nat) : Int)) (b := 1) e8 rfl (by omega) (by omega)).trans (by omega)
                            refine lv_iinc (v := x181_36) (lv' := [(8, .int x181_36), (7, .int ro), (6, .int x6), (0, .ref (b 0)), (1, .int en), (2, .int wh), (3, .int kd), (4, .long dy)]) hx hb dX2_effective_181 hl (k := 0) rfl (by rw [e181_36]; rfl) (by decide) rfl (fun ls hl => ?_)
                            refine lv_goto (tgt := 164) hx hb dX2_effective_184 (by decide) ?_
                            have hkl : kq < q.length + 1 := by
                              rcases Nat.lt_or_ge kq (q.length + 1) with z | z
                              · exact z
                              · exfalso
                                have z2 : kq = q.length + 1 := by omega
                                rw [z2] at c178x
                                exact c178x rfl
                            have hkq2 : ∀ i, i < kq + 1 → w2 i ≠ oT (sO σ b1) := fun i hi => by
                              rcases Nat.lt_or_eq_of_le (Nat.lt_succ_iff.mp hi) with z | z
                              · exact hkq i z
                              · subst z; exact fun h9 => c178x (by rw [h9, hwn])
                            exact ih164 (kq + 1) x181_36 (by omega) (by omega) v181_36 hkq2 _ _ hP hD hS ls (lv_sub hl [0, 1, 2, 3, 4, 5, 6, 7] rfl)
                      exact loop164 (q.length + 2) 0 0 (by omega) (Nat.zero_le _) rfl (fun i hi => absurd hi (Nat.not_lt_zero i)) _ _ hP hD hS ls (lv_sub hl [0, 1, 2, 3, 4, 5, 6, 7] rfl)
                    · have c108_28 : ¬ ((oK (sO σ b1)).toInt ≤ 2) := mt (ti_le (x := ((uK μ) (b1 + 1))) (y := 2) (a := (oK (sO σ b1)).toInt) (b := 2) (congrArg Int32.toInt hmo2.1) rfl).mpr c108_28
                      refine lv_iload hx hb dX2_effective_111 (lv_at hl 0 rfl) ?_
                      refine lv_if_ne (tgt := 128) hx hb dX2_effective_113 (by decide) (fun c113_37 => ?_) (fun c113_37 => ?_)
                      · have c113_37 : ¬ ((((b1 + 1) : Nat) : Int) = 0) := mt (ti_eq (x := ro) (y := 0) (a := (((b1 + 1) : Nat) : Int)) (b := 0) wo rfl).mpr c113_37
                        refine lv_aload_n hx hb dX2_effective_128 rfl (lv_at hl 2 rfl) ?_
                        refine va_get (D := G.1) (ci := 3) (v := .ref (b 1)) (own := RX2) (C := RX2) (T := TX2) (N := 17) hx hb hts hiX2 hown hK.1 hP 0 rfl rfl 2 (by decide) lf7 (fun _ h9 => h9) rfl dX2_effective_129 ?_
                        refine lv_iload hx hb dX2_effective_132 (lv_at hl 0 rfl) ?_
                        refine my_iald hx hb hK hP 1 rfl (b1 + 1) wo (by omega) dX2_effective_134 ?_
                        refine lv_bipush (v := 6) hx hb dX2_effective_135 (by decide) ?_
                        refine lv_icmp_ge (tgt := 144) hx hb dX2_effective_137 (by decide) (fun c137_38 => ?_) (fun c137_38 => ?_)
                        · have c137_38 : 6 ≤ (oK (sO σ b1)).toInt := (ti_le (x := 6) (y := ((uK μ) (b1 + 1))) (a := 6) (b := (oK (sO σ b1)).toInt) rfl (congrArg Int32.toInt hmo2.1)).mp c137_38
                          refine lv_bipush (v := (-2)) hx hb dX2_effective_144 (by decide) ?_
                          have hE3 : eff σ wh.toInt kd.toInt dy.toInt 100 [] en = (-2, sG σ) := by rw [← hE, hr0]; exact eff_refused hno hbs (by omega) (by omega)
                          have hF : fEff σ en wh kd dy = ((-2), sGs σ (sG σ)) := fEff_of (by omega) (by omega) hE3
                          exact hret _ _ _ _ _ _ _ (mWG μ wy (uG μ)) dX2_effective_146 (Or.inr (Or.inr rfl)) (by rw [hF]; exact ⟨rfl, hM⟩) (by rw [hF]; exact hP) (by rw [hF]; exact hD) hS (Nat.le_refl _) (Nat.le_refl _)
                        · have c137_38 : ¬ (6 ≤ (oK (sO σ b1)).toInt) := mt (ti_le (x := 6) (y := ((uK μ) (b1 + 1))) (a := 6) (b := (oK (sO σ b1)).toInt) rfl (congrArg Int32.toInt hmo2.1)).mpr c137_38
                          refine lv_iconst (v := 0) hx hb dX2_effective_140 (by decide) ?_
                          refine lv_goto (tgt := 146) hx hb dX2_effective_141 (by decide) ?_
                          have hE3 : eff σ wh.toInt kd.toInt dy.toInt 100 [] en = (0, sG σ) := by rw [← hE, hr0]; exact eff_held hno hbs (by omega) (by omega)
                          have hF : fEff σ en wh kd dy = (0, sGs σ (sG σ)) := fEff_of (by omega) (by omega) hE3
                          exact hret _ _ _ _ _ _ _ (mWG μ wy (uG μ)) dX2_effective_146 (Or.inr (Or.inr rfl)) (by rw [hF]; exact ⟨rfl, hM⟩) (by rw [hF]; exact hP) (by rw [hF]; exact hD) hS (Nat.le_refl _) (Nat.le_refl _)
                      · have c113_37 : (((b1 + 1) : Nat) : Int) = 0 := (ti_eq (x := ro) (y := 0) (a := (((b1 + 1) : Nat) : Int)) (b := 0) wo rfl).mp c113_37
                        exfalso; omega
          exact loop69 101 [] en 1 (upd (uW μ) 0 en) (by decide) (Nat.zero_le _) rfl (fun i hi => by have z : i = 0 := Nat.lt_one_iff.mp hi; subst z; exact pk_us) (Nat.lt_irrefl 0) (fun i hi => by have z : i = 0 := Nat.lt_one_iff.mp hi; subst z; exact ⟨by show 1 ≤ en.toInt; omega, by show en.toInt ≤ 99; omega⟩) (fun i j hij hj => absurd hj (by show ¬ j < 1; omega)) rfl _ _ hP hD hS ls (lv_sub hl [0, 1, 2, 3, 4, 5] rfl)
        · have c53_19 : (r50_16).toInt = 0 := (ti_eq (x := r50_16) (y := 0) (a := (r50_16).toInt) (b := 0) rfl rfl).mp c53_19
          refine lv_bipush (v := (-102)) hx hb dX2_effective_56 (by decide) ?_
          have hF : fEff σ en wh kd dy = ((-102), σ) := (if_neg (by omega)).trans (if_pos (by omega))
          exact hret _ _ _ _ _ _ _ (mWG μ (uW μ) (uG μ)) dX2_effective_58 (Or.inr (Or.inr rfl)) (by rw [hF]; exact ⟨rfl, hM⟩) (by rw [hF]; exact hP) (by rw [hF]; exact hD) hS (Nat.le_refl _) (Nat.le_refl _)
    · have c26_10 : (r23_6).toInt = 0 := (ti_eq (x := r23_6) (y := 0) (a := (r23_6).toInt) (b := 0) rfl rfl).mp c26_10
      refine lv_bipush (v := (-101)) hx hb dX2_effective_29 (by decide) ?_
      have hF : fEff σ en wh kd dy = ((-101), σ) := if_pos (by omega)
      exact hret _ _ _ _ _ _ _ (mWG μ (uW μ) (uG μ)) dX2_effective_31 (Or.inr (Or.inr rfl)) (by rw [hF]; exact ⟨rfl, hM⟩) (by rw [hF]; exact hP) (by rw [hF]; exact hD) hS (Nat.le_refl _) (Nat.le_refl _)
