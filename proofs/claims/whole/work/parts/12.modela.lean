-- ===== laid by wip/whole/gen.py out of the decode rows =====
set_option maxHeartbeats 4000000 in
set_option maxRecDepth 100000 in
/-- isIn -/
theorem c_X2_isIn (l : Launch) (G : GG) (x y z : Int64) : RdI l yX2_isIn wsX2_isIn (rmX 0 0 0 0) G [.long x, .long y, .long z] [] (fun r => ((r.toInt = 1 ∧ ((y).toInt ≤ (x).toInt ∧ (x).toInt ≤ (z).toInt)) ∨ (r.toInt = 0 ∧ ¬ ((y).toInt ≤ (x).toInt ∧ (x).toInt ≤ (z).toInt)))) := by
  refine rd_of_i (cc := cX2_isIn) (maxL := 6) (t := .boolean) (by decide +kernel) rfl (Nat.le_of_ble_eq_true rfl) nar_bool ?_
  intro p e s m args below meth c Q hx hb hml hown hts hP hK hret ls hl
  have hown : s.vm.findClass RX2 = some m.cls := hown
  have hl : lv_has ls 6 [(0, .long x), (2, .long y), (4, .long z)] := hl
  refine lv_lload_n hx hb dX2_isIn_0 rfl (lv_at hl 0 rfl) ?_
  refine lv_lload_n hx hb dX2_isIn_1 rfl (lv_at hl 1 rfl) ?_
  refine lc_lt (tgt := 17) hx hb dX2_isIn_2 dX2_isIn_3 (by decide) (fun c2_1 => ?_) (fun c2_1 => ?_)
  · have c2_1 : (x).toInt < (y).toInt := (tl_lt (x := x) (y := y) (a := (x).toInt) (b := (y).toInt) rfl rfl).mp c2_1
    refine lv_iconst (v := 0) hx hb dX2_isIn_17 (by decide) ?_
    exact hret _ _ _ dX2_isIn_18 (Or.inl rfl) (Or.inr ⟨rfl, by omega⟩)
  · have c2_1 : ¬ ((x).toInt < (y).toInt) := mt (tl_lt (x := x) (y := y) (a := (x).toInt) (b := (y).toInt) rfl rfl).mpr c2_1
    refine lv_lload_n hx hb dX2_isIn_6 rfl (lv_at hl 0 rfl) ?_
    refine lv_lload hx hb dX2_isIn_7 (lv_at hl 2 rfl) ?_
    refine lc_gt (tgt := 17) hx hb dX2_isIn_9 dX2_isIn_10 (by decide) (fun c9_2 => ?_) (fun c9_2 => ?_)
    · have c9_2 : (z).toInt < (x).toInt := (tl_lt (x := z) (y := x) (a := (z).toInt) (b := (x).toInt) rfl rfl).mp c9_2
      refine lv_iconst (v := 0) hx hb dX2_isIn_17 (by decide) ?_
      exact hret _ _ _ dX2_isIn_18 (Or.inl rfl) (Or.inr ⟨rfl, by omega⟩)
    · have c9_2 : ¬ ((z).toInt < (x).toInt) := mt (tl_lt (x := z) (y := x) (a := (z).toInt) (b := (x).toInt) rfl rfl).mpr c9_2
      refine lv_iconst (v := 1) hx hb dX2_isIn_13 (by decide) ?_
      refine lv_goto (tgt := 18) hx hb dX2_isIn_14 (by decide) ?_
      exact hret _ _ _ dX2_isIn_18 (Or.inr (Or.inl rfl)) (Or.inl ⟨rfl, by omega⟩)

set_option maxHeartbeats 4000000 in
set_option maxRecDepth 100000 in
/-- isOrder -/
theorem c_X2_isOrder (l : Launch) (G : GG) (b : Nat → Nat) (μ : MP) (σ : St) (hI : SI σ) (hM : MI μ σ) (o : Int32) : RdI l yX2_isOrder wsX2_isOrder (rmX 1 60 0 0) G [.ref (b 0), .int o] (WM G b μ σ) (fun r => ((r.toInt = 1 ∧ (1 ≤ (o).toInt ∧ (o).toInt ≤ ((sN σ : Nat) : Int))) ∨ (r.toInt = 0 ∧ ¬ (1 ≤ (o).toInt ∧ (o).toInt ≤ ((sN σ : Nat) : Int))))) := by
  refine rd_of_i (cc := cX2_isOrder) (maxL := 2) (t := .boolean) (by decide +kernel) rfl (Nat.le_of_ble_eq_true rfl) nar_bool ?_
  intro p e s m args below meth c Q hx hb hml hown hts hP hK hret ls hl
  have hown : s.vm.findClass RX2 = some m.cls := hown
  have hl : lv_has ls 2 [(0, .ref (b 0)), (1, .int o)] := hl
  have hP : va_P G.1 vwCl (MW G b 0 (nI (sN σ)) (uK μ) (uE μ) (uP μ) (uT μ) (uF μ) (uU μ) (uM μ) (uV μ) (uX μ) (sR σ) (sT σ) (uW μ) (nI (sG σ).length) (uG μ)) s.heap := hP
  obtain ⟨hI1, hI2, hI3, hI4, hI5⟩ := id hI
  have hiX2 := (show ∀ w ∈ u_ws RX2 TX2 17, w ∈ wsX2_isOrder by decide +kernel)
  have lf55 := hts (.fieldLink RX2 55 "OrderRows2Model" "orders" "I") (by decide +kernel)
  have cw58 := va_cwS (R := (rmX 1 60 0 0)) (s := s) (args := args) (rm := (rmX 0 0 0 0)) (mc := 0) (ms := 0) 3 hts gX2_isOrder_X2_isIn rfl rfl rfl (by decide +kernel) ⟨Nat.le_of_ble_eq_true rfl, Nat.le_of_ble_eq_true rfl⟩
  refine lv_iload_n hx hb dX2_isOrder_0 rfl (lv_at hl 1 rfl) ?_
  refine lv_i2l hx hb dX2_isOrder_1 rfl ?_
  refine lv_lconst (v := 1) hx hb dX2_isOrder_2 rfl ?_
  refine lv_aload_n hx hb dX2_isOrder_3 rfl (lv_at hl 0 rfl) ?_
  refine va_get (D := G.1) (ci := 3) (v := .int (nI (sN σ))) (own := RX2) (C := RX2) (T := TX2) (N := 17) hx hb hts hiX2 hown hK.1 hP 0 rfl rfl 1 (by decide) lf55 (fun _ h9 => h9) rfl dX2_isOrder_4 ?_
  refine lv_i2l hx hb dX2_isOrder_7 rfl ?_
  refine rdS_i (As := [.long ((o).toInt64), .long 1, .long (((nI (sN σ))).toInt64)]) (rest := []) ⟨hx, hb, hml, hown, hts⟩ (c_X2_isIn l G ((o).toInt64 : Int64) (1 : Int64) (((nI (sN σ))).toInt64 : Int64)) cw58 hK va_P.nil rfl hl.1 rfl (Nat.le_of_ble_eq_true rfl) dX2_isOrder_8 ⟨Nat.zero_le _, Nat.zero_le _⟩ (fun r8_1 w8_1 => ?_)
  have w8_1 : ((r8_1.toInt = 1 ∧ (((1 : Int64)).toInt ≤ (((o).toInt64 : Int64)).toInt ∧ (((o).toInt64 : Int64)).toInt ≤ ((((nI (sN σ))).toInt64 : Int64)).toInt)) ∨ (r8_1.toInt = 0 ∧ ¬ (((1 : Int64)).toInt ≤ (((o).toInt64 : Int64)).toInt ∧ (((o).toInt64 : Int64)).toInt ≤ ((((nI (sN σ))).toInt64 : Int64)).toInt))) := w8_1
  have va2 : (((o).toInt64 : Int64)).toInt = (o).toInt := (tl_i2l rfl)
  have va3 : ((1 : Int64)).toInt = 1 := rfl
  have va4 : ((((nI (sN σ))).toInt64 : Int64)).toInt = (((sN σ) : Nat) : Int) := (tl_i2l (ti_nI (by omega)))
  exact hret _ _ _ dX2_isOrder_11 (by rcases w8_1 with ⟨h9, _⟩ | ⟨h9, _⟩; exact Or.inr (Or.inl (ti_inj (y := 1) h9)); exact Or.inl (ti_inj (y := 0) h9)) (by omega)

set_option maxHeartbeats 4000000 in
set_option maxRecDepth 100000 in
/-- isDay -/
theorem c_X2_isDay (l : Launch) (G : GG) (b : Nat → Nat) (μ : MP) (σ : St) (hI : SI σ) (hM : MI μ σ) (t : Int64) : RdI l yX2_isDay wsX2_isDay (rmX 1 60 0 0) G [.ref (b 0), .long t] (WM G b μ σ) (fun r => ((r.toInt = 1 ∧ ((sT σ).toInt ≤ (t).toInt ∧ (t).toInt ≤ 20000)) ∨ (r.toInt = 0 ∧ ¬ ((sT σ).toInt ≤ (t).toInt ∧ (t).toInt ≤ 20000)))) := by
  refine rd_of_i (cc := cX2_isDay) (maxL := 3) (t := .boolean) (by decide +kernel) rfl (Nat.le_of_ble_eq_true rfl) nar_bool ?_
  intro p e s m args below meth c Q hx hb hml hown hts hP hK hret ls hl
  have hown : s.vm.findClass RX2 = some m.cls := hown
  have hl : lv_has ls 3 [(0, .ref (b 0)), (1, .long t)] := hl
  have hP : va_P G.1 vwCl (MW G b 0 (nI (sN σ)) (uK μ) (uE μ) (uP μ) (uT μ) (uF μ) (uU μ) (uM μ) (uV μ) (uX μ) (sR σ) (sT σ) (uW μ) (nI (sG σ).length) (uG μ)) s.heap := hP
  obtain ⟨hI1, hI2, hI3, hI4, hI5⟩ := id hI
  have hiX2 := (show ∀ w ∈ u_ws RX2 TX2 17, w ∈ wsX2_isDay by decide +kernel)
  have lf62 := hts (.fieldLink RX2 62 "OrderRows2Model" "now" "J") (by decide +kernel)
  have kl66 := hts (.constantLong RX2 66 (20000)) (by decide +kernel)
  have cw58 := va_cwS (R := (rmX 1 60 0 0)) (s := s) (args := args) (rm := (rmX 0 0 0 0)) (mc := 0) (ms := 0) 3 hts gX2_isDay_X2_isIn rfl rfl rfl (by decide +kernel) ⟨Nat.le_of_ble_eq_true rfl, Nat.le_of_ble_eq_true rfl⟩
  refine lv_lload_n hx hb dX2_isDay_0 rfl (lv_at hl 1 rfl) ?_
  refine lv_aload_n hx hb dX2_isDay_1 rfl (lv_at hl 0 rfl) ?_
  refine va_get (D := G.1) (ci := 3) (v := .long (sT σ)) (own := RX2) (C := RX2) (T := TX2) (N := 17) hx hb hts hiX2 hown hK.1 hP 0 rfl rfl 12 (by decide) lf62 (fun _ h9 => h9) rfl dX2_isDay_2 ?_
  refine lv_ldc2 (v := 20000) hx hb hown kl66 dX2_isDay_5 ?_
  refine rdS_i (As := [.long t, .long (sT σ), .long 20000]) (rest := []) ⟨hx, hb, hml, hown, hts⟩ (c_X2_isIn l G (t : Int64) ((sT σ) : Int64) (20000 : Int64)) cw58 hK va_P.nil rfl hl.1 rfl (Nat.le_of_ble_eq_true rfl) dX2_isDay_8 ⟨Nat.zero_le _, Nat.zero_le _⟩ (fun r8_1 w8_1 => ?_)
  have w8_1 : ((r8_1.toInt = 1 ∧ ((((sT σ) : Int64)).toInt ≤ ((t : Int64)).toInt ∧ ((t : Int64)).toInt ≤ ((20000 : Int64)).toInt)) ∨ (r8_1.toInt = 0 ∧ ¬ ((((sT σ) : Int64)).toInt ≤ ((t : Int64)).toInt ∧ ((t : Int64)).toInt ≤ ((20000 : Int64)).toInt))) := w8_1
  have va2 : ((20000 : Int64)).toInt = 20000 := rfl
  exact hret _ _ _ dX2_isDay_11 (by rcases w8_1 with ⟨h9, _⟩ | ⟨h9, _⟩; exact Or.inr (Or.inl (ti_inj (y := 1) h9)); exact Or.inl (ti_inj (y := 0) h9)) (by omega)

set_option maxHeartbeats 4000000 in
set_option maxRecDepth 100000 in
/-- isForce -/
theorem c_X2_isForce (l : Launch) (G : GG) (b : Nat → Nat) (μ : MP) (σ : St) (hI : SI σ) (hM : MI μ σ) (x : Int32) (d : Int64) (i : Nat) (hi : i < sN σ) (hx1 : (x).toInt = ((i + 1 : Nat) : Int)) (hd : (d).toInt ≤ 20000) : RdI l yX2_isForce wsX2_isForce (rmX 1 60 0 0) G [.ref (b 0), .int x, .long d] (WM G b μ σ) (fun r => ((r.toInt = 1 ∧ ((oF (sO σ i)).toInt ≤ (d).toInt ∧ (d).toInt ≤ (oU (sO σ i)).toInt ∧ (d).toInt < (oX (sO σ i)).toInt)) ∨ (r.toInt = 0 ∧ ¬ ((oF (sO σ i)).toInt ≤ (d).toInt ∧ (d).toInt ≤ (oU (sO σ i)).toInt ∧ (d).toInt < (oX (sO σ i)).toInt)))) := by
  refine rd_of_i (cc := cX2_isForce) (maxL := 4) (t := .boolean) (by decide +kernel) rfl (Nat.le_of_ble_eq_true rfl) nar_bool ?_
  intro p e s m args below meth c Q hx hb hml hown hts hP hK hret ls hl
  have hown : s.vm.findClass RX2 = some m.cls := hown
  have hl : lv_has ls 4 [(0, .ref (b 0)), (1, .int x), (2, .long d)] := hl
  have hP : va_P G.1 vwCl (MW G b 0 (nI (sN σ)) (uK μ) (uE μ) (uP μ) (uT μ) (uF μ) (uU μ) (uM μ) (uV μ) (uX μ) (sR σ) (sT σ) (uW μ) (nI (sG σ).length) (uG μ)) s.heap := hP
  obtain ⟨hI1, hI2, hI3, hI4, hI5⟩ := id hI
  have hiX2 := (show ∀ w ∈ u_ws RX2 TX2 17, w ∈ wsX2_isForce by decide +kernel)
  have lf22 := hts (.fieldLink RX2 22 "OrderRows2Model" "froms" "[J") (by decide +kernel)
  have lf26 := hts (.fieldLink RX2 26 "OrderRows2Model" "untils" "[J") (by decide +kernel)
  have cw58 := va_cwS (R := (rmX 1 60 0 0)) (s := s) (args := args) (rm := (rmX 0 0 0 0)) (mc := 0) (ms := 0) 3 hts gX2_isForce_X2_isIn rfl rfl rfl (by decide +kernel) ⟨Nat.le_of_ble_eq_true rfl, Nat.le_of_ble_eq_true rfl⟩
  have lf36 := hts (.fieldLink RX2 36 "OrderRows2Model" "overs" "[J") (by decide +kernel)
  have hmo1 := hM.1 i hi
  have hxi1 : ((oX (sO σ i)).toInt = 20001 ∧ ((uX μ) (i + 1)).toInt = -1) ∨ ((oX (sO σ i)).toInt ≠ 20001 ∧ ((uX μ) (i + 1)).toInt = (oX (sO σ i)).toInt) := XI_i hmo1.2.2.2.2.2.2.2.2
  have hoi1 := hI4 i hi
  unfold OI at hoi1
  refine lv_lload_n hx hb dX2_isForce_0 rfl (lv_at hl 2 rfl) ?_
  refine lv_aload_n hx hb dX2_isForce_1 rfl (lv_at hl 0 rfl) ?_
  refine va_get (D := G.1) (ci := 3) (v := .ref (b 5)) (own := RX2) (C := RX2) (T := TX2) (N := 17) hx hb hts hiX2 hown hK.1 hP 0 rfl rfl 6 (by decide) lf22 (fun _ h9 => h9) rfl dX2_isForce_2 ?_
  refine lv_iload_n hx hb dX2_isForce_5 rfl (lv_at hl 1 rfl) ?_
  refine my_lald hx hb hK hP 5 rfl (i + 1) hx1 (by omega) dX2_isForce_6 ?_
  refine lv_aload_n hx hb dX2_isForce_7 rfl (lv_at hl 0 rfl) ?_
  refine va_get (D := G.1) (ci := 3) (v := .ref (b 6)) (own := RX2) (C := RX2) (T := TX2) (N := 17) hx hb hts hiX2 hown hK.1 hP 0 rfl rfl 7 (by decide) lf26 (fun _ h9 => h9) rfl dX2_isForce_8 ?_
  refine lv_iload_n hx hb dX2_isForce_11 rfl (lv_at hl 1 rfl) ?_
  refine my_lald hx hb hK hP 6 rfl (i + 1) hx1 (by omega) dX2_isForce_12 ?_
  refine rdS_i (As := [.long d, .long ((uF μ) (i + 1)), .long ((uU μ) (i + 1))]) (rest := []) ⟨hx, hb, hml, hown, hts⟩ (c_X2_isIn l G (d : Int64) (((uF μ) (i + 1)) : Int64) (((uU μ) (i + 1)) : Int64)) cw58 hK va_P.nil rfl hl.1 rfl (Nat.le_of_ble_eq_true rfl) dX2_isForce_13 ⟨Nat.zero_le _, Nat.zero_le _⟩ (fun r13_1 w13_1 => ?_)
  have w13_1 : ((r13_1.toInt = 1 ∧ (((((uF μ) (i + 1)) : Int64)).toInt ≤ ((d : Int64)).toInt ∧ ((d : Int64)).toInt ≤ ((((uU μ) (i + 1)) : Int64)).toInt)) ∨ (r13_1.toInt = 0 ∧ ¬ (((((uF μ) (i + 1)) : Int64)).toInt ≤ ((d : Int64)).toInt ∧ ((d : Int64)).toInt ≤ ((((uU μ) (i + 1)) : Int64)).toInt))) := w13_1
  have va2 : ((((uF μ) (i + 1)) : Int64)).toInt = (oF (sO σ i)).toInt := (congrArg Int64.toInt hmo1.2.2.2.2.1)
  have va3 : ((((uU μ) (i + 1)) : Int64)).toInt = (oU (sO σ i)).toInt := (congrArg Int64.toInt hmo1.2.2.2.2.2.1)
  refine lv_if_eq (tgt := 45) hx hb dX2_isForce_16 (by decide) (fun c16_4 => ?_) (fun c16_4 => ?_)
  · have c16_4 : (r13_1).toInt = 0 := (ti_eq (x := r13_1) (y := 0) (a := (r13_1).toInt) (b := 0) rfl rfl).mp c16_4
    refine lv_iconst (v := 0) hx hb dX2_isForce_45 (by decide) ?_
    exact hret _ _ _ dX2_isForce_46 (Or.inl rfl) (Or.inr ⟨rfl, by omega⟩)
  · have c16_4 : ¬ ((r13_1).toInt = 0) := mt (ti_eq (x := r13_1) (y := 0) (a := (r13_1).toInt) (b := 0) rfl rfl).mpr c16_4
    refine lv_aload_n hx hb dX2_isForce_19 rfl (lv_at hl 0 rfl) ?_
    refine va_get (D := G.1) (ci := 3) (v := .ref (b 9)) (own := RX2) (C := RX2) (T := TX2) (N := 17) hx hb hts hiX2 hown hK.1 hP 0 rfl rfl 10 (by decide) lf36 (fun _ h9 => h9) rfl dX2_isForce_20 ?_
    refine lv_iload_n hx hb dX2_isForce_23 rfl (lv_at hl 1 rfl) ?_
    refine my_lald hx hb hK hP 9 rfl (i + 1) hx1 (by omega) dX2_isForce_24 ?_
    refine lv_lconst (v := 0) hx hb dX2_isForce_25 rfl ?_
    refine lc_lt (tgt := 41) hx hb dX2_isForce_26 dX2_isForce_27 (by decide) (fun c26_5 => ?_) (fun c26_5 => ?_)
    · have c26_5 : (((uX μ) (i + 1))).toInt < 0 := (tl_lt (x := ((uX μ) (i + 1))) (y := 0) (a := (((uX μ) (i + 1))).toInt) (b := 0) rfl rfl).mp c26_5
      refine lv_iconst (v := 1) hx hb dX2_isForce_41 (by decide) ?_
      refine lv_goto (tgt := 46) hx hb dX2_isForce_42 (by decide) ?_
      exact hret _ _ _ dX2_isForce_46 (Or.inr (Or.inl rfl)) (Or.inl ⟨rfl, by omega⟩)
    · have c26_5 : ¬ ((((uX μ) (i + 1))).toInt < 0) := mt (tl_lt (x := ((uX μ) (i + 1))) (y := 0) (a := (((uX μ) (i + 1))).toInt) (b := 0) rfl rfl).mpr c26_5
      refine lv_lload_n hx hb dX2_isForce_30 rfl (lv_at hl 2 rfl) ?_
      refine lv_aload_n hx hb dX2_isForce_31 rfl (lv_at hl 0 rfl) ?_
      refine va_get (D := G.1) (ci := 3) (v := .ref (b 9)) (own := RX2) (C := RX2) (T := TX2) (N := 17) hx hb hts hiX2 hown hK.1 hP 0 rfl rfl 10 (by decide) lf36 (fun _ h9 => h9) rfl dX2_isForce_32 ?_
      refine lv_iload_n hx hb dX2_isForce_35 rfl (lv_at hl 1 rfl) ?_
      refine my_lald hx hb hK hP 9 rfl (i + 1) hx1 (by omega) dX2_isForce_36 ?_
      refine lc_ge (tgt := 45) hx hb dX2_isForce_37 dX2_isForce_38 (by decide) (fun c37_6 => ?_) (fun c37_6 => ?_)
      · have c37_6 : (((uX μ) (i + 1))).toInt ≤ (d).toInt := (tl_le (x := ((uX μ) (i + 1))) (y := d) (a := (((uX μ) (i + 1))).toInt) (b := (d).toInt) rfl rfl).mp c37_6
        refine lv_iconst (v := 0) hx hb dX2_isForce_45 (by decide) ?_
        exact hret _ _ _ dX2_isForce_46 (Or.inl rfl) (Or.inr ⟨rfl, by omega⟩)
      · have c37_6 : ¬ ((((uX μ) (i + 1))).toInt ≤ (d).toInt) := mt (tl_le (x := ((uX μ) (i + 1))) (y := d) (a := (((uX μ) (i + 1))).toInt) (b := (d).toInt) rfl rfl).mpr c37_6
        refine lv_iconst (v := 1) hx hb dX2_isForce_41 (by decide) ?_
        refine lv_goto (tgt := 46) hx hb dX2_isForce_42 (by decide) ?_
        exact hret _ _ _ dX2_isForce_46 (Or.inr (Or.inl rfl)) (Or.inl ⟨rfl, by omega⟩)

set_option maxHeartbeats 4000000 in
set_option maxRecDepth 100000 in
/-- set -/
theorem c_X2_set (l : Launch) (G : GG) (b : Nat → Nat) (μ : MP) (σ : St) (hI : SI σ) (hM : MI μ σ) (t : Int64) (hc : clk σ t) : WrI l yX2_set wsX2_set (rmX 1 60 0 0) G [.ref (b 0), .long t] (WM G b μ σ) (fun (r : Int32) (u : (Nat → Int64)) => r = nI (cntL σ t.toInt (sN σ)) ∧ MI (mX μ u) (mvS σ t)) (fun u : (Nat → Int64) => WM G b (mX μ u) (mvS σ t)) 0 0 := by
  refine wr_of_i (cc := cX2_set) (maxL := 5) (t := .int) (by decide +kernel) rfl (Nat.le_of_ble_eq_true rfl) nar_int ?_
  intro p e s m args below meth c Q A hx hb hml hown hts hK hZ hA hret ls hl hP hD hS
  have hown : s.vm.findClass RX2 = some m.cls := hown
  have hl : lv_has ls 5 [(0, .ref (b 0)), (1, .long t)] := hl
  have hP : va_P G.1 vwCl (MW G b 0 (nI (sN σ)) (uK μ) (uE μ) (uP μ) (uT μ) (uF μ) (uU μ) (uM μ) (uV μ) (uX μ) (sR σ) (sT σ) (uW μ) (nI (sG σ).length) (uG μ)) s.heap := hP
  have hD : va_D A (MW G b 0 (nI (sN σ)) (uK μ) (uE μ) (uP μ) (uT μ) (uF μ) (uU μ) (uM μ) (uV μ) (uX μ) (sR σ) (sT σ) (uW μ) (nI (sG σ).length) (uG μ)) := hD
  obtain ⟨hI1, hI2, hI3, hI4, hI5⟩ := id hI
  have hc2 := hc.2.1
  have hiX2 := (show ∀ w ∈ u_ws RX2 TX2 17, w ∈ wsX2_set by decide +kernel)
  have lf62 := hts (.fieldLink RX2 62 "OrderRows2Model" "now" "J") (by decide +kernel)
  have lf55 := hts (.fieldLink RX2 55 "OrderRows2Model" "orders" "I") (by decide +kernel)
  have lf32 := hts (.fieldLink RX2 32 "OrderRows2Model" "proved" "[Z") (by decide +kernel)
  have lf36 := hts (.fieldLink RX2 36 "OrderRows2Model" "overs" "[J") (by decide +kernel)
  have lf29 := hts (.fieldLink RX2 29 "OrderRows2Model" "made" "[J") (by decide +kernel)
  have kl76 := hts (.constantLong RX2 76 (14)) (by decide +kernel)
  have kl78 := hts (.constantLong RX2 78 (15)) (by decide +kernel)
  refine lv_aload_n hx hb dX2_set_0 rfl (lv_at hl 0 rfl) ?_
  refine lv_lload_n hx hb dX2_set_1 rfl (lv_at hl 1 rfl) ?_
  refine va_put (D := G.1) (ci := 3) (v := .long t) (ty := .long) (own := RX2) (C := RX2) (T := TX2) (N := 17) hx hb hts hiX2 tyX2 tyX2_ok nmX2 hown hK.1 hP hD hS 0 rfl rfl 12 (by decide) lf62 (fun _ h9 => h9) rfl (by decide +kernel) rfl rfl (Nat.le_of_ble_eq_true rfl) dX2_set_2 (fun H locs hP hD hS => ?_)
  have hP : va_P G.1 vwCl (MW G b 0 (nI (sN σ)) (uK μ) (uE μ) (uP μ) (uT μ) (uF μ) (uU μ) (uM μ) (uV μ) (uX μ) (sR σ) t (uW μ) (nI (sG σ).length) (uG μ)) H := hP
  have hD : va_D A (MW G b 0 (nI (sN σ)) (uK μ) (uE μ) (uP μ) (uT μ) (uF μ) (uU μ) (uM μ) (uV μ) (uX μ) (sR σ) t (uW μ) (nI (sG σ).length) (uG μ)) := hD
  refine lv_iconst (v := 0) hx hb dX2_set_5 (by decide) ?_
  refine lv_istore_n (lv' := [(3, .int 0), (0, .ref (b 0)), (1, .long t)]) hx hb dX2_set_6 rfl hl (by decide) rfl (fun ls hl => ?_)
  refine lv_iconst (v := 1) hx hb dX2_set_7 (by decide) ?_
  refine lv_istore (lv' := [(4, .int 1), (3, .int 0), (0, .ref (b 0)), (1, .long t)]) hx hb dX2_set_8 hl (by decide) rfl (fun ls hl => ?_)
  have loop10 : ∀ (fu : Nat) (i : Nat) (x4 x3 : Int32) (g : Nat → Int64), sN σ < i + fu → i ≤ sN σ → x4.toInt = ((i + 1 : Nat) : Int) → x3.toInt = ((cntL σ t.toInt i : Nat) : Int) → (∀ j, j < sN σ → XI (oX (mvO σ t.toInt i j)) (g (j + 1))) → ∀ (H : Heap) (locs : List Loc), va_P G.1 vwCl (MW G b 0 (nI (sN σ)) (uK μ) (uE μ) (uP μ) (uT μ) (uF μ) (uU μ) (uM μ) (uV μ) g (sR σ) t (uW μ) (nI (sG σ).length) (uG μ)) H → va_D A (MW G b 0 (nI (sN σ)) (uK μ) (uE μ) (uP μ) (uT μ) (uF μ) (uU μ) (uM μ) (uV μ) g (sR σ) t (uW μ) (nI (sG σ).length) (uG μ)) → va_S A s.heap H locs → ∀ ls : Array Slot, lv_has ls 5 [(4, .int x4), (3, .int x3), (0, .ref (b 0)), (1, .long t)] → W p l e (rmX 1 60 0 0) s m args below meth c H locs 0 0 Q (F0 m 10 ls []) := by
    intro fu
    induction fu with
    | zero =>
      intro i x4 x3 g hfu hin e4 e3 hg
      exact absurd hfu (by omega)
    | succ fu ih10 =>
      intro i x4 x3 g hfu hin e4 e3 hg H locs hP hD hS ls hl
      have hcl := cntL_le (σ := σ) (t := t.toInt) i
      refine lv_iload hx hb dX2_set_10 (lv_at hl 0 rfl) ?_
      refine lv_aload_n hx hb dX2_set_12 rfl (lv_at hl 2 rfl) ?_
      refine va_get (D := G.1) (ci := 3) (v := .int (nI (sN σ))) (own := RX2) (C := RX2) (T := TX2) (N := 17) hx hb hts hiX2 hown hK.1 hP 0 rfl rfl 1 (by decide) lf55 (fun _ h9 => h9) rfl dX2_set_13 ?_
      refine lv_icmp_gt (tgt := 84) hx hb dX2_set_16 (by decide) (fun c16_1 => ?_) (fun c16_1 => ?_)
      · have c16_1 : (((sN σ) : Nat) : Int) < (((i + 1) : Nat) : Int) := (ti_lt (x := (nI (sN σ))) (y := x4) (a := (((sN σ) : Nat) : Int)) (b := (((i + 1) : Nat) : Int)) (ti_nI (by omega)) e4).mp c16_1
        refine lv_iload_n hx hb dX2_set_84 rfl (lv_at hl 1 rfl) ?_
        obtain rfl : i = sN σ := by omega
        exact hret _ _ _ _ _ _ _ g dX2_set_85 (Or.inr (Or.inr rfl)) ⟨nI_ofI e3, MI_mv hM hg⟩ hP hD hS (Nat.le_refl _) (Nat.le_refl _)
      · have c16_1 : ¬ ((((sN σ) : Nat) : Int) < (((i + 1) : Nat) : Int)) := mt (ti_lt (x := (nI (sN σ))) (y := x4) (a := (((sN σ) : Nat) : Int)) (b := (((i + 1) : Nat) : Int)) (ti_nI (by omega)) e4).mpr c16_1
        have hi : i < sN σ := by omega
        have hgi := hg i hi
        rw [mvO_at] at hgi
        have hgj := XI_i hgi
        have hmo1 := hM.1 i hi
        have hxi1 : ((oX (sO σ i)).toInt = 20001 ∧ ((uX μ) (i + 1)).toInt = -1) ∨ ((oX (sO σ i)).toInt ≠ 20001 ∧ ((uX μ) (i + 1)).toInt = (oX (sO σ i)).toInt) := XI_i hmo1.2.2.2.2.2.2.2.2
        have hoi1 := hI4 i hi
        unfold OI at hoi1
        refine lv_aload_n hx hb dX2_set_19 rfl (lv_at hl 2 rfl) ?_
        refine va_get (D := G.1) (ci := 3) (v := .ref (b 8)) (own := RX2) (C := RX2) (T := TX2) (N := 17) hx hb hts hiX2 hown hK.1 hP 0 rfl rfl 9 (by decide) lf32 (fun _ h9 => h9) rfl dX2_set_20 ?_
        refine lv_iload hx hb dX2_set_23 (lv_at hl 0 rfl) ?_
        refine my_zald hx hb hK hP 8 rfl (i + 1) e4 (by omega) dX2_set_25 ?_
        refine lv_if_ne (tgt := 78) hx hb dX2_set_26 (by decide) (fun c26_2 => ?_) (fun c26_2 => ?_)
        · have c26_2 : ¬ ((oP (sO σ i)).toInt = 0) := mt (ti_eq (x := ((uV μ) (i + 1))) (y := 0) (a := (oP (sO σ i)).toInt) (b := 0) (congrArg Int32.toInt hmo1.2.2.2.2.2.2.2.1) rfl).mpr c26_2
          obtain ⟨x78_3, e78_3⟩ : ∃ y : Int32, y = x4 + 1 := ⟨_, rfl⟩
          have v78_3 : (x78_3).toInt = ((((i + 1) + 1) : Nat) : Int) := by rw [e78_3]; exact (ti_add (a := (((i + 1) : Nat) : Int)) (b := 1) e4 rfl (by omega) (by omega)).trans (by omega)
          refine lv_iinc (v := x78_3) (lv' := [(4, .int x78_3), (3, .int x3), (0, .ref (b 0)), (1, .long t)]) hx hb dX2_set_78 hl (k := 0) rfl (by rw [e78_3]; rfl) (by decide) rfl (fun ls hl => ?_)
          refine lv_goto (tgt := 10) hx hb dX2_set_81 (by decide) ?_
          have hcn := cntL_n (σ := σ) (t := t.toInt) (k := i) (by omega)
          have hg2 : ∀ j, j < sN σ → XI (oX (mvO σ t.toInt (i + 1) j)) (g (j + 1)) := fun j hj => by
            by_cases ej : j = i
            · subst ej
              rw [mvO_in, lap1_n (t := t.toInt) (o := sO σ j) (by omega)]
              exact hgi
            · rw [mvO_ne ej]; exact hg j hj
          exact ih10 (i + 1) x78_3 x3 g (by omega) (by omega) v78_3 (e3.trans (by omega)) hg2 _ _ hP hD hS ls (lv_sub hl [0, 1, 2, 3] rfl)
        · have c26_2 : (oP (sO σ i)).toInt = 0 := (ti_eq (x := ((uV μ) (i + 1))) (y := 0) (a := (oP (sO σ i)).toInt) (b := 0) (congrArg Int32.toInt hmo1.2.2.2.2.2.2.2.1) rfl).mp c26_2
          refine lv_aload_n hx hb dX2_set_29 rfl (lv_at hl 2 rfl) ?_
          refine va_get (D := G.1) (ci := 3) (v := .ref (b 9)) (own := RX2) (C := RX2) (T := TX2) (N := 17) hx hb hts hiX2 hown hK.1 hP 0 rfl rfl 10 (by decide) lf36 (fun _ h9 => h9) rfl dX2_set_30 ?_
          refine lv_iload hx hb dX2_set_33 (lv_at hl 0 rfl) ?_
          refine my_lald hx hb hK hP 9 rfl (i + 1) e4 (by omega) dX2_set_35 ?_
          refine lv_lconst (v := 0) hx hb dX2_set_36 rfl ?_
          refine lc_ge (tgt := 78) hx hb dX2_set_37 dX2_set_38 (by decide) (fun c37_4 => ?_) (fun c37_4 => ?_)
          · have c37_4 : 0 ≤ ((g (i + 1))).toInt := (tl_le (x := 0) (y := (g (i + 1))) (a := 0) (b := ((g (i + 1))).toInt) rfl rfl).mp c37_4
            obtain ⟨x78_5, e78_5⟩ : ∃ y : Int32, y = x4 + 1 := ⟨_, rfl⟩
            have v78_5 : (x78_5).toInt = ((((i + 1) + 1) : Nat) : Int) := by rw [e78_5]; exact (ti_add (a := (((i + 1) : Nat) : Int)) (b := 1) e4 rfl (by omega) (by omega)).trans (by omega)
            refine lv_iinc (v := x78_5) (lv' := [(4, .int x78_5), (3, .int x3), (0, .ref (b 0)), (1, .long t)]) hx hb dX2_set_78 hl (k := 0) rfl (by rw [e78_5]; rfl) (by decide) rfl (fun ls hl => ?_)
            refine lv_goto (tgt := 10) hx hb dX2_set_81 (by decide) ?_
            have hcn := cntL_n (σ := σ) (t := t.toInt) (k := i) (by omega)
            have hg2 : ∀ j, j < sN σ → XI (oX (mvO σ t.toInt (i + 1) j)) (g (j + 1)) := fun j hj => by
              by_cases ej : j = i
              · subst ej
                rw [mvO_in, lap1_n (t := t.toInt) (o := sO σ j) (by omega)]
                exact hgi
              · rw [mvO_ne ej]; exact hg j hj
            exact ih10 (i + 1) x78_5 x3 g (by omega) (by omega) v78_5 (e3.trans (by omega)) hg2 _ _ hP hD hS ls (lv_sub hl [0, 1, 2, 3] rfl)
          · have c37_4 : ¬ (0 ≤ ((g (i + 1))).toInt) := mt (tl_le (x := 0) (y := (g (i + 1))) (a := 0) (b := ((g (i + 1))).toInt) rfl rfl).mpr c37_4
            refine lv_lload_n hx hb dX2_set_41 rfl (lv_at hl 3 rfl) ?_
            refine lv_aload_n hx hb dX2_set_42 rfl (lv_at hl 2 rfl) ?_
            refine va_get (D := G.1) (ci := 3) (v := .ref (b 7)) (own := RX2) (C := RX2) (T := TX2) (N := 17) hx hb hts hiX2 hown hK.1 hP 0 rfl rfl 8 (by decide) lf29 (fun _ h9 => h9) rfl dX2_set_43 ?_
            refine lv_iload hx hb dX2_set_46 (lv_at hl 0 rfl) ?_
            refine my_lald hx hb hK hP 7 rfl (i + 1) e4 (by omega) dX2_set_48 ?_
            refine lv_lsub hx hb dX2_set_49 ?_
            refine lv_topl (fun y49_6 e49_6 => ?_)
            have v49_6 : (y49_6).toInt = ((t).toInt - (oM (sO σ i)).toInt) := by rw [e49_6]; exact tl_sub (a := (t).toInt) (b := (oM (sO σ i)).toInt) rfl (congrArg Int64.toInt hmo1.2.2.2.2.2.2.1) (by omega) (by omega)
            refine lv_ldc2 (v := 14) hx hb hown kl76 dX2_set_50 ?_
            refine lc_le (tgt := 78) hx hb dX2_set_53 dX2_set_54 (by decide) (fun c53_7 => ?_) (fun c53_7 => ?_)
            · have c53_7 : ((t).toInt - (oM (sO σ i)).toInt) ≤ 14 := (tl_le (x := y49_6) (y := 14) (a := ((t).toInt - (oM (sO σ i)).toInt)) (b := 14) v49_6 rfl).mp c53_7
              obtain ⟨x78_8, e78_8⟩ : ∃ y : Int32, y = x4 + 1 := ⟨_, rfl⟩
              have v78_8 : (x78_8).toInt = ((((i + 1) + 1) : Nat) : Int) := by rw [e78_8]; exact (ti_add (a := (((i + 1) : Nat) : Int)) (b := 1) e4 rfl (by omega) (by omega)).trans (by omega)
              refine lv_iinc (v := x78_8) (lv' := [(4, .int x78_8), (3, .int x3), (0, .ref (b 0)), (1, .long t)]) hx hb dX2_set_78 hl (k := 0) rfl (by rw [e78_8]; rfl) (by decide) rfl (fun ls hl => ?_)
              refine lv_goto (tgt := 10) hx hb dX2_set_81 (by decide) ?_
              have hcn := cntL_n (σ := σ) (t := t.toInt) (k := i) (by omega)
              have hg2 : ∀ j, j < sN σ → XI (oX (mvO σ t.toInt (i + 1) j)) (g (j + 1)) := fun j hj => by
                by_cases ej : j = i
                · subst ej
                  rw [mvO_in, lap1_n (t := t.toInt) (o := sO σ j) (by omega)]
                  exact hgi
                · rw [mvO_ne ej]; exact hg j hj
              exact ih10 (i + 1) x78_8 x3 g (by omega) (by omega) v78_8 (e3.trans (by omega)) hg2 _ _ hP hD hS ls (lv_sub hl [0, 1, 2, 3] rfl)
            · have c53_7 : ¬ (((t).toInt - (oM (sO σ i)).toInt) ≤ 14) := mt (tl_le (x := y49_6) (y := 14) (a := ((t).toInt - (oM (sO σ i)).toInt)) (b := 14) v49_6 rfl).mpr c53_7
              refine lv_aload_n hx hb dX2_set_57 rfl (lv_at hl 2 rfl) ?_
              refine va_get (D := G.1) (ci := 3) (v := .ref (b 9)) (own := RX2) (C := RX2) (T := TX2) (N := 17) hx hb hts hiX2 hown hK.1 hP 0 rfl rfl 10 (by decide) lf36 (fun _ h9 => h9) rfl dX2_set_58 ?_
              refine lv_iload hx hb dX2_set_61 (lv_at hl 0 rfl) ?_
              refine lv_aload_n hx hb dX2_set_63 rfl (lv_at hl 2 rfl) ?_
              refine va_get (D := G.1) (ci := 3) (v := .ref (b 7)) (own := RX2) (C := RX2) (T := TX2) (N := 17) hx hb hts hiX2 hown hK.1 hP 0 rfl rfl 8 (by decide) lf29 (fun _ h9 => h9) rfl dX2_set_64 ?_
              refine lv_iload hx hb dX2_set_67 (lv_at hl 0 rfl) ?_
              refine my_lald hx hb hK hP 7 rfl (i + 1) e4 (by omega) dX2_set_69 ?_
              refine lv_ldc2 (v := 15) hx hb hown kl78 dX2_set_70 ?_
              refine lv_ladd hx hb dX2_set_73 ?_
              refine lv_topl (fun y73_9 e73_9 => ?_)
              have v73_9 : (y73_9).toInt = ((oM (sO σ i)).toInt + 15) := by rw [e73_9]; exact tl_add (a := (oM (sO σ i)).toInt) (b := 15) (congrArg Int64.toInt hmo1.2.2.2.2.2.2.1) rfl (by omega) (by omega)
              have e15a : (oM (sO σ i) + 15 : Int64).toInt = (oM (sO σ i)).toInt + 15 := tl_add rfl rfl (by omega) (by omega)
              have e15 : y73_9 = oM (sO σ i) + 15 := tl_inj (by rw [v73_9, e15a])
              have v15 := v73_9
              refine my_last hx hb hK hP hD hS 9 rfl (x := y73_9) (i + 1) e4 (by omega) dX2_set_74 (fun H locs hP hD hS => ?_)
              have hP : va_P G.1 vwCl (MW G b 0 (nI (sN σ)) (uK μ) (uE μ) (uP μ) (uT μ) (uF μ) (uU μ) (uM μ) (uV μ) (vp_updL g (i + 1) y73_9) (sR σ) t (uW μ) (nI (sG σ).length) (uG μ)) H := hP
              have hD : va_D A (MW G b 0 (nI (sN σ)) (uK μ) (uE μ) (uP μ) (uT μ) (uF μ) (uU μ) (uM μ) (uV μ) (vp_updL g (i + 1) y73_9) (sR σ) t (uW μ) (nI (sG σ).length) (uG μ)) := hD
              obtain ⟨x75_10, e75_10⟩ : ∃ y : Int32, y = x3 + 1 := ⟨_, rfl⟩
              have v75_10 : (x75_10).toInt = ((((cntL σ t.toInt i) + 1) : Nat) : Int) := by rw [e75_10]; exact (ti_add (a := (((cntL σ t.toInt i) : Nat) : Int)) (b := 1) e3 rfl (by omega) (by omega)).trans (by omega)
              refine lv_iinc (v := x75_10) (lv' := [(3, .int x75_10), (4, .int x4), (0, .ref (b 0)), (1, .long t)]) hx hb dX2_set_75 hl (k := 1) rfl (by rw [e75_10]; rfl) (by decide) rfl (fun ls hl => ?_)
              obtain ⟨x78_11, e78_11⟩ : ∃ y : Int32, y = x4 + 1 := ⟨_, rfl⟩
              have v78_11 : (x78_11).toInt = ((((i + 1) + 1) : Nat) : Int) := by rw [e78_11]; exact (ti_add (a := (((i + 1) : Nat) : Int)) (b := 1) e4 rfl (by omega) (by omega)).trans (by omega)
              refine lv_iinc (v := x78_11) (lv' := [(4, .int x78_11), (3, .int x75_10), (0, .ref (b 0)), (1, .long t)]) hx hb dX2_set_78 hl (k := 1) rfl (by rw [e78_11]; rfl) (by decide) rfl (fun ls hl => ?_)
              refine lv_goto (tgt := 10) hx hb dX2_set_81 (by decide) ?_
              have hcn := cntL_y (σ := σ) (t := t.toInt) (k := i) (by omega)
              have hg2 : ∀ j, j < sN σ → XI (oX (mvO σ t.toInt (i + 1) j)) ((vp_updL g (i + 1) y73_9) (j + 1)) := fun j hj => by
                by_cases ej : j = i
                · subst ej
                  rw [mvO_in, lap1_y (t := t.toInt) (o := sO σ j) (by omega) e15, pk_uLs]
                  exact Or.inr ⟨by show (y73_9).toInt ≠ 20001; omega, rfl⟩
                · rw [mvO_ne ej, pk_uLn (by omega)]; exact hg j hj
              exact ih10 (i + 1) x78_11 x75_10 (vp_updL g (i + 1) y73_9) (by omega) (by omega) v78_11 (v75_10.trans (by omega)) hg2 _ _ hP hD hS ls (lv_sub hl [0, 1, 2, 3] rfl)
  exact loop10 (sN σ + 1) 0 1 0 (uX μ) (by omega) (Nat.zero_le _) rfl rfl (fun j hj => by rw [mvO_0]; exact (hM.1 j hj).2.2.2.2.2.2.2.2) _ _ hP hD hS ls (lv_sub hl [0, 1, 2, 3] rfl)

set_option maxHeartbeats 4000000 in
set_option maxRecDepth 100000 in
/-- tick -/
theorem c_X2_tick (l : Launch) (G : GG) (b : Nat → Nat) (μ : MP) (σ : St) (hI : SI σ) (hM : MI μ σ) (t : Int64) : WrI l yX2_tick wsX2_tick (rmX 2 90 0 0) G [.ref (b 0), .long t] (WM G b μ σ) (fun (r : Int32) (u : MP) => r = (fTick σ t).1 ∧ MI u (fTick σ t).2) (fun u : MP => WM G b u (fTick σ t).2) 0 0 := by
  refine wr_of_i (cc := cX2_tick) (maxL := 3) (t := .int) (by decide +kernel) rfl (Nat.le_of_ble_eq_true rfl) nar_int ?_
  intro p e s m args below meth c Q A hx hb hml hown hts hK hZ hA hret ls hl hP hD hS
  have hown : s.vm.findClass RX2 = some m.cls := hown
  have hl : lv_has ls 3 [(0, .ref (b 0)), (1, .long t)] := hl
  have hP : va_P G.1 vwCl (MW G b 0 (nI (sN σ)) (uK μ) (uE μ) (uP μ) (uT μ) (uF μ) (uU μ) (uM μ) (uV μ) (uX μ) (sR σ) (sT σ) (uW μ) (nI (sG σ).length) (uG μ)) s.heap := hP
  have hD : va_D A (MW G b 0 (nI (sN σ)) (uK μ) (uE μ) (uP μ) (uT μ) (uF μ) (uU μ) (uM μ) (uV μ) (uX μ) (sR σ) (sT σ) (uW μ) (nI (sG σ).length) (uG μ)) := hD
  obtain ⟨hI1, hI2, hI3, hI4, hI5⟩ := id hI
  have hiX2 := (show ∀ w ∈ u_ws RX2 TX2 17, w ∈ wsX2_tick by decide +kernel)
  have lf52 := hts (.fieldLink RX2 52 "OrderRows2Model" "thrown" "I") (by decide +kernel)
  have cw84 := cwV (R := (rmX 2 90 0 0)) (s := s) (args := args) (rm := (rmX 1 60 0 0)) (mc := 0) (ms := 0) 1 hts gX2_tick_X2_isDay rfl rfl rfl (by decide +kernel) ⟨Nat.le_of_ble_eq_true rfl, Nat.le_of_ble_eq_true rfl⟩
  have cw88 := cwV (R := (rmX 2 90 0 0)) (s := s) (args := args) (rm := (rmX 1 60 0 0)) (mc := 0) (ms := 0) 1 hts gX2_tick_X2_set rfl rfl rfl (by decide +kernel) ⟨Nat.le_of_ble_eq_true rfl, Nat.le_of_ble_eq_true rfl⟩
  refine lv_aload_n hx hb dX2_tick_0 rfl (lv_at hl 0 rfl) ?_
  refine lv_iconst (v := 0) hx hb dX2_tick_1 (by decide) ?_
  refine va_put (D := G.1) (ci := 3) (v := .int 0) (ty := .int) (own := RX2) (C := RX2) (T := TX2) (N := 17) hx hb hts hiX2 tyX2 tyX2_ok nmX2 hown hK.1 hP hD hS 0 rfl rfl 0 (by decide) lf52 (fun _ h9 => h9) rfl (by decide +kernel) rfl rfl (Nat.le_of_ble_eq_true rfl) dX2_tick_2 (fun H locs hP hD hS => ?_)
  have hP : va_P G.1 vwCl (MW G b 0 (nI (sN σ)) (uK μ) (uE μ) (uP μ) (uT μ) (uF μ) (uU μ) (uM μ) (uV μ) (uX μ) (sR σ) (sT σ) (uW μ) (nI (sG σ).length) (uG μ)) H := hP
  have hD : va_D A (MW G b 0 (nI (sN σ)) (uK μ) (uE μ) (uP μ) (uT μ) (uF μ) (uU μ) (uM μ) (uV μ) (uX μ) (sR σ) (sT σ) (uW μ) (nI (sG σ).length) (uG μ)) := hD
  refine lv_aload_n hx hb dX2_tick_5 rfl (lv_at hl 0 rfl) ?_
  refine lv_lload_n hx hb dX2_tick_6 rfl (lv_at hl 1 rfl) ?_
  refine rdV_i (b := b 0) (As := [.long t]) (rest := []) ⟨hx, hb, hml, hown, hts⟩ (c_X2_isDay l G b μ σ hI hM t) cw84 hK hP 3 rfl rfl rfl rfl hl.1 rfl (Nat.le_of_ble_eq_true rfl) dX2_tick_7 ⟨Nat.zero_le _, Nat.zero_le _⟩ (fun r7_1 w7_1 => ?_)
  have w7_1 : ((r7_1.toInt = 1 ∧ ((sT σ).toInt ≤ t.toInt ∧ t.toInt ≤ 20000)) ∨ (r7_1.toInt = 0 ∧ ¬ ((sT σ).toInt ≤ t.toInt ∧ t.toInt ≤ 20000))) := w7_1
  refine lv_if_eq (tgt := 21) hx hb dX2_tick_10 (by decide) (fun c10_2 => ?_) (fun c10_2 => ?_)
  · have c10_2 : (r7_1).toInt = 0 := (ti_eq (x := r7_1) (y := 0) (a := (r7_1).toInt) (b := 0) rfl rfl).mp c10_2
    refine lv_bipush (v := (-102)) hx hb dX2_tick_21 (by decide) ?_
    have hF : fTick σ t = ((-102), σ) := if_pos (by show ¬ (0 ≤ t.toInt ∧ t.toInt ≤ 20000 ∧ (sT σ).toInt ≤ t.toInt); omega)
    exact hret _ _ _ _ _ _ _ μ dX2_tick_23 (Or.inr (Or.inr rfl)) (by rw [hF]; exact ⟨rfl, hM⟩) (by rw [hF]; exact hP) (by rw [hF]; exact hD) hS (Nat.le_refl _) (Nat.le_refl _)
  · have c10_2 : ¬ ((r7_1).toInt = 0) := mt (ti_eq (x := r7_1) (y := 0) (a := (r7_1).toInt) (b := 0) rfl rfl).mpr c10_2
    refine lv_aload_n hx hb dX2_tick_13 rfl (lv_at hl 0 rfl) ?_
    refine lv_lload_n hx hb dX2_tick_14 rfl (lv_at hl 1 rfl) ?_
    have hck : clk σ t := by show 0 ≤ t.toInt ∧ t.toInt ≤ 20000 ∧ (sT σ).toInt ≤ t.toInt; omega
    refine wrV_i (wr := []) (b := b 0) (As := [.long t]) (rest := []) ⟨hx, hb, hml, hown, hts⟩ (c_X2_set l G b μ σ hI hM t hck) cw88 hK hZ hP hD hS hA 3 rfl rfl rfl rfl hl.1 rfl (Nat.le_of_ble_eq_true rfl) dX2_tick_15 ⟨Nat.zero_le _, Nat.zero_le _⟩ (fun r3 g H locs w3 hP hD hS => ?_)
    obtain ⟨w3, hM1⟩ := w3
    have hP : va_P G.1 vwCl (MW G b 0 (nI (sN σ)) (uK μ) (uE μ) (uP μ) (uT μ) (uF μ) (uU μ) (uM μ) (uV μ) g (sR σ) t (uW μ) (nI (sG σ).length) (uG μ)) H := hP
    have hD : va_D A (MW G b 0 (nI (sN σ)) (uK μ) (uE μ) (uP μ) (uT μ) (uF μ) (uU μ) (uM μ) (uV μ) g (sR σ) t (uW μ) (nI (sG σ).length) (uG μ)) := hD
    refine lv_goto (tgt := 23) hx hb dX2_tick_18 (by decide) ?_
    rw [w3]
    have hF : fTick σ t = (nI (cntL σ t.toInt (sN σ)), mvS σ t) := if_neg (fun h9 => h9 hck)
    exact hret _ _ _ _ _ _ _ (mX μ g) dX2_tick_23 (Or.inr (Or.inr rfl)) (by rw [hF]; exact ⟨rfl, hM1⟩) (by rw [hF]; exact hP) (by rw [hF]; exact hD) hS (Nat.le_refl _) (Nat.le_refl _)

set_option maxHeartbeats 4000000 in
set_option maxRecDepth 100000 in
/-- rank -/
theorem c_X2_rank (l : Launch) (G : GG) (b : Nat → Nat) (μ : MP) (σ : St) (hI : SI σ) (hM : MI μ σ) (k q : Int32) : WrI l yX2_rank wsX2_rank (rmX 1 60 0 0) G [.ref (b 0), .int k, .int q] (WM G b μ σ) (fun (r : Int32) (u : MP) => r = (fRank σ k q).1 ∧ MI u (fRank σ k q).2) (fun u : MP => WM G b u (fRank σ k q).2) 0 0 := by
  refine wr_of_i (cc := cX2_rank) (maxL := 4) (t := .int) (by decide +kernel) rfl (Nat.le_of_ble_eq_true rfl) nar_int ?_
  intro p e s m args below meth c Q A hx hb hml hown hts hK hZ hA hret ls hl hP hD hS
  have hown : s.vm.findClass RX2 = some m.cls := hown
  have hl : lv_has ls 4 [(0, .ref (b 0)), (1, .int k), (2, .int q)] := hl
  have hP : va_P G.1 vwCl (MW G b 0 (nI (sN σ)) (uK μ) (uE μ) (uP μ) (uT μ) (uF μ) (uU μ) (uM μ) (uV μ) (uX μ) (sR σ) (sT σ) (uW μ) (nI (sG σ).length) (uG μ)) s.heap := hP
  have hD : va_D A (MW G b 0 (nI (sN σ)) (uK μ) (uE μ) (uP μ) (uT μ) (uF μ) (uU μ) (uM μ) (uV μ) (uX μ) (sR σ) (sT σ) (uW μ) (nI (sG σ).length) (uG μ)) := hD
  obtain ⟨hI1, hI2, hI3, hI4, hI5⟩ := id hI
  have hiX2 := (show ∀ w ∈ u_ws RX2 TX2 17, w ∈ wsX2_rank by decide +kernel)
  have lf52 := hts (.fieldLink RX2 52 "OrderRows2Model" "thrown" "I") (by decide +kernel)
  have kl74 := hts (.constantLong RX2 74 (8)) (by decide +kernel)
  have cw58 := va_cwS (R := (rmX 1 60 0 0)) (s := s) (args := args) (rm := (rmX 0 0 0 0)) (mc := 0) (ms := 0) 3 hts gX2_rank_X2_isIn rfl rfl rfl (by decide +kernel) ⟨Nat.le_of_ble_eq_true rfl, Nat.le_of_ble_eq_true rfl⟩
  have kl102 := hts (.constantLong RX2 102 (100)) (by decide +kernel)
  have lf39 := hts (.fieldLink RX2 39 "OrderRows2Model" "ranks" "[I") (by decide +kernel)
  refine lv_aload_n hx hb dX2_rank_0 rfl (lv_at hl 0 rfl) ?_
  refine lv_iconst (v := 0) hx hb dX2_rank_1 (by decide) ?_
  refine va_put (D := G.1) (ci := 3) (v := .int 0) (ty := .int) (own := RX2) (C := RX2) (T := TX2) (N := 17) hx hb hts hiX2 tyX2 tyX2_ok nmX2 hown hK.1 hP hD hS 0 rfl rfl 0 (by decide) lf52 (fun _ h9 => h9) rfl (by decide +kernel) rfl rfl (Nat.le_of_ble_eq_true rfl) dX2_rank_2 (fun H locs hP hD hS => ?_)
  have hP : va_P G.1 vwCl (MW G b 0 (nI (sN σ)) (uK μ) (uE μ) (uP μ) (uT μ) (uF μ) (uU μ) (uM μ) (uV μ) (uX μ) (sR σ) (sT σ) (uW μ) (nI (sG σ).length) (uG μ)) H := hP
  have hD : va_D A (MW G b 0 (nI (sN σ)) (uK μ) (uE μ) (uP μ) (uT μ) (uF μ) (uU μ) (uM μ) (uV μ) (uX μ) (sR σ) (sT σ) (uW μ) (nI (sG σ).length) (uG μ)) := hD
  refine lv_iload_n hx hb dX2_rank_5 rfl (lv_at hl 1 rfl) ?_
  refine lv_i2l hx hb dX2_rank_6 rfl ?_
  refine lv_lconst (v := 0) hx hb dX2_rank_7 rfl ?_
  refine lv_ldc2 (v := 8) hx hb hown kl74 dX2_rank_8 ?_
  refine rdS_i (As := [.long ((k).toInt64), .long 0, .long 8]) (rest := []) ⟨hx, hb, hml, hown, hts⟩ (c_X2_isIn l G ((k).toInt64 : Int64) (0 : Int64) (8 : Int64)) cw58 hK va_P.nil rfl hl.1 rfl (Nat.le_of_ble_eq_true rfl) dX2_rank_11 ⟨Nat.zero_le _, Nat.zero_le _⟩ (fun r11_1 w11_1 => ?_)
  have w11_1 : ((r11_1.toInt = 1 ∧ (((0 : Int64)).toInt ≤ (((k).toInt64 : Int64)).toInt ∧ (((k).toInt64 : Int64)).toInt ≤ ((8 : Int64)).toInt)) ∨ (r11_1.toInt = 0 ∧ ¬ (((0 : Int64)).toInt ≤ (((k).toInt64 : Int64)).toInt ∧ (((k).toInt64 : Int64)).toInt ≤ ((8 : Int64)).toInt))) := w11_1
  have va2 : (((k).toInt64 : Int64)).toInt = (k).toInt := (tl_i2l rfl)
  have va3 : ((0 : Int64)).toInt = 0 := rfl
  have va4 : ((8 : Int64)).toInt = 8 := rfl
  refine lv_if_eq (tgt := 29) hx hb dX2_rank_14 (by decide) (fun c14_5 => ?_) (fun c14_5 => ?_)
  · have c14_5 : (r11_1).toInt = 0 := (ti_eq (x := r11_1) (y := 0) (a := (r11_1).toInt) (b := 0) rfl rfl).mp c14_5
    refine lv_bipush (v := (-102)) hx hb dX2_rank_29 (by decide) ?_
    have hF : fRank σ k q = ((-102), σ) := if_pos (by omega)
    exact hret _ _ _ _ _ _ _ μ dX2_rank_31 (Or.inr (Or.inr rfl)) (by rw [hF]; exact ⟨rfl, hM⟩) (by rw [hF]; exact hP) (by rw [hF]; exact hD) hS (Nat.le_refl _) (Nat.le_refl _)
  · have c14_5 : ¬ ((r11_1).toInt = 0) := mt (ti_eq (x := r11_1) (y := 0) (a := (r11_1).toInt) (b := 0) rfl rfl).mpr c14_5
    refine lv_iload_n hx hb dX2_rank_17 rfl (lv_at hl 2 rfl) ?_
    refine lv_i2l hx hb dX2_rank_18 rfl ?_
    refine lv_lconst (v := 0) hx hb dX2_rank_19 rfl ?_
    refine lv_ldc2 (v := 100) hx hb hown kl102 dX2_rank_20 ?_
    refine rdS_i (As := [.long ((q).toInt64), .long 0, .long 100]) (rest := []) ⟨hx, hb, hml, hown, hts⟩ (c_X2_isIn l G ((q).toInt64 : Int64) (0 : Int64) (100 : Int64)) cw58 hK va_P.nil rfl hl.1 rfl (Nat.le_of_ble_eq_true rfl) dX2_rank_23 ⟨Nat.zero_le _, Nat.zero_le _⟩ (fun r23_6 w23_6 => ?_)
    have w23_6 : ((r23_6.toInt = 1 ∧ (((0 : Int64)).toInt ≤ (((q).toInt64 : Int64)).toInt ∧ (((q).toInt64 : Int64)).toInt ≤ ((100 : Int64)).toInt)) ∨ (r23_6.toInt = 0 ∧ ¬ (((0 : Int64)).toInt ≤ (((q).toInt64 : Int64)).toInt ∧ (((q).toInt64 : Int64)).toInt ≤ ((100 : Int64)).toInt))) := w23_6
    have va7 : (((q).toInt64 : Int64)).toInt = (q).toInt := (tl_i2l rfl)
    have va8 : ((0 : Int64)).toInt = 0 := rfl
    have va9 : ((100 : Int64)).toInt = 100 := rfl
    refine lv_if_ne (tgt := 32) hx hb dX2_rank_26 (by decide) (fun c26_10 => ?_) (fun c26_10 => ?_)
    · have c26_10 : ¬ ((r23_6).toInt = 0) := mt (ti_eq (x := r23_6) (y := 0) (a := (r23_6).toInt) (b := 0) rfl rfl).mpr c26_10
      refine lv_aload_n hx hb dX2_rank_32 rfl (lv_at hl 0 rfl) ?_
      refine va_get (D := G.1) (ci := 3) (v := .ref (b 10)) (own := RX2) (C := RX2) (T := TX2) (N := 17) hx hb hts hiX2 hown hK.1 hP 0 rfl rfl 11 (by decide) lf39 (fun _ h9 => h9) rfl dX2_rank_33 ?_
      refine lv_iload_n hx hb dX2_rank_36 rfl (lv_at hl 1 rfl) ?_
      refine my_iald hx hb hK hP 10 rfl ((k).toInt.toNat) (show (k).toInt = (((k).toInt.toNat : Nat) : Int) by omega) (by omega) dX2_rank_37 ?_
      refine lv_istore_n (lv' := [(3, .int ((sR σ) ((k).toInt.toNat))), (0, .ref (b 0)), (1, .int k), (2, .int q)]) hx hb dX2_rank_38 rfl hl (by decide) rfl (fun ls hl => ?_)
      refine lv_aload_n hx hb dX2_rank_39 rfl (lv_at hl 1 rfl) ?_
      refine va_get (D := G.1) (ci := 3) (v := .ref (b 10)) (own := RX2) (C := RX2) (T := TX2) (N := 17) hx hb hts hiX2 hown hK.1 hP 0 rfl rfl 11 (by decide) lf39 (fun _ h9 => h9) rfl dX2_rank_40 ?_
      refine lv_iload_n hx hb dX2_rank_43 rfl (lv_at hl 2 rfl) ?_
      refine lv_iload_n hx hb dX2_rank_44 rfl (lv_at hl 3 rfl) ?_
      refine my_iast hx hb hK hP hD hS 10 rfl (x := q) ((k).toInt.toNat) (show (k).toInt = (((k).toInt.toNat : Nat) : Int) by omega) (by omega) dX2_rank_45 (fun H locs hP hD hS => ?_)
      have hP : va_P G.1 vwCl (MW G b 0 (nI (sN σ)) (uK μ) (uE μ) (uP μ) (uT μ) (uF μ) (uU μ) (uM μ) (uV μ) (uX μ) (upd (sR σ) ((k).toInt.toNat) q) (sT σ) (uW μ) (nI (sG σ).length) (uG μ)) H := hP
      have hD : va_D A (MW G b 0 (nI (sN σ)) (uK μ) (uE μ) (uP μ) (uT μ) (uF μ) (uU μ) (uM μ) (uV μ) (uX μ) (upd (sR σ) ((k).toInt.toNat) q) (sT σ) (uW μ) (nI (sG σ).length) (uG μ)) := hD
      refine lv_iload_n hx hb dX2_rank_46 rfl (lv_at hl 0 rfl) ?_
      have hF : fRank σ k q = (((sR σ) ((k).toInt.toNat)), (sN σ, sO σ, sT σ, upd (sR σ) (k).toInt.toNat q, sG σ)) := if_neg (by omega)
      exact hret _ _ _ _ _ _ _ μ dX2_rank_47 (Or.inr (Or.inr rfl)) (by rw [hF]; exact ⟨rfl, hM⟩) (by rw [hF]; exact hP) (by rw [hF]; exact hD) hS (Nat.le_refl _) (Nat.le_refl _)
    · have c26_10 : (r23_6).toInt = 0 := (ti_eq (x := r23_6) (y := 0) (a := (r23_6).toInt) (b := 0) rfl rfl).mp c26_10
      refine lv_bipush (v := (-102)) hx hb dX2_rank_29 (by decide) ?_
      have hF : fRank σ k q = ((-102), σ) := if_pos (by omega)
      exact hret _ _ _ _ _ _ _ μ dX2_rank_31 (Or.inr (Or.inr rfl)) (by rw [hF]; exact ⟨rfl, hM⟩) (by rw [hF]; exact hP) (by rw [hF]; exact hD) hS (Nat.le_refl _) (Nat.le_refl _)

set_option maxHeartbeats 4000000 in
set_option maxRecDepth 100000 in
/-- ring -/
theorem c_X2_ring (l : Launch) (G : GG) (b : Nat → Nat) (μ : MP) (σ : St) (hI : SI σ) (hM : MI μ σ) (i : Int32) : WrI l yX2_ring wsX2_ring (rmX 0 0 0 0) G [.ref (b 0), .int i] (WM G b μ σ) (fun (r : Int32) (u : Unit) => r = fRing σ i) (fun u : Unit => (WM G b μ σ)) 0 0 := by
  refine wr_of_i (cc := cX2_ring) (maxL := 2) (t := .int) (by decide +kernel) rfl (Nat.le_of_ble_eq_true rfl) nar_int ?_
  intro p e s m args below meth c Q A hx hb hml hown hts hK hZ hA hret ls hl hP hD hS
  have hown : s.vm.findClass RX2 = some m.cls := hown
  have hl : lv_has ls 2 [(0, .ref (b 0)), (1, .int i)] := hl
  have hP : va_P G.1 vwCl (MW G b 0 (nI (sN σ)) (uK μ) (uE μ) (uP μ) (uT μ) (uF μ) (uU μ) (uM μ) (uV μ) (uX μ) (sR σ) (sT σ) (uW μ) (nI (sG σ).length) (uG μ)) s.heap := hP
  have hD : va_D A (MW G b 0 (nI (sN σ)) (uK μ) (uE μ) (uP μ) (uT μ) (uF μ) (uU μ) (uM μ) (uV μ) (uX μ) (sR σ) (sT σ) (uW μ) (nI (sG σ).length) (uG μ)) := hD
  obtain ⟨hI1, hI2, hI3, hI4, hI5⟩ := id hI
  have hiX2 := (show ∀ w ∈ u_ws RX2 TX2 17, w ∈ wsX2_ring by decide +kernel)
  have lf52 := hts (.fieldLink RX2 52 "OrderRows2Model" "thrown" "I") (by decide +kernel)
  have lf48 := hts (.fieldLink RX2 48 "OrderRows2Model" "ringSize" "I") (by decide +kernel)
  have lf45 := hts (.fieldLink RX2 45 "OrderRows2Model" "ring" "[I") (by decide +kernel)
  refine lv_aload_n hx hb dX2_ring_0 rfl (lv_at hl 0 rfl) ?_
  refine lv_iconst (v := 0) hx hb dX2_ring_1 (by decide) ?_
  refine va_put (D := G.1) (ci := 3) (v := .int 0) (ty := .int) (own := RX2) (C := RX2) (T := TX2) (N := 17) hx hb hts hiX2 tyX2 tyX2_ok nmX2 hown hK.1 hP hD hS 0 rfl rfl 0 (by decide) lf52 (fun _ h9 => h9) rfl (by decide +kernel) rfl rfl (Nat.le_of_ble_eq_true rfl) dX2_ring_2 (fun H locs hP hD hS => ?_)
  have hP : va_P G.1 vwCl (MW G b 0 (nI (sN σ)) (uK μ) (uE μ) (uP μ) (uT μ) (uF μ) (uU μ) (uM μ) (uV μ) (uX μ) (sR σ) (sT σ) (uW μ) (nI (sG σ).length) (uG μ)) H := hP
  have hD : va_D A (MW G b 0 (nI (sN σ)) (uK μ) (uE μ) (uP μ) (uT μ) (uF μ) (uU μ) (uM μ) (uV μ) (uX μ) (sR σ) (sT σ) (uW μ) (nI (sG σ).length) (uG μ)) := hD
  refine lv_iload_n hx hb dX2_ring_5 rfl (lv_at hl 1 rfl) ?_
  refine lv_if_lt (tgt := 26) hx hb dX2_ring_6 (by decide) (fun c6_1 => ?_) (fun c6_1 => ?_)
  · have c6_1 : (i).toInt < 0 := (ti_lt (x := i) (y := 0) (a := (i).toInt) (b := 0) rfl rfl).mp c6_1
    refine lv_iconst (v := 0) hx hb dX2_ring_26 (by decide) ?_
    exact hret _ _ _ _ _ _ _ () dX2_ring_27 (Or.inr (Or.inr rfl)) (if_neg (by omega)).symm hP hD hS (Nat.le_refl _) (Nat.le_refl _)
  · have c6_1 : ¬ ((i).toInt < 0) := mt (ti_lt (x := i) (y := 0) (a := (i).toInt) (b := 0) rfl rfl).mpr c6_1
    refine lv_iload_n hx hb dX2_ring_9 rfl (lv_at hl 1 rfl) ?_
    refine lv_aload_n hx hb dX2_ring_10 rfl (lv_at hl 0 rfl) ?_
    refine va_get (D := G.1) (ci := 3) (v := .int (nI (sG σ).length)) (own := RX2) (C := RX2) (T := TX2) (N := 17) hx hb hts hiX2 hown hK.1 hP 0 rfl rfl 15 (by decide) lf48 (fun _ h9 => h9) rfl dX2_ring_11 ?_
    refine lv_icmp_ge (tgt := 26) hx hb dX2_ring_14 (by decide) (fun c14_2 => ?_) (fun c14_2 => ?_)
    · have c14_2 : (((sG σ).length : Nat) : Int) ≤ (i).toInt := (ti_le (x := (nI (sG σ).length)) (y := i) (a := (((sG σ).length : Nat) : Int)) (b := (i).toInt) (ti_nI (by omega)) rfl).mp c14_2
      refine lv_iconst (v := 0) hx hb dX2_ring_26 (by decide) ?_
      exact hret _ _ _ _ _ _ _ () dX2_ring_27 (Or.inr (Or.inr rfl)) (if_neg (by omega)).symm hP hD hS (Nat.le_refl _) (Nat.le_refl _)
    · have c14_2 : ¬ ((((sG σ).length : Nat) : Int) ≤ (i).toInt) := mt (ti_le (x := (nI (sG σ).length)) (y := i) (a := (((sG σ).length : Nat) : Int)) (b := (i).toInt) (ti_nI (by omega)) rfl).mpr c14_2
      refine lv_aload_n hx hb dX2_ring_17 rfl (lv_at hl 0 rfl) ?_
      refine va_get (D := G.1) (ci := 3) (v := .ref (b 12)) (own := RX2) (C := RX2) (T := TX2) (N := 17) hx hb hts hiX2 hown hK.1 hP 0 rfl rfl 16 (by decide) lf45 (fun _ h9 => h9) rfl dX2_ring_18 ?_
      refine lv_iload_n hx hb dX2_ring_21 rfl (lv_at hl 1 rfl) ?_
      refine my_iald hx hb hK hP 12 rfl ((i).toInt.toNat) (show (i).toInt = (((i).toInt.toNat : Nat) : Int) by omega) (by omega) dX2_ring_22 ?_
      refine lv_goto (tgt := 27) hx hb dX2_ring_23 (by decide) ?_
      exact hret _ _ _ _ _ _ _ () dX2_ring_27 (Or.inr (Or.inr rfl)) ((hM.2.2 (i).toInt.toNat (by omega)).trans (if_pos (show 0 ≤ (i).toInt ∧ (i).toInt < ((sG σ).length : Int) by omega)).symm) hP hD hS (Nat.le_refl _) (Nat.le_refl _)

set_option maxHeartbeats 4000000 in
set_option maxRecDepth 100000 in
/-- extend -/
theorem c_X2_extend (l : Launch) (G : GG) (b : Nat → Nat) (μ : MP) (σ : St) (hI : SI σ) (hM : MI μ σ) (o : Int32) (v : Int64) : WrI l yX2_extend wsX2_extend (rmX 2 90 0 0) G [.ref (b 0), .int o, .long v] (WM G b μ σ) (fun (r : Int32) (u : MP) => r = (fExtend σ o v).1 ∧ MI u (fExtend σ o v).2) (fun u : MP => WM G b u (fExtend σ o v).2) 0 0 := by
  refine wr_of_i (cc := cX2_extend) (maxL := 5) (t := .int) (by decide +kernel) rfl (Nat.le_of_ble_eq_true rfl) nar_int ?_
  intro p e s m args below meth c Q A hx hb hml hown hts hK hZ hA hret ls hl hP hD hS
  have hown : s.vm.findClass RX2 = some m.cls := hown
  have hl : lv_has ls 5 [(0, .ref (b 0)), (1, .int o), (2, .long v)] := hl
  have hP : va_P G.1 vwCl (MW G b 0 (nI (sN σ)) (uK μ) (uE μ) (uP μ) (uT μ) (uF μ) (uU μ) (uM μ) (uV μ) (uX μ) (sR σ) (sT σ) (uW μ) (nI (sG σ).length) (uG μ)) s.heap := hP
  have hD : va_D A (MW G b 0 (nI (sN σ)) (uK μ) (uE μ) (uP μ) (uT μ) (uF μ) (uU μ) (uM μ) (uV μ) (uX μ) (sR σ) (sT σ) (uW μ) (nI (sG σ).length) (uG μ)) := hD
  obtain ⟨hI1, hI2, hI3, hI4, hI5⟩ := id hI
  have hiX2 := (show ∀ w ∈ u_ws RX2 TX2 17, w ∈ wsX2_extend by decide +kernel)
  have lf52 := hts (.fieldLink RX2 52 "OrderRows2Model" "thrown" "I") (by decide +kernel)
  have cw80 := cwV (R := (rmX 2 90 0 0)) (s := s) (args := args) (rm := (rmX 1 60 0 0)) (mc := 0) (ms := 0) 1 hts gX2_extend_X2_isOrder rfl rfl rfl (by decide +kernel) ⟨Nat.le_of_ble_eq_true rfl, Nat.le_of_ble_eq_true rfl⟩
  have kl66 := hts (.constantLong RX2 66 (20000)) (by decide +kernel)
  have cw58 := va_cwS (R := (rmX 2 90 0 0)) (s := s) (args := args) (rm := (rmX 0 0 0 0)) (mc := 0) (ms := 0) 3 hts gX2_extend_X2_isIn rfl rfl rfl (by decide +kernel) ⟨Nat.le_of_ble_eq_true rfl, Nat.le_of_ble_eq_true rfl⟩
  have lf36 := hts (.fieldLink RX2 36 "OrderRows2Model" "overs" "[J") (by decide +kernel)
  have lf26 := hts (.fieldLink RX2 26 "OrderRows2Model" "untils" "[J") (by decide +kernel)
  refine lv_aload_n hx hb dX2_extend_0 rfl (lv_at hl 0 rfl) ?_
  refine lv_iconst (v := 0) hx hb dX2_extend_1 (by decide) ?_
  refine va_put (D := G.1) (ci := 3) (v := .int 0) (ty := .int) (own := RX2) (C := RX2) (T := TX2) (N := 17) hx hb hts hiX2 tyX2 tyX2_ok nmX2 hown hK.1 hP hD hS 0 rfl rfl 0 (by decide) lf52 (fun _ h9 => h9) rfl (by decide +kernel) rfl rfl (Nat.le_of_ble_eq_true rfl) dX2_extend_2 (fun H locs hP hD hS => ?_)
  have hP : va_P G.1 vwCl (MW G b 0 (nI (sN σ)) (uK μ) (uE μ) (uP μ) (uT μ) (uF μ) (uU μ) (uM μ) (uV μ) (uX μ) (sR σ) (sT σ) (uW μ) (nI (sG σ).length) (uG μ)) H := hP
  have hD : va_D A (MW G b 0 (nI (sN σ)) (uK μ) (uE μ) (uP μ) (uT μ) (uF μ) (uU μ) (uM μ) (uV μ) (uX μ) (sR σ) (sT σ) (uW μ) (nI (sG σ).length) (uG μ)) := hD
  refine lv_aload_n hx hb dX2_extend_5 rfl (lv_at hl 0 rfl) ?_
  refine lv_iload_n hx hb dX2_extend_6 rfl (lv_at hl 1 rfl) ?_
  refine rdV_i (b := b 0) (As := [.int o]) (rest := []) ⟨hx, hb, hml, hown, hts⟩ (c_X2_isOrder l G b μ σ hI hM o) cw80 hK hP 3 rfl rfl rfl rfl hl.1 rfl (Nat.le_of_ble_eq_true rfl) dX2_extend_7 ⟨Nat.zero_le _, Nat.zero_le _⟩ (fun r7_1 w7_1 => ?_)
  have w7_1 : ((r7_1.toInt = 1 ∧ (1 ≤ o.toInt ∧ o.toInt ≤ ((sN σ : Nat) : Int))) ∨ (r7_1.toInt = 0 ∧ ¬ (1 ≤ o.toInt ∧ o.toInt ≤ ((sN σ : Nat) : Int)))) := w7_1
  refine lv_if_ne (tgt := 16) hx hb dX2_extend_10 (by decide) (fun c10_2 => ?_) (fun c10_2 => ?_)
  · have c10_2 : ¬ ((r7_1).toInt = 0) := mt (ti_eq (x := r7_1) (y := 0) (a := (r7_1).toInt) (b := 0) rfl rfl).mpr c10_2
    obtain ⟨i, hi, hoi⟩ : ∃ i, i < sN σ ∧ o.toInt = ((i + 1 : Nat) : Int) := ⟨(o.toInt - 1).toNat, by omega, by omega⟩
    have eoi : oi o = i := by show (o.toInt - 1).toNat = i; omega
    have hmo1 := hM.1 i hi
    have hxi1 : ((oX (sO σ i)).toInt = 20001 ∧ ((uX μ) (i + 1)).toInt = -1) ∨ ((oX (sO σ i)).toInt ≠ 20001 ∧ ((uX μ) (i + 1)).toInt = (oX (sO σ i)).toInt) := XI_i hmo1.2.2.2.2.2.2.2.2
    have hoi1 := hI4 i hi
    unfold OI at hoi1
    refine lv_lload_n hx hb dX2_extend_16 rfl (lv_at hl 2 rfl) ?_
    refine lv_lconst (v := 0) hx hb dX2_extend_17 rfl ?_
    refine lv_ldc2 (v := 20000) hx hb hown kl66 dX2_extend_18 ?_
    refine rdS_i (As := [.long v, .long 0, .long 20000]) (rest := []) ⟨hx, hb, hml, hown, hts⟩ (c_X2_isIn l G (v : Int64) (0 : Int64) (20000 : Int64)) cw58 hK va_P.nil rfl hl.1 rfl (Nat.le_of_ble_eq_true rfl) dX2_extend_21 ⟨Nat.zero_le _, Nat.zero_le _⟩ (fun r21_3 w21_3 => ?_)
    have w21_3 : ((r21_3.toInt = 1 ∧ (((0 : Int64)).toInt ≤ ((v : Int64)).toInt ∧ ((v : Int64)).toInt ≤ ((20000 : Int64)).toInt)) ∨ (r21_3.toInt = 0 ∧ ¬ (((0 : Int64)).toInt ≤ ((v : Int64)).toInt ∧ ((v : Int64)).toInt ≤ ((20000 : Int64)).toInt))) := w21_3
    have va4 : ((0 : Int64)).toInt = 0 := rfl
    have va5 : ((20000 : Int64)).toInt = 20000 := rfl
    refine lv_if_ne (tgt := 30) hx hb dX2_extend_24 (by decide) (fun c24_6 => ?_) (fun c24_6 => ?_)
    · have c24_6 : ¬ ((r21_3).toInt = 0) := mt (ti_eq (x := r21_3) (y := 0) (a := (r21_3).toInt) (b := 0) rfl rfl).mpr c24_6
      refine lv_aload_n hx hb dX2_extend_30 rfl (lv_at hl 0 rfl) ?_
      refine va_get (D := G.1) (ci := 3) (v := .ref (b 9)) (own := RX2) (C := RX2) (T := TX2) (N := 17) hx hb hts hiX2 hown hK.1 hP 0 rfl rfl 10 (by decide) lf36 (fun _ h9 => h9) rfl dX2_extend_31 ?_
      refine lv_iload_n hx hb dX2_extend_34 rfl (lv_at hl 1 rfl) ?_
      refine my_lald hx hb hK hP 9 rfl (i + 1) hoi (by omega) dX2_extend_35 ?_
      refine lv_lconst (v := 0) hx hb dX2_extend_36 rfl ?_
      refine lc_lt (tgt := 44) hx hb dX2_extend_37 dX2_extend_38 (by decide) (fun c37_7 => ?_) (fun c37_7 => ?_)
      · have c37_7 : (((uX μ) (i + 1))).toInt < 0 := (tl_lt (x := ((uX μ) (i + 1))) (y := 0) (a := (((uX μ) (i + 1))).toInt) (b := 0) rfl rfl).mp c37_7
        refine lv_lload_n hx hb dX2_extend_44 rfl (lv_at hl 2 rfl) ?_
        refine lv_aload_n hx hb dX2_extend_45 rfl (lv_at hl 0 rfl) ?_
        refine va_get (D := G.1) (ci := 3) (v := .ref (b 6)) (own := RX2) (C := RX2) (T := TX2) (N := 17) hx hb hts hiX2 hown hK.1 hP 0 rfl rfl 7 (by decide) lf26 (fun _ h9 => h9) rfl dX2_extend_46 ?_
        refine lv_iload_n hx hb dX2_extend_49 rfl (lv_at hl 1 rfl) ?_
        refine my_lald hx hb hK hP 6 rfl (i + 1) hoi (by omega) dX2_extend_50 ?_
        refine lc_le (tgt := 59) hx hb dX2_extend_51 dX2_extend_52 (by decide) (fun c51_8 => ?_) (fun c51_8 => ?_)
        · have c51_8 : (v).toInt ≤ (oU (sO σ i)).toInt := (tl_le (x := v) (y := ((uU μ) (i + 1))) (a := (v).toInt) (b := (oU (sO σ i)).toInt) rfl (congrArg Int64.toInt hmo1.2.2.2.2.2.1)).mp c51_8
          refine lv_iconst (v := 0) hx hb dX2_extend_59 (by decide) ?_
          refine lv_istore (lv' := [(4, .int 0), (0, .ref (b 0)), (1, .int o), (2, .long v)]) hx hb dX2_extend_60 hl (by decide) rfl (fun ls hl => ?_)
          refine lv_aload_n hx hb dX2_extend_62 rfl (lv_at hl 1 rfl) ?_
          refine va_get (D := G.1) (ci := 3) (v := .ref (b 6)) (own := RX2) (C := RX2) (T := TX2) (N := 17) hx hb hts hiX2 hown hK.1 hP 0 rfl rfl 7 (by decide) lf26 (fun _ h9 => h9) rfl dX2_extend_63 ?_
          refine lv_iload_n hx hb dX2_extend_66 rfl (lv_at hl 2 rfl) ?_
          refine lv_iload hx hb dX2_extend_67 (lv_at hl 0 rfl) ?_
          refine lv_if_eq (tgt := 76) hx hb dX2_extend_69 (by decide) (fun _ => ?_) (fun c69_9 => absurd (by decide) c69_9)
          refine lv_aload_n hx hb dX2_extend_76 rfl (lv_at hl 1 rfl) ?_
          refine va_get (D := G.1) (ci := 3) (v := .ref (b 6)) (own := RX2) (C := RX2) (T := TX2) (N := 17) hx hb hts hiX2 hown hK.1 hP 0 rfl rfl 7 (by decide) lf26 (fun _ h9 => h9) rfl dX2_extend_77 ?_
          refine lv_iload_n hx hb dX2_extend_80 rfl (lv_at hl 2 rfl) ?_
          refine my_lald hx hb hK hP 6 rfl (i + 1) hoi (by omega) dX2_extend_81 ?_
          refine my_last hx hb hK hP hD hS 6 rfl (x := ((uU μ) (i + 1))) (i + 1) hoi (by omega) dX2_extend_82 (fun H locs hP hD hS => ?_)
          have hP : va_P G.1 vwCl (MW G b 0 (nI (sN σ)) (uK μ) (uE μ) (uP μ) (uT μ) (uF μ) (vp_updL (uU μ) (i + 1) ((uU μ) (i + 1))) (uM μ) (uV μ) (uX μ) (sR σ) (sT σ) (uW μ) (nI (sG σ).length) (uG μ)) H := hP
          have hD : va_D A (MW G b 0 (nI (sN σ)) (uK μ) (uE μ) (uP μ) (uT μ) (uF μ) (vp_updL (uU μ) (i + 1) ((uU μ) (i + 1))) (uM μ) (uV μ) (uX μ) (sR σ) (sT σ) (uW μ) (nI (sG σ).length) (uG μ)) := hD
          refine lv_iload hx hb dX2_extend_83 (lv_at hl 0 rfl) ?_
          refine lv_if_eq (tgt := 92) hx hb dX2_extend_85 (by decide) (fun _ => ?_) (fun c85_10 => absurd (by decide) c85_10)
          refine lv_iconst (v := 0) hx hb dX2_extend_92 (by decide) ?_
          have hM2 : MI (mU μ (vp_updL (uU μ) (i + 1) (uU μ (i + 1)))) σ := by rw [upL_self]; exact hM
          have hF : fExtend σ o v = (0, σ) := by unfold fExtend; rw [if_neg (by omega), if_neg (by omega), eoi, if_neg (by omega), if_pos (by omega)]
          exact hret _ _ _ _ _ _ _ (mU μ (vp_updL (uU μ) (i + 1) (uU μ (i + 1)))) dX2_extend_93 (Or.inr (Or.inr rfl)) (by rw [hF]; exact ⟨rfl, hM2⟩) (by rw [hF]; exact hP) (by rw [hF]; exact hD) hS (Nat.le_refl _) (Nat.le_refl _)
        · have c51_8 : ¬ ((v).toInt ≤ (oU (sO σ i)).toInt) := mt (tl_le (x := v) (y := ((uU μ) (i + 1))) (a := (v).toInt) (b := (oU (sO σ i)).toInt) rfl (congrArg Int64.toInt hmo1.2.2.2.2.2.1)).mpr c51_8
          refine lv_iconst (v := 1) hx hb dX2_extend_55 (by decide) ?_
          refine lv_goto (tgt := 60) hx hb dX2_extend_56 (by decide) ?_
          refine lv_istore (lv' := [(4, .int 1), (0, .ref (b 0)), (1, .int o), (2, .long v)]) hx hb dX2_extend_60 hl (by decide) rfl (fun ls hl => ?_)
          refine lv_aload_n hx hb dX2_extend_62 rfl (lv_at hl 1 rfl) ?_
          refine va_get (D := G.1) (ci := 3) (v := .ref (b 6)) (own := RX2) (C := RX2) (T := TX2) (N := 17) hx hb hts hiX2 hown hK.1 hP 0 rfl rfl 7 (by decide) lf26 (fun _ h9 => h9) rfl dX2_extend_63 ?_
          refine lv_iload_n hx hb dX2_extend_66 rfl (lv_at hl 2 rfl) ?_
          refine lv_iload hx hb dX2_extend_67 (lv_at hl 0 rfl) ?_
          refine lv_if_eq (tgt := 76) hx hb dX2_extend_69 (by decide) (fun c69_11 => absurd c69_11 (by decide)) (fun _ => ?_)
          refine lv_lload_n hx hb dX2_extend_72 rfl (lv_at hl 3 rfl) ?_
          refine lv_goto (tgt := 82) hx hb dX2_extend_73 (by decide) ?_
          refine my_last hx hb hK hP hD hS 6 rfl (x := v) (i + 1) hoi (by omega) dX2_extend_82 (fun H locs hP hD hS => ?_)
          have hP : va_P G.1 vwCl (MW G b 0 (nI (sN σ)) (uK μ) (uE μ) (uP μ) (uT μ) (uF μ) (vp_updL (uU μ) (i + 1) v) (uM μ) (uV μ) (uX μ) (sR σ) (sT σ) (uW μ) (nI (sG σ).length) (uG μ)) H := hP
          have hD : va_D A (MW G b 0 (nI (sN σ)) (uK μ) (uE μ) (uP μ) (uT μ) (uF μ) (vp_updL (uU μ) (i + 1) v) (uM μ) (uV μ) (uX μ) (sR σ) (sT σ) (uW μ) (nI (sG σ).length) (uG μ)) := hD
          refine lv_iload hx hb dX2_extend_83 (lv_at hl 0 rfl) ?_
          refine lv_if_eq (tgt := 92) hx hb dX2_extend_85 (by decide) (fun c85_12 => absurd c85_12 (by decide)) (fun _ => ?_)
          refine lv_iconst (v := 1) hx hb dX2_extend_88 (by decide) ?_
          refine lv_goto (tgt := 93) hx hb dX2_extend_89 (by decide) ?_
          have hM2 : MI (mU μ (vp_updL (uU μ) (i + 1) v)) (sPut σ i (oSU (sO σ i) v)) := by
            refine MI_upd hM (fun j o1 hj h => ?_) ?_ (fun _ _ => rfl) rfl
            · obtain ⟨h1, h2, h3, h4, h5, h6, h7, h8, h9⟩ := h
              exact ⟨h1, h2, h3, h4, h5, (pk_uLn hj).trans h6, h7, h8, h9⟩
            · obtain ⟨h1, h2, h3, h4, h5, h6, h7, h8, h9⟩ := hmo1
              exact ⟨h1, h2, h3, h4, h5, pk_uLs, h7, h8, h9⟩
          have hF : fExtend σ o v = (1, sPut σ i (oSU (sO σ i) v)) := by unfold fExtend; rw [if_neg (by omega), if_neg (by omega), eoi, if_neg (by omega), if_neg (by omega)]
          exact hret _ _ _ _ _ _ _ (mU μ (vp_updL (uU μ) (i + 1) v)) dX2_extend_93 (Or.inr (Or.inr rfl)) (by rw [hF]; exact ⟨rfl, hM2⟩) (by rw [hF]; exact hP) (by rw [hF]; exact hD) hS (Nat.le_refl _) (Nat.le_refl _)
      · have c37_7 : ¬ ((((uX μ) (i + 1))).toInt < 0) := mt (tl_lt (x := ((uX μ) (i + 1))) (y := 0) (a := (((uX μ) (i + 1))).toInt) (b := 0) rfl rfl).mpr c37_7
        refine lv_bipush (v := (-103)) hx hb dX2_extend_41 (by decide) ?_
        have hF : fExtend σ o v = ((-103), σ) := by unfold fExtend; rw [if_neg (by omega), if_neg (by omega), eoi, if_pos (by omega)]
        exact hret _ _ _ _ _ _ _ μ dX2_extend_43 (Or.inr (Or.inr rfl)) (by rw [hF]; exact ⟨rfl, hM⟩) (by rw [hF]; exact hP) (by rw [hF]; exact hD) hS (Nat.le_refl _) (Nat.le_refl _)
    · have c24_6 : (r21_3).toInt = 0 := (ti_eq (x := r21_3) (y := 0) (a := (r21_3).toInt) (b := 0) rfl rfl).mp c24_6
      refine lv_bipush (v := (-102)) hx hb dX2_extend_27 (by decide) ?_
      have hF : fExtend σ o v = ((-102), σ) := by unfold fExtend; rw [if_neg (by omega), if_pos (by omega)]
      exact hret _ _ _ _ _ _ _ μ dX2_extend_29 (Or.inr (Or.inr rfl)) (by rw [hF]; exact ⟨rfl, hM⟩) (by rw [hF]; exact hP) (by rw [hF]; exact hD) hS (Nat.le_refl _) (Nat.le_refl _)
  · have c10_2 : (r7_1).toInt = 0 := (ti_eq (x := r7_1) (y := 0) (a := (r7_1).toInt) (b := 0) rfl rfl).mp c10_2
    refine lv_bipush (v := (-101)) hx hb dX2_extend_13 (by decide) ?_
    have hF : fExtend σ o v = ((-101), σ) := if_pos (by show ¬ (1 ≤ o.toInt ∧ o.toInt ≤ ((sN σ : Nat) : Int)); omega)
    exact hret _ _ _ _ _ _ _ μ dX2_extend_15 (Or.inr (Or.inr rfl)) (by rw [hF]; exact ⟨rfl, hM⟩) (by rw [hF]; exact hP) (by rw [hF]; exact hD) hS (Nat.le_refl _) (Nat.le_refl _)

set_option maxHeartbeats 4000000 in
set_option maxRecDepth 100000 in
/-- withdraw -/
theorem c_X2_withdraw (l : Launch) (G : GG) (b : Nat → Nat) (μ : MP) (σ : St) (hI : SI σ) (hM : MI μ σ) (o : Int32) (t : Int64) : WrI l yX2_withdraw wsX2_withdraw (rmX 2 90 0 0) G [.ref (b 0), .int o, .long t] (WM G b μ σ) (fun (r : Int32) (u : MP) => r = (fWithdraw σ o t).1 ∧ MI u (fWithdraw σ o t).2) (fun u : MP => WM G b u (fWithdraw σ o t).2) 0 0 := by
  refine wr_of_i (cc := cX2_withdraw) (maxL := 8) (t := .int) (by decide +kernel) rfl (Nat.le_of_ble_eq_true rfl) nar_int ?_
  intro p e s m args below meth c Q A hx hb hml hown hts hK hZ hA hret ls hl hP hD hS
  have hown : s.vm.findClass RX2 = some m.cls := hown
  have hl : lv_has ls 8 [(0, .ref (b 0)), (1, .int o), (2, .long t)] := hl
  have hP : va_P G.1 vwCl (MW G b 0 (nI (sN σ)) (uK μ) (uE μ) (uP μ) (uT μ) (uF μ) (uU μ) (uM μ) (uV μ) (uX μ) (sR σ) (sT σ) (uW μ) (nI (sG σ).length) (uG μ)) s.heap := hP
  have hD : va_D A (MW G b 0 (nI (sN σ)) (uK μ) (uE μ) (uP μ) (uT μ) (uF μ) (uU μ) (uM μ) (uV μ) (uX μ) (sR σ) (sT σ) (uW μ) (nI (sG σ).length) (uG μ)) := hD
  obtain ⟨hI1, hI2, hI3, hI4, hI5⟩ := id hI
  have hiX2 := (show ∀ w ∈ u_ws RX2 TX2 17, w ∈ wsX2_withdraw by decide +kernel)
  have lf52 := hts (.fieldLink RX2 52 "OrderRows2Model" "thrown" "I") (by decide +kernel)
  have cw80 := cwV (R := (rmX 2 90 0 0)) (s := s) (args := args) (rm := (rmX 1 60 0 0)) (mc := 0) (ms := 0) 1 hts gX2_withdraw_X2_isOrder rfl rfl rfl (by decide +kernel) ⟨Nat.le_of_ble_eq_true rfl, Nat.le_of_ble_eq_true rfl⟩
  have cw84 := cwV (R := (rmX 2 90 0 0)) (s := s) (args := args) (rm := (rmX 1 60 0 0)) (mc := 0) (ms := 0) 1 hts gX2_withdraw_X2_isDay rfl rfl rfl (by decide +kernel) ⟨Nat.le_of_ble_eq_true rfl, Nat.le_of_ble_eq_true rfl⟩
  have cw88 := cwV (R := (rmX 2 90 0 0)) (s := s) (args := args) (rm := (rmX 1 60 0 0)) (mc := 0) (ms := 0) 1 hts gX2_withdraw_X2_set rfl rfl rfl (by decide +kernel) ⟨Nat.le_of_ble_eq_true rfl, Nat.le_of_ble_eq_true rfl⟩
  have lf36 := hts (.fieldLink RX2 36 "OrderRows2Model" "overs" "[J") (by decide +kernel)
  have lf22 := hts (.fieldLink RX2 22 "OrderRows2Model" "froms" "[J") (by decide +kernel)
  have lf26 := hts (.fieldLink RX2 26 "OrderRows2Model" "untils" "[J") (by decide +kernel)
  refine lv_aload_n hx hb dX2_withdraw_0 rfl (lv_at hl 0 rfl) ?_
  refine lv_iconst (v := 0) hx hb dX2_withdraw_1 (by decide) ?_
  refine va_put (D := G.1) (ci := 3) (v := .int 0) (ty := .int) (own := RX2) (C := RX2) (T := TX2) (N := 17) hx hb hts hiX2 tyX2 tyX2_ok nmX2 hown hK.1 hP hD hS 0 rfl rfl 0 (by decide) lf52 (fun _ h9 => h9) rfl (by decide +kernel) rfl rfl (Nat.le_of_ble_eq_true rfl) dX2_withdraw_2 (fun H locs hP hD hS => ?_)
  have hP : va_P G.1 vwCl (MW G b 0 (nI (sN σ)) (uK μ) (uE μ) (uP μ) (uT μ) (uF μ) (uU μ) (uM μ) (uV μ) (uX μ) (sR σ) (sT σ) (uW μ) (nI (sG σ).length) (uG μ)) H := hP
  have hD : va_D A (MW G b 0 (nI (sN σ)) (uK μ) (uE μ) (uP μ) (uT μ) (uF μ) (uU μ) (uM μ) (uV μ) (uX μ) (sR σ) (sT σ) (uW μ) (nI (sG σ).length) (uG μ)) := hD
  refine lv_aload_n hx hb dX2_withdraw_5 rfl (lv_at hl 0 rfl) ?_
  refine lv_iload_n hx hb dX2_withdraw_6 rfl (lv_at hl 1 rfl) ?_
  refine rdV_i (b := b 0) (As := [.int o]) (rest := []) ⟨hx, hb, hml, hown, hts⟩ (c_X2_isOrder l G b μ σ hI hM o) cw80 hK hP 3 rfl rfl rfl rfl hl.1 rfl (Nat.le_of_ble_eq_true rfl) dX2_withdraw_7 ⟨Nat.zero_le _, Nat.zero_le _⟩ (fun r7_1 w7_1 => ?_)
  have w7_1 : ((r7_1.toInt = 1 ∧ (1 ≤ o.toInt ∧ o.toInt ≤ ((sN σ : Nat) : Int))) ∨ (r7_1.toInt = 0 ∧ ¬ (1 ≤ o.toInt ∧ o.toInt ≤ ((sN σ : Nat) : Int)))) := w7_1
  refine lv_if_ne (tgt := 16) hx hb dX2_withdraw_10 (by decide) (fun c10_2 => ?_) (fun c10_2 => ?_)
  · have c10_2 : ¬ ((r7_1).toInt = 0) := mt (ti_eq (x := r7_1) (y := 0) (a := (r7_1).toInt) (b := 0) rfl rfl).mpr c10_2
    obtain ⟨i, hi, hoi⟩ : ∃ i, i < sN σ ∧ o.toInt = ((i + 1 : Nat) : Int) := ⟨(o.toInt - 1).toNat, by omega, by omega⟩
    have eoi : oi o = i := by show (o.toInt - 1).toNat = i; omega
    have hmo1 := hM.1 i hi
    have hxi1 : ((oX (sO σ i)).toInt = 20001 ∧ ((uX μ) (i + 1)).toInt = -1) ∨ ((oX (sO σ i)).toInt ≠ 20001 ∧ ((uX μ) (i + 1)).toInt = (oX (sO σ i)).toInt) := XI_i hmo1.2.2.2.2.2.2.2.2
    have hoi1 := hI4 i hi
    unfold OI at hoi1
    refine lv_aload_n hx hb dX2_withdraw_16 rfl (lv_at hl 0 rfl) ?_
    refine lv_lload_n hx hb dX2_withdraw_17 rfl (lv_at hl 2 rfl) ?_
    refine rdV_i (b := b 0) (As := [.long t]) (rest := []) ⟨hx, hb, hml, hown, hts⟩ (c_X2_isDay l G b μ σ hI hM t) cw84 hK hP 3 rfl rfl rfl rfl hl.1 rfl (Nat.le_of_ble_eq_true rfl) dX2_withdraw_18 ⟨Nat.zero_le _, Nat.zero_le _⟩ (fun r18_3 w18_3 => ?_)
    have w18_3 : ((r18_3.toInt = 1 ∧ ((sT σ).toInt ≤ t.toInt ∧ t.toInt ≤ 20000)) ∨ (r18_3.toInt = 0 ∧ ¬ ((sT σ).toInt ≤ t.toInt ∧ t.toInt ≤ 20000))) := w18_3
    refine lv_if_ne (tgt := 27) hx hb dX2_withdraw_21 (by decide) (fun c21_4 => ?_) (fun c21_4 => ?_)
    · have c21_4 : ¬ ((r18_3).toInt = 0) := mt (ti_eq (x := r18_3) (y := 0) (a := (r18_3).toInt) (b := 0) rfl rfl).mpr c21_4
      refine lv_aload_n hx hb dX2_withdraw_27 rfl (lv_at hl 0 rfl) ?_
      refine lv_lload_n hx hb dX2_withdraw_28 rfl (lv_at hl 2 rfl) ?_
      have hck : clk σ t := by show 0 ≤ t.toInt ∧ t.toInt ≤ 20000 ∧ (sT σ).toInt ≤ t.toInt; omega
      refine wrV_i (wr := []) (b := b 0) (As := [.long t]) (rest := []) ⟨hx, hb, hml, hown, hts⟩ (c_X2_set l G b μ σ hI hM t hck) cw88 hK hZ hP hD hS hA 3 rfl rfl rfl rfl hl.1 rfl (Nat.le_of_ble_eq_true rfl) dX2_withdraw_29 ⟨Nat.zero_le _, Nat.zero_le _⟩ (fun r5 g H locs w5 hP hD hS => ?_)
      obtain ⟨w5, hM1⟩ := w5
      have hP : va_P G.1 vwCl (MW G b 0 (nI (sN σ)) (uK μ) (uE μ) (uP μ) (uT μ) (uF μ) (uU μ) (uM μ) (uV μ) g (sR σ) t (uW μ) (nI (sG σ).length) (uG μ)) H := hP
      have hD : va_D A (MW G b 0 (nI (sN σ)) (uK μ) (uE μ) (uP μ) (uT μ) (uF μ) (uU μ) (uM μ) (uV μ) g (sR σ) t (uW μ) (nI (sG σ).length) (uG μ)) := hD
      refine lv_istore (lv' := [(4, .int r5), (0, .ref (b 0)), (1, .int o), (2, .long t)]) hx hb dX2_withdraw_32 hl (by decide) rfl (fun ls hl => ?_)
      have hI1 := SI_mv hI hck
      have hmo2 := hM1.1 i hi
      have hxi2 : ((oX (sO (mvS σ t) i)).toInt = 20001 ∧ (g (i + 1)).toInt = -1) ∨ ((oX (sO (mvS σ t) i)).toInt ≠ 20001 ∧ (g (i + 1)).toInt = (oX (sO (mvS σ t) i)).toInt) := XI_i hmo2.2.2.2.2.2.2.2.2
      have hoi2 := hI1.2.2.2.1 i hi
      unfold OI at hoi2
      have eT1 : (sT (mvS σ t)).toInt = t.toInt := rfl
      refine lv_aload_n hx hb dX2_withdraw_34 rfl (lv_at hl 1 rfl) ?_
      refine va_get (D := G.1) (ci := 3) (v := .ref (b 9)) (own := RX2) (C := RX2) (T := TX2) (N := 17) hx hb hts hiX2 hown hK.1 hP 0 rfl rfl 10 (by decide) lf36 (fun _ h9 => h9) rfl dX2_withdraw_35 ?_
      refine lv_iload_n hx hb dX2_withdraw_38 rfl (lv_at hl 2 rfl) ?_
      refine my_lald hx hb hK hP 9 rfl (i + 1) hoi (by omega) dX2_withdraw_39 ?_
      refine lv_lconst (v := 0) hx hb dX2_withdraw_40 rfl ?_
      refine lc_lt (tgt := 48) hx hb dX2_withdraw_41 dX2_withdraw_42 (by decide) (fun c41_6 => ?_) (fun c41_6 => ?_)
      · have c41_6 : ((g (i + 1))).toInt < 0 := (tl_lt (x := (g (i + 1))) (y := 0) (a := ((g (i + 1))).toInt) (b := 0) rfl rfl).mp c41_6
        refine lv_iconst (v := 0) hx hb dX2_withdraw_48 (by decide) ?_
        refine lv_istore (lv' := [(5, .int 0), (4, .int r5), (0, .ref (b 0)), (1, .int o), (2, .long t)]) hx hb dX2_withdraw_49 hl (by decide) rfl (fun ls hl => ?_)
        refine lv_aload_n hx hb dX2_withdraw_51 rfl (lv_at hl 2 rfl) ?_
        refine va_get (D := G.1) (ci := 3) (v := .ref (b 5)) (own := RX2) (C := RX2) (T := TX2) (N := 17) hx hb hts hiX2 hown hK.1 hP 0 rfl rfl 6 (by decide) lf22 (fun _ h9 => h9) rfl dX2_withdraw_52 ?_
        refine lv_iload_n hx hb dX2_withdraw_55 rfl (lv_at hl 3 rfl) ?_
        refine my_lald hx hb hK hP 5 rfl (i + 1) hoi (by omega) dX2_withdraw_56 ?_
        refine lv_lstore (lv' := [(6, .long ((uF μ) (i + 1))), (5, .int 0), (4, .int r5), (0, .ref (b 0)), (1, .int o), (2, .long t)]) hx hb dX2_withdraw_57 hl (by decide) rfl (fun ls hl => ?_)
        obtain ⟨mx, hmx⟩ : ∃ mx : Int, mx = if (oF (sO (mvS σ t) i)).toInt < t.toInt then t.toInt else (oF (sO (mvS σ t) i)).toInt := ⟨_, rfl⟩
        have hmx2 : ((oF (sO (mvS σ t) i)).toInt < t.toInt ∧ mx = t.toInt) ∨ (¬ (oF (sO (mvS σ t) i)).toInt < t.toInt ∧ mx = (oF (sO (mvS σ t) i)).toInt) := mx_or hmx
        have loop59 : ∀ (fu : Nat) (md : Nat) (x5 : Int32) (x6 : Int64), (oU (sO (mvS σ t) i)).toInt + 1 < (oF (sO (mvS σ t) i)).toInt + (md : Int) + (fu : Int) → (oF (sO (mvS σ t) i)).toInt + (md : Int) ≤ (oU (sO (mvS σ t) i)).toInt + 1 → x5.toInt = ((((oF (sO (mvS σ t) i)).toInt + (md : Int)) - mx).toNat : Int) → x6.toInt = (oF (sO (mvS σ t) i)).toInt + (md : Int) → ∀ (H : Heap) (locs : List Loc), va_P G.1 vwCl (MW G b 0 (nI (sN σ)) (uK μ) (uE μ) (uP μ) (uT μ) (uF μ) (uU μ) (uM μ) (uV μ) g (sR σ) t (uW μ) (nI (sG σ).length) (uG μ)) H → va_D A (MW G b 0 (nI (sN σ)) (uK μ) (uE μ) (uP μ) (uT μ) (uF μ) (uU μ) (uM μ) (uV μ) g (sR σ) t (uW μ) (nI (sG σ).length) (uG μ)) → va_S A s.heap H locs → ∀ ls : Array Slot, lv_has ls 8 [(5, .int x5), (6, .long x6), (0, .ref (b 0)), (1, .int o), (2, .long t)] → W p l e (rmX 2 90 0 0) s m args below meth c H locs 0 0 Q (F0 m 59 ls []) := by
          intro fu
          induction fu with
          | zero =>
            intro md x5 x6 hfu hmd e5 e6
            exact absurd hfu (by omega)
          | succ fu ih59 =>
            intro md x5 x6 hfu hmd e5 e6 H locs hP hD hS ls hl
            refine lv_lload hx hb dX2_withdraw_59 (lv_at hl 1 rfl) ?_
            refine lv_aload_n hx hb dX2_withdraw_61 rfl (lv_at hl 2 rfl) ?_
            refine va_get (D := G.1) (ci := 3) (v := .ref (b 6)) (own := RX2) (C := RX2) (T := TX2) (N := 17) hx hb hts hiX2 hown hK.1 hP 0 rfl rfl 7 (by decide) lf26 (fun _ h9 => h9) rfl dX2_withdraw_62 ?_
            refine lv_iload_n hx hb dX2_withdraw_65 rfl (lv_at hl 3 rfl) ?_
            refine my_lald hx hb hK hP 6 rfl (i + 1) hoi (by omega) dX2_withdraw_66 ?_
            refine lc_gt (tgt := 98) hx hb dX2_withdraw_67 dX2_withdraw_68 (by decide) (fun c67_7 => ?_) (fun c67_7 => ?_)
            · have c67_7 : (oU (sO (mvS σ t) i)).toInt < ((oF (sO (mvS σ t) i)).toInt + (md : Int)) := (tl_lt (x := ((uU μ) (i + 1))) (y := x6) (a := (oU (sO (mvS σ t) i)).toInt) (b := ((oF (sO (mvS σ t) i)).toInt + (md : Int))) (congrArg Int64.toInt hmo2.2.2.2.2.2.1) e6).mp c67_7
              refine lv_aload_n hx hb dX2_withdraw_98 rfl (lv_at hl 2 rfl) ?_
              refine va_get (D := G.1) (ci := 3) (v := .ref (b 9)) (own := RX2) (C := RX2) (T := TX2) (N := 17) hx hb hts hiX2 hown hK.1 hP 0 rfl rfl 10 (by decide) lf36 (fun _ h9 => h9) rfl dX2_withdraw_99 ?_
              refine lv_iload_n hx hb dX2_withdraw_102 rfl (lv_at hl 3 rfl) ?_
              refine lv_lload_n hx hb dX2_withdraw_103 rfl (lv_at hl 4 rfl) ?_
              refine my_last hx hb hK hP hD hS 9 rfl (x := t) (i + 1) hoi (by omega) dX2_withdraw_104 (fun H locs hP hD hS => ?_)
              have hP : va_P G.1 vwCl (MW G b 0 (nI (sN σ)) (uK μ) (uE μ) (uP μ) (uT μ) (uF μ) (uU μ) (uM μ) (uV μ) (vp_updL g (i + 1) t) (sR σ) t (uW μ) (nI (sG σ).length) (uG μ)) H := hP
              have hD : va_D A (MW G b 0 (nI (sN σ)) (uK μ) (uE μ) (uP μ) (uT μ) (uF μ) (uU μ) (uM μ) (uV μ) (vp_updL g (i + 1) t) (sR σ) t (uW μ) (nI (sG σ).length) (uG μ)) := hD
              refine lv_iload hx hb dX2_withdraw_105 (lv_at hl 0 rfl) ?_
              have hM2 : MI (mX μ (vp_updL g (i + 1) t)) (sPut (mvS σ t) i (oSX (sO (mvS σ t) i) t)) := by
                refine MI_upd hM1 (fun j o1 hj h => ?_) ?_ (fun j hj => ?_) rfl
                · obtain ⟨h1, h2, h3, h4, h5, h6, h7, h8, h9⟩ := h
                  exact ⟨h1, h2, h3, h4, h5, h6, h7, h8, by show XI _ (vp_updL g (i + 1) t j); rw [pk_uLn hj]; exact h9⟩
                · obtain ⟨h1, h2, h3, h4, h5, h6, h7, h8, h9⟩ := hmo2
                  exact ⟨h1, h2, h3, h4, h5, h6, h7, h8, Or.inr ⟨by show t.toInt ≠ 20001; omega, pk_uLs⟩⟩
                · rfl
              have hdy : x5 = nI (dys (sO (mvS σ t) i) t.toInt) := nI_ofI (e5.trans (by unfold dys; rw [← hmx]; omega))
              rw [hdy]
              have hF : fWithdraw σ o t = (nI (dys (sO (mvS σ t) i) t.toInt), sPut (mvS σ t) i (oSX (sO (mvS σ t) i) t)) := by unfold fWithdraw; rw [if_neg (by omega), if_neg (by omega), eoi, if_neg (by omega)]
              exact hret _ _ _ _ _ _ _ (mX μ (vp_updL g (i + 1) t)) dX2_withdraw_107 (Or.inr (Or.inr rfl)) (by rw [hF]; exact ⟨rfl, hM2⟩) (by rw [hF]; exact hP) (by rw [hF]; exact hD) hS (Nat.le_refl _) (Nat.le_refl _)
            · have c67_7 : ¬ ((oU (sO (mvS σ t) i)).toInt < ((oF (sO (mvS σ t) i)).toInt + (md : Int))) := mt (tl_lt (x := ((uU μ) (i + 1))) (y := x6) (a := (oU (sO (mvS σ t) i)).toInt) (b := ((oF (sO (mvS σ t) i)).toInt + (md : Int))) (congrArg Int64.toInt hmo2.2.2.2.2.2.1) e6).mpr c67_7
              refine lv_lload hx hb dX2_withdraw_71 (lv_at hl 1 rfl) ?_
              refine lv_lload_n hx hb dX2_withdraw_73 rfl (lv_at hl 4 rfl) ?_
              refine lc_lt (tgt := 85) hx hb dX2_withdraw_74 dX2_withdraw_75 (by decide) (fun c74_8 => ?_) (fun c74_8 => ?_)
              · have c74_8 : ((oF (sO (mvS σ t) i)).toInt + (md : Int)) < (t).toInt := (tl_lt (x := x6) (y := t) (a := ((oF (sO (mvS σ t) i)).toInt + (md : Int))) (b := (t).toInt) e6 rfl).mp c74_8
                refine lv_iload hx hb dX2_withdraw_85 (lv_at hl 0 rfl) ?_
                refine lv_istore (lv' := [(5, .int x5), (6, .long x6), (0, .ref (b 0)), (1, .int o), (2, .long t)]) hx hb dX2_withdraw_87 hl (by decide) rfl (fun ls hl => ?_)
                refine lv_lload hx hb dX2_withdraw_89 (lv_at hl 1 rfl) ?_
                refine lv_lconst (v := 1) hx hb dX2_withdraw_91 rfl ?_
                refine lv_ladd hx hb dX2_withdraw_92 ?_
                refine lv_topl (fun y92_9 e92_9 => ?_)
                have v92_9 : (y92_9).toInt = (((oF (sO (mvS σ t) i)).toInt + (md : Int)) + 1) := by rw [e92_9]; exact tl_add (a := ((oF (sO (mvS σ t) i)).toInt + (md : Int))) (b := 1) e6 rfl (by omega) (by omega)
                refine lv_lstore (lv' := [(6, .long y92_9), (5, .int x5), (0, .ref (b 0)), (1, .int o), (2, .long t)]) hx hb dX2_withdraw_93 hl (by decide) rfl (fun ls hl => ?_)
                refine lv_goto (tgt := 59) hx hb dX2_withdraw_95 (by decide) ?_
                exact ih59 (md + 1) x5 y92_9 (by omega) (by omega) (e5.trans (by omega)) (v92_9.trans (by omega)) _ _ hP hD hS ls (lv_sub hl [1, 0, 2, 3, 4] rfl)
              · have c74_8 : ¬ (((oF (sO (mvS σ t) i)).toInt + (md : Int)) < (t).toInt) := mt (tl_lt (x := x6) (y := t) (a := ((oF (sO (mvS σ t) i)).toInt + (md : Int))) (b := (t).toInt) e6 rfl).mpr c74_8
                refine lv_iload hx hb dX2_withdraw_78 (lv_at hl 0 rfl) ?_
                refine lv_iconst (v := 1) hx hb dX2_withdraw_80 (by decide) ?_
                refine lv_iadd hx hb dX2_withdraw_81 ?_
                refine lv_topi (fun y81_10 e81_10 => ?_)
                have v81_10 : (y81_10).toInt = ((((((oF (sO (mvS σ t) i)).toInt + (md : Int)) - mx).toNat + 1) : Nat) : Int) := by rw [e81_10]; exact (ti_add (a := (((((oF (sO (mvS σ t) i)).toInt + (md : Int)) - mx).toNat : Nat) : Int)) (b := 1) e5 rfl (by omega) (by omega)).trans (by omega)
                refine lv_goto (tgt := 87) hx hb dX2_withdraw_82 (by decide) ?_
                refine lv_istore (lv' := [(5, .int y81_10), (6, .long x6), (0, .ref (b 0)), (1, .int o), (2, .long t)]) hx hb dX2_withdraw_87 hl (by decide) rfl (fun ls hl => ?_)
                refine lv_lload hx hb dX2_withdraw_89 (lv_at hl 1 rfl) ?_
                refine lv_lconst (v := 1) hx hb dX2_withdraw_91 rfl ?_
                refine lv_ladd hx hb dX2_withdraw_92 ?_
                refine lv_topl (fun y92_11 e92_11 => ?_)
                have v92_11 : (y92_11).toInt = (((oF (sO (mvS σ t) i)).toInt + (md : Int)) + 1) := by rw [e92_11]; exact tl_add (a := ((oF (sO (mvS σ t) i)).toInt + (md : Int))) (b := 1) e6 rfl (by omega) (by omega)
                refine lv_lstore (lv' := [(6, .long y92_11), (5, .int y81_10), (0, .ref (b 0)), (1, .int o), (2, .long t)]) hx hb dX2_withdraw_93 hl (by decide) rfl (fun ls hl => ?_)
                refine lv_goto (tgt := 59) hx hb dX2_withdraw_95 (by decide) ?_
                exact ih59 (md + 1) y81_10 y92_11 (by omega) (by omega) (v81_10.trans (by omega)) (v92_11.trans (by omega)) _ _ hP hD hS ls (lv_sub hl [1, 0, 2, 3, 4] rfl)
        exact loop59 20003 0 0 ((uF μ) (i + 1)) (by omega) (by omega) (show (0 : Int) = _ by omega) ((congrArg Int64.toInt hmo2.2.2.2.2.1).trans (by omega)) _ _ hP hD hS ls (lv_sub hl [1, 0, 3, 4, 5] rfl)
      · have c41_6 : ¬ (((g (i + 1))).toInt < 0) := mt (tl_lt (x := (g (i + 1))) (y := 0) (a := ((g (i + 1))).toInt) (b := 0) rfl rfl).mpr c41_6
        refine lv_bipush (v := (-103)) hx hb dX2_withdraw_45 (by decide) ?_
        have hF : fWithdraw σ o t = ((-103), (mvS σ t)) := by unfold fWithdraw; rw [if_neg (by omega), if_neg (by omega), eoi, if_pos (by omega)]
        exact hret _ _ _ _ _ _ _ (mX μ g) dX2_withdraw_47 (Or.inr (Or.inr rfl)) (by rw [hF]; exact ⟨rfl, hM1⟩) (by rw [hF]; exact hP) (by rw [hF]; exact hD) hS (Nat.le_refl _) (Nat.le_refl _)
    · have c21_4 : (r18_3).toInt = 0 := (ti_eq (x := r18_3) (y := 0) (a := (r18_3).toInt) (b := 0) rfl rfl).mp c21_4
      refine lv_bipush (v := (-102)) hx hb dX2_withdraw_24 (by decide) ?_
      have hF : fWithdraw σ o t = ((-102), σ) := by unfold fWithdraw; rw [if_neg (by omega), if_pos (by omega)]
      exact hret _ _ _ _ _ _ _ μ dX2_withdraw_26 (Or.inr (Or.inr rfl)) (by rw [hF]; exact ⟨rfl, hM⟩) (by rw [hF]; exact hP) (by rw [hF]; exact hD) hS (Nat.le_refl _) (Nat.le_refl _)
  · have c10_2 : (r7_1).toInt = 0 := (ti_eq (x := r7_1) (y := 0) (a := (r7_1).toInt) (b := 0) rfl rfl).mp c10_2
    refine lv_bipush (v := (-101)) hx hb dX2_withdraw_13 (by decide) ?_
    have hF : fWithdraw σ o t = ((-101), σ) := if_pos (by show ¬ (1 ≤ o.toInt ∧ o.toInt ≤ ((sN σ : Nat) : Int)); omega)
    exact hret _ _ _ _ _ _ _ μ dX2_withdraw_15 (Or.inr (Or.inr rfl)) (by rw [hF]; exact ⟨rfl, hM⟩) (by rw [hF]; exact hP) (by rw [hF]; exact hD) hS (Nat.le_refl _) (Nat.le_refl _)

set_option maxHeartbeats 4000000 in
set_option maxRecDepth 100000 in
/-- proof -/
theorem c_X2_proof (l : Launch) (G : GG) (b : Nat → Nat) (μ : MP) (σ : St) (hI : SI σ) (hM : MI μ σ) (o gd : Int32) (t : Int64) (hgd : (gd).toInt = 0 ∨ (gd).toInt = 1) : WrI l yX2_proof wsX2_proof (rmX 2 90 0 0) G [.ref (b 0), .int o, .int gd, .long t] (WM G b μ σ) (fun (r : Int32) (u : MP) => r = (fProof σ o gd t).1 ∧ MI u (fProof σ o gd t).2) (fun u : MP => WM G b u (fProof σ o gd t).2) 0 0 := by
  refine wr_of_i (cc := cX2_proof) (maxL := 6) (t := .int) (by decide +kernel) rfl (Nat.le_of_ble_eq_true rfl) nar_int ?_
  intro p e s m args below meth c Q A hx hb hml hown hts hK hZ hA hret ls hl hP hD hS
  have hown : s.vm.findClass RX2 = some m.cls := hown
  have hl : lv_has ls 6 [(0, .ref (b 0)), (1, .int o), (2, .int gd), (3, .long t)] := hl
  have hP : va_P G.1 vwCl (MW G b 0 (nI (sN σ)) (uK μ) (uE μ) (uP μ) (uT μ) (uF μ) (uU μ) (uM μ) (uV μ) (uX μ) (sR σ) (sT σ) (uW μ) (nI (sG σ).length) (uG μ)) s.heap := hP
  have hD : va_D A (MW G b 0 (nI (sN σ)) (uK μ) (uE μ) (uP μ) (uT μ) (uF μ) (uU μ) (uM μ) (uV μ) (uX μ) (sR σ) (sT σ) (uW μ) (nI (sG σ).length) (uG μ)) := hD
  obtain ⟨hI1, hI2, hI3, hI4, hI5⟩ := id hI
  have hiX2 := (show ∀ w ∈ u_ws RX2 TX2 17, w ∈ wsX2_proof by decide +kernel)
  have lf52 := hts (.fieldLink RX2 52 "OrderRows2Model" "thrown" "I") (by decide +kernel)
  have cw80 := cwV (R := (rmX 2 90 0 0)) (s := s) (args := args) (rm := (rmX 1 60 0 0)) (mc := 0) (ms := 0) 1 hts gX2_proof_X2_isOrder rfl rfl rfl (by decide +kernel) ⟨Nat.le_of_ble_eq_true rfl, Nat.le_of_ble_eq_true rfl⟩
  have cw84 := cwV (R := (rmX 2 90 0 0)) (s := s) (args := args) (rm := (rmX 1 60 0 0)) (mc := 0) (ms := 0) 1 hts gX2_proof_X2_isDay rfl rfl rfl (by decide +kernel) ⟨Nat.le_of_ble_eq_true rfl, Nat.le_of_ble_eq_true rfl⟩
  have cw88 := cwV (R := (rmX 2 90 0 0)) (s := s) (args := args) (rm := (rmX 1 60 0 0)) (mc := 0) (ms := 0) 1 hts gX2_proof_X2_set rfl rfl rfl (by decide +kernel) ⟨Nat.le_of_ble_eq_true rfl, Nat.le_of_ble_eq_true rfl⟩
  have lf36 := hts (.fieldLink RX2 36 "OrderRows2Model" "overs" "[J") (by decide +kernel)
  have lf32 := hts (.fieldLink RX2 32 "OrderRows2Model" "proved" "[Z") (by decide +kernel)
  have kl70 := hts (.constantLong RX2 70 (-1)) (by decide +kernel)
  refine lv_aload_n hx hb dX2_proof_0 rfl (lv_at hl 0 rfl) ?_
  refine lv_iconst (v := 0) hx hb dX2_proof_1 (by decide) ?_
  refine va_put (D := G.1) (ci := 3) (v := .int 0) (ty := .int) (own := RX2) (C := RX2) (T := TX2) (N := 17) hx hb hts hiX2 tyX2 tyX2_ok nmX2 hown hK.1 hP hD hS 0 rfl rfl 0 (by decide) lf52 (fun _ h9 => h9) rfl (by decide +kernel) rfl rfl (Nat.le_of_ble_eq_true rfl) dX2_proof_2 (fun H locs hP hD hS => ?_)
  have hP : va_P G.1 vwCl (MW G b 0 (nI (sN σ)) (uK μ) (uE μ) (uP μ) (uT μ) (uF μ) (uU μ) (uM μ) (uV μ) (uX μ) (sR σ) (sT σ) (uW μ) (nI (sG σ).length) (uG μ)) H := hP
  have hD : va_D A (MW G b 0 (nI (sN σ)) (uK μ) (uE μ) (uP μ) (uT μ) (uF μ) (uU μ) (uM μ) (uV μ) (uX μ) (sR σ) (sT σ) (uW μ) (nI (sG σ).length) (uG μ)) := hD
  refine lv_aload_n hx hb dX2_proof_5 rfl (lv_at hl 0 rfl) ?_
  refine lv_iload_n hx hb dX2_proof_6 rfl (lv_at hl 1 rfl) ?_
  refine rdV_i (b := b 0) (As := [.int o]) (rest := []) ⟨hx, hb, hml, hown, hts⟩ (c_X2_isOrder l G b μ σ hI hM o) cw80 hK hP 3 rfl rfl rfl rfl hl.1 rfl (Nat.le_of_ble_eq_true rfl) dX2_proof_7 ⟨Nat.zero_le _, Nat.zero_le _⟩ (fun r7_1 w7_1 => ?_)
  have w7_1 : ((r7_1.toInt = 1 ∧ (1 ≤ o.toInt ∧ o.toInt ≤ ((sN σ : Nat) : Int))) ∨ (r7_1.toInt = 0 ∧ ¬ (1 ≤ o.toInt ∧ o.toInt ≤ ((sN σ : Nat) : Int)))) := w7_1
  refine lv_if_ne (tgt := 16) hx hb dX2_proof_10 (by decide) (fun c10_2 => ?_) (fun c10_2 => ?_)
  · have c10_2 : ¬ ((r7_1).toInt = 0) := mt (ti_eq (x := r7_1) (y := 0) (a := (r7_1).toInt) (b := 0) rfl rfl).mpr c10_2
    obtain ⟨i, hi, hoi⟩ : ∃ i, i < sN σ ∧ o.toInt = ((i + 1 : Nat) : Int) := ⟨(o.toInt - 1).toNat, by omega, by omega⟩
    have eoi : oi o = i := by show (o.toInt - 1).toNat = i; omega
    have hmo1 := hM.1 i hi
    have hxi1 : ((oX (sO σ i)).toInt = 20001 ∧ ((uX μ) (i + 1)).toInt = -1) ∨ ((oX (sO σ i)).toInt ≠ 20001 ∧ ((uX μ) (i + 1)).toInt = (oX (sO σ i)).toInt) := XI_i hmo1.2.2.2.2.2.2.2.2
    have hoi1 := hI4 i hi
    unfold OI at hoi1
    refine lv_aload_n hx hb dX2_proof_16 rfl (lv_at hl 0 rfl) ?_
    refine lv_lload_n hx hb dX2_proof_17 rfl (lv_at hl 3 rfl) ?_
    refine rdV_i (b := b 0) (As := [.long t]) (rest := []) ⟨hx, hb, hml, hown, hts⟩ (c_X2_isDay l G b μ σ hI hM t) cw84 hK hP 3 rfl rfl rfl rfl hl.1 rfl (Nat.le_of_ble_eq_true rfl) dX2_proof_18 ⟨Nat.zero_le _, Nat.zero_le _⟩ (fun r18_3 w18_3 => ?_)
    have w18_3 : ((r18_3.toInt = 1 ∧ ((sT σ).toInt ≤ t.toInt ∧ t.toInt ≤ 20000)) ∨ (r18_3.toInt = 0 ∧ ¬ ((sT σ).toInt ≤ t.toInt ∧ t.toInt ≤ 20000))) := w18_3
    refine lv_if_ne (tgt := 27) hx hb dX2_proof_21 (by decide) (fun c21_4 => ?_) (fun c21_4 => ?_)
    · have c21_4 : ¬ ((r18_3).toInt = 0) := mt (ti_eq (x := r18_3) (y := 0) (a := (r18_3).toInt) (b := 0) rfl rfl).mpr c21_4
      refine lv_aload_n hx hb dX2_proof_27 rfl (lv_at hl 0 rfl) ?_
      refine lv_lload_n hx hb dX2_proof_28 rfl (lv_at hl 3 rfl) ?_
      have hck : clk σ t := by show 0 ≤ t.toInt ∧ t.toInt ≤ 20000 ∧ (sT σ).toInt ≤ t.toInt; omega
      refine wrV_i (wr := []) (b := b 0) (As := [.long t]) (rest := []) ⟨hx, hb, hml, hown, hts⟩ (c_X2_set l G b μ σ hI hM t hck) cw88 hK hZ hP hD hS hA 3 rfl rfl rfl rfl hl.1 rfl (Nat.le_of_ble_eq_true rfl) dX2_proof_29 ⟨Nat.zero_le _, Nat.zero_le _⟩ (fun r5 g H locs w5 hP hD hS => ?_)
      obtain ⟨w5, hM1⟩ := w5
      have hP : va_P G.1 vwCl (MW G b 0 (nI (sN σ)) (uK μ) (uE μ) (uP μ) (uT μ) (uF μ) (uU μ) (uM μ) (uV μ) g (sR σ) t (uW μ) (nI (sG σ).length) (uG μ)) H := hP
      have hD : va_D A (MW G b 0 (nI (sN σ)) (uK μ) (uE μ) (uP μ) (uT μ) (uF μ) (uU μ) (uM μ) (uV μ) g (sR σ) t (uW μ) (nI (sG σ).length) (uG μ)) := hD
      refine lv_istore (lv' := [(5, .int r5), (0, .ref (b 0)), (1, .int o), (2, .int gd), (3, .long t)]) hx hb dX2_proof_32 hl (by decide) rfl (fun ls hl => ?_)
      have hI1 := SI_mv hI hck
      have hmo2 := hM1.1 i hi
      have hxi2 : ((oX (sO (mvS σ t) i)).toInt = 20001 ∧ (g (i + 1)).toInt = -1) ∨ ((oX (sO (mvS σ t) i)).toInt ≠ 20001 ∧ (g (i + 1)).toInt = (oX (sO (mvS σ t) i)).toInt) := XI_i hmo2.2.2.2.2.2.2.2.2
      have hoi2 := hI1.2.2.2.1 i hi
      unfold OI at hoi2
      have eT1 : (sT (mvS σ t)).toInt = t.toInt := rfl
      refine lv_aload_n hx hb dX2_proof_34 rfl (lv_at hl 1 rfl) ?_
      refine va_get (D := G.1) (ci := 3) (v := .ref (b 9)) (own := RX2) (C := RX2) (T := TX2) (N := 17) hx hb hts hiX2 hown hK.1 hP 0 rfl rfl 10 (by decide) lf36 (fun _ h9 => h9) rfl dX2_proof_35 ?_
      refine lv_iload_n hx hb dX2_proof_38 rfl (lv_at hl 2 rfl) ?_
      refine my_lald hx hb hK hP 9 rfl (i + 1) hoi (by omega) dX2_proof_39 ?_
      refine lv_lconst (v := 0) hx hb dX2_proof_40 rfl ?_
      refine lc_ge (tgt := 54) hx hb dX2_proof_41 dX2_proof_42 (by decide) (fun c41_6 => ?_) (fun c41_6 => ?_)
      · have c41_6 : 0 ≤ ((g (i + 1))).toInt := (tl_le (x := 0) (y := (g (i + 1))) (a := 0) (b := ((g (i + 1))).toInt) rfl rfl).mp c41_6
        refine lv_bipush (v := (-103)) hx hb dX2_proof_54 (by decide) ?_
        have hF : fProof σ o gd t = ((-103), (mvS σ t)) := by unfold fProof; rw [if_neg (by omega), if_neg (by omega), eoi, if_pos (by omega)]
        exact hret _ _ _ _ _ _ _ (mX μ g) dX2_proof_56 (Or.inr (Or.inr rfl)) (by rw [hF]; exact ⟨rfl, hM1⟩) (by rw [hF]; exact hP) (by rw [hF]; exact hD) hS (Nat.le_refl _) (Nat.le_refl _)
      · have c41_6 : ¬ (0 ≤ ((g (i + 1))).toInt) := mt (tl_le (x := 0) (y := (g (i + 1))) (a := 0) (b := ((g (i + 1))).toInt) rfl rfl).mpr c41_6
        refine lv_aload_n hx hb dX2_proof_45 rfl (lv_at hl 1 rfl) ?_
        refine va_get (D := G.1) (ci := 3) (v := .ref (b 8)) (own := RX2) (C := RX2) (T := TX2) (N := 17) hx hb hts hiX2 hown hK.1 hP 0 rfl rfl 9 (by decide) lf32 (fun _ h9 => h9) rfl dX2_proof_46 ?_
        refine lv_iload_n hx hb dX2_proof_49 rfl (lv_at hl 2 rfl) ?_
        refine my_zald hx hb hK hP 8 rfl (i + 1) hoi (by omega) dX2_proof_50 ?_
        refine lv_if_eq (tgt := 57) hx hb dX2_proof_51 (by decide) (fun c51_7 => ?_) (fun c51_7 => ?_)
        · have c51_7 : (oP (sO (mvS σ t) i)).toInt = 0 := (ti_eq (x := ((uV μ) (i + 1))) (y := 0) (a := (oP (sO (mvS σ t) i)).toInt) (b := 0) (congrArg Int32.toInt hmo2.2.2.2.2.2.2.2.1) rfl).mp c51_7
          refine lv_aload_n hx hb dX2_proof_57 rfl (lv_at hl 1 rfl) ?_
          refine va_get (D := G.1) (ci := 3) (v := .ref (b 8)) (own := RX2) (C := RX2) (T := TX2) (N := 17) hx hb hts hiX2 hown hK.1 hP 0 rfl rfl 9 (by decide) lf32 (fun _ h9 => h9) rfl dX2_proof_58 ?_
          refine lv_iload_n hx hb dX2_proof_61 rfl (lv_at hl 2 rfl) ?_
          refine lv_iload_n hx hb dX2_proof_62 rfl (lv_at hl 3 rfl) ?_
          refine my_zast hx hb hK hP hD hS 8 rfl (x := gd) (i + 1) hoi (by omega) (nar_01 (by rcases hgd with h9 | h9; exact Or.inl (ti_inj h9); exact Or.inr (ti_inj h9))) dX2_proof_63 (fun H locs hP hD hS => ?_)
          have hP : va_P G.1 vwCl (MW G b 0 (nI (sN σ)) (uK μ) (uE μ) (uP μ) (uT μ) (uF μ) (uU μ) (uM μ) (upd (uV μ) (i + 1) gd) g (sR σ) t (uW μ) (nI (sG σ).length) (uG μ)) H := hP
          have hD : va_D A (MW G b 0 (nI (sN σ)) (uK μ) (uE μ) (uP μ) (uT μ) (uF μ) (uU μ) (uM μ) (upd (uV μ) (i + 1) gd) g (sR σ) t (uW μ) (nI (sG σ).length) (uG μ)) := hD
          refine lv_aload_n hx hb dX2_proof_64 rfl (lv_at hl 1 rfl) ?_
          refine va_get (D := G.1) (ci := 3) (v := .ref (b 9)) (own := RX2) (C := RX2) (T := TX2) (N := 17) hx hb hts hiX2 hown hK.1 hP 0 rfl rfl 10 (by decide) lf36 (fun _ h9 => h9) rfl dX2_proof_65 ?_
          refine lv_iload_n hx hb dX2_proof_68 rfl (lv_at hl 2 rfl) ?_
          refine lv_iload_n hx hb dX2_proof_69 rfl (lv_at hl 3 rfl) ?_
          refine lv_if_eq (tgt := 79) hx hb dX2_proof_70 (by decide) (fun c70_8 => ?_) (fun c70_8 => ?_)
          · have c70_8 : (gd).toInt = 0 := (ti_eq (x := gd) (y := 0) (a := (gd).toInt) (b := 0) rfl rfl).mp c70_8
            refine lv_lload_n hx hb dX2_proof_79 rfl (lv_at hl 4 rfl) ?_
            refine my_last hx hb hK hP hD hS 9 rfl (x := t) (i + 1) hoi (by omega) dX2_proof_80 (fun H locs hP hD hS => ?_)
            have hP : va_P G.1 vwCl (MW G b 0 (nI (sN σ)) (uK μ) (uE μ) (uP μ) (uT μ) (uF μ) (uU μ) (uM μ) (upd (uV μ) (i + 1) gd) (vp_updL g (i + 1) t) (sR σ) t (uW μ) (nI (sG σ).length) (uG μ)) H := hP
            have hD : va_D A (MW G b 0 (nI (sN σ)) (uK μ) (uE μ) (uP μ) (uT μ) (uF μ) (uU μ) (uM μ) (upd (uV μ) (i + 1) gd) (vp_updL g (i + 1) t) (sR σ) t (uW μ) (nI (sG σ).length) (uG μ)) := hD
            refine lv_iload_n hx hb dX2_proof_81 rfl (lv_at hl 3 rfl) ?_
            refine lv_if_eq (tgt := 89) hx hb dX2_proof_82 (by decide) (fun c82_9 => ?_) (fun c82_9 => ?_)
            · have c82_9 : (gd).toInt = 0 := (ti_eq (x := gd) (y := 0) (a := (gd).toInt) (b := 0) rfl rfl).mp c82_9
              refine lv_iconst (v := 0) hx hb dX2_proof_89 (by decide) ?_
              have hM2 : MI (mV (mX μ (vp_updL g (i + 1) t)) (upd (uV μ) (i + 1) gd)) (sPut (mvS σ t) i (oSX (sO (mvS σ t) i) t)) := by
                refine MI_upd hM1 (fun j o1 hj h => ?_) ?_ (fun j hj => ?_) rfl
                · obtain ⟨h1, h2, h3, h4, h5, h6, h7, h8, h9⟩ := h
                  exact ⟨h1, h2, h3, h4, h5, h6, h7, (pk_un hj).trans h8, by show XI _ (vp_updL g (i + 1) t j); rw [pk_uLn hj]; exact h9⟩
                · obtain ⟨h1, h2, h3, h4, h5, h6, h7, h8, h9⟩ := hmo2
                  exact ⟨h1, h2, h3, h4, h5, h6, h7, pk_us.trans (ti_inj (show gd.toInt = (oP (sO (mvS σ t) i)).toInt by omega)), Or.inr ⟨by show t.toInt ≠ 20001; omega, pk_uLs⟩⟩
                · exact pk_un (by have hj : sN σ < j := hj; omega)
              have hF : fProof σ o gd t = (0, sPut (mvS σ t) i (oSX (sO (mvS σ t) i) t)) := by unfold fProof; rw [if_neg (by omega), if_neg (by omega), eoi, if_neg (by omega), if_pos (by omega)]
              exact hret _ _ _ _ _ _ _ (mV (mX μ (vp_updL g (i + 1) t)) (upd (uV μ) (i + 1) gd)) dX2_proof_90 (Or.inr (Or.inr rfl)) (by rw [hF]; exact ⟨rfl, hM2⟩) (by rw [hF]; exact hP) (by rw [hF]; exact hD) hS (Nat.le_refl _) (Nat.le_refl _)
            · have c82_9 : ¬ ((gd).toInt = 0) := mt (ti_eq (x := gd) (y := 0) (a := (gd).toInt) (b := 0) rfl rfl).mpr c82_9
              exfalso; omega
          · have c70_8 : ¬ ((gd).toInt = 0) := mt (ti_eq (x := gd) (y := 0) (a := (gd).toInt) (b := 0) rfl rfl).mpr c70_8
            refine lv_ldc2 (v := (-1)) hx hb hown kl70 dX2_proof_73 ?_
            refine lv_goto (tgt := 80) hx hb dX2_proof_76 (by decide) ?_
            refine my_last hx hb hK hP hD hS 9 rfl (x := (-1)) (i + 1) hoi (by omega) dX2_proof_80 (fun H locs hP hD hS => ?_)
            have hP : va_P G.1 vwCl (MW G b 0 (nI (sN σ)) (uK μ) (uE μ) (uP μ) (uT μ) (uF μ) (uU μ) (uM μ) (upd (uV μ) (i + 1) gd) (vp_updL g (i + 1) (-1)) (sR σ) t (uW μ) (nI (sG σ).length) (uG μ)) H := hP
            have hD : va_D A (MW G b 0 (nI (sN σ)) (uK μ) (uE μ) (uP μ) (uT μ) (uF μ) (uU μ) (uM μ) (upd (uV μ) (i + 1) gd) (vp_updL g (i + 1) (-1)) (sR σ) t (uW μ) (nI (sG σ).length) (uG μ)) := hD
            refine lv_iload_n hx hb dX2_proof_81 rfl (lv_at hl 3 rfl) ?_
            refine lv_if_eq (tgt := 89) hx hb dX2_proof_82 (by decide) (fun c82_10 => ?_) (fun c82_10 => ?_)
            · have c82_10 : (gd).toInt = 0 := (ti_eq (x := gd) (y := 0) (a := (gd).toInt) (b := 0) rfl rfl).mp c82_10
              exfalso; omega
            · have c82_10 : ¬ ((gd).toInt = 0) := mt (ti_eq (x := gd) (y := 0) (a := (gd).toInt) (b := 0) rfl rfl).mpr c82_10
              refine lv_iconst (v := 1) hx hb dX2_proof_85 (by decide) ?_
              refine lv_goto (tgt := 90) hx hb dX2_proof_86 (by decide) ?_
              have hM2 : MI (mV (mX μ (vp_updL g (i + 1) (-1))) (upd (uV μ) (i + 1) gd)) (sPut (mvS σ t) i (oSP (sO (mvS σ t) i) 1)) := by
                refine MI_upd hM1 (fun j o1 hj h => ?_) ?_ (fun j hj => ?_) rfl
                · obtain ⟨h1, h2, h3, h4, h5, h6, h7, h8, h9⟩ := h
                  exact ⟨h1, h2, h3, h4, h5, h6, h7, (pk_un hj).trans h8, by show XI _ (vp_updL g (i + 1) (-1) j); rw [pk_uLn hj]; exact h9⟩
                · obtain ⟨h1, h2, h3, h4, h5, h6, h7, h8, h9⟩ := hmo2
                  exact ⟨h1, h2, h3, h4, h5, h6, h7, pk_us.trans (ti_inj (show gd.toInt = 1 by omega)), Or.inl ⟨by show (oX (sO (mvS σ t) i)).toInt = 20001; omega, by show (vp_updL g (i + 1) (-1) (i + 1)).toInt = -1; rw [pk_uLs]; rfl⟩⟩
                · exact pk_un (by have hj : sN σ < j := hj; omega)
              have hF : fProof σ o gd t = (1, sPut (mvS σ t) i (oSP (sO (mvS σ t) i) 1)) := by unfold fProof; rw [if_neg (by omega), if_neg (by omega), eoi, if_neg (by omega), if_neg (by omega)]
              exact hret _ _ _ _ _ _ _ (mV (mX μ (vp_updL g (i + 1) (-1))) (upd (uV μ) (i + 1) gd)) dX2_proof_90 (Or.inr (Or.inr rfl)) (by rw [hF]; exact ⟨rfl, hM2⟩) (by rw [hF]; exact hP) (by rw [hF]; exact hD) hS (Nat.le_refl _) (Nat.le_refl _)
        · have c51_7 : ¬ ((oP (sO (mvS σ t) i)).toInt = 0) := mt (ti_eq (x := ((uV μ) (i + 1))) (y := 0) (a := (oP (sO (mvS σ t) i)).toInt) (b := 0) (congrArg Int32.toInt hmo2.2.2.2.2.2.2.2.1) rfl).mpr c51_7
          refine lv_bipush (v := (-103)) hx hb dX2_proof_54 (by decide) ?_
          have hF : fProof σ o gd t = ((-103), (mvS σ t)) := by unfold fProof; rw [if_neg (by omega), if_neg (by omega), eoi, if_pos (by omega)]
          exact hret _ _ _ _ _ _ _ (mX μ g) dX2_proof_56 (Or.inr (Or.inr rfl)) (by rw [hF]; exact ⟨rfl, hM1⟩) (by rw [hF]; exact hP) (by rw [hF]; exact hD) hS (Nat.le_refl _) (Nat.le_refl _)
    · have c21_4 : (r18_3).toInt = 0 := (ti_eq (x := r18_3) (y := 0) (a := (r18_3).toInt) (b := 0) rfl rfl).mp c21_4
      refine lv_bipush (v := (-102)) hx hb dX2_proof_24 (by decide) ?_
      have hF : fProof σ o gd t = ((-102), σ) := by unfold fProof; rw [if_neg (by omega), if_pos (by omega)]
      exact hret _ _ _ _ _ _ _ μ dX2_proof_26 (Or.inr (Or.inr rfl)) (by rw [hF]; exact ⟨rfl, hM⟩) (by rw [hF]; exact hP) (by rw [hF]; exact hD) hS (Nat.le_refl _) (Nat.le_refl _)
  · have c10_2 : (r7_1).toInt = 0 := (ti_eq (x := r7_1) (y := 0) (a := (r7_1).toInt) (b := 0) rfl rfl).mp c10_2
    refine lv_bipush (v := (-101)) hx hb dX2_proof_13 (by decide) ?_
    have hF : fProof σ o gd t = ((-101), σ) := if_pos (by show ¬ (1 ≤ o.toInt ∧ o.toInt ≤ ((sN σ : Nat) : Int)); omega)
    exact hret _ _ _ _ _ _ _ μ dX2_proof_15 (Or.inr (Or.inr rfl)) (by rw [hF]; exact ⟨rfl, hM⟩) (by rw [hF]; exact hP) (by rw [hF]; exact hD) hS (Nat.le_refl _) (Nat.le_refl _)
