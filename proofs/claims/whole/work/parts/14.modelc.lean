-- ===== laid by wip/whole/gen.py out of the decode rows =====
set_option maxHeartbeats 4000000 in
set_option maxRecDepth 100000 in
/-- order -/
theorem c_X2_order (l : Launch) (G : GG) (b : Nat → Nat) (μ : MP) (σ : St) (hI : SI σ) (hM : MI μ σ) (kd en wh to : Int32) (fr un : Int64) : WrI l yX2_order wsX2_order (rmX 1 60 0 0) G [.ref (b 0), .int kd, .int en, .int wh, .int to, .long fr, .long un] (WM G b μ σ) (fun (r : Int32) (u : MP) => r = (fOrder σ kd en wh to fr un).1 ∧ MI u (fOrder σ kd en wh to fr un).2) (fun u : MP => WM G b u (fOrder σ kd en wh to fr un).2) 0 0 := by
  refine wr_of_i (cc := cX2_order) (maxL := 10) (t := .int) (by decide +kernel) rfl (Nat.le_of_ble_eq_true rfl) nar_int ?_
  intro p e s m args below meth c Q A hx hb hml hown hts hK hZ hA hret ls hl hP hD hS
  have hown : s.vm.findClass RX2 = some m.cls := hown
  have hl : lv_has ls 10 [(0, .ref (b 0)), (1, .int kd), (2, .int en), (3, .int wh), (4, .int to), (5, .long fr), (7, .long un)] := hl
  have hP : va_P G.1 vwCl (MW G b 0 (nI (sN σ)) (uK μ) (uE μ) (uP μ) (uT μ) (uF μ) (uU μ) (uM μ) (uV μ) (uX μ) (sR σ) (sT σ) (uW μ) (nI (sG σ).length) (uG μ)) s.heap := hP
  have hD : va_D A (MW G b 0 (nI (sN σ)) (uK μ) (uE μ) (uP μ) (uT μ) (uF μ) (uU μ) (uM μ) (uV μ) (uX μ) (sR σ) (sT σ) (uW μ) (nI (sG σ).length) (uG μ)) := hD
  obtain ⟨hI1, hI2, hI3, hI4, hI5⟩ := id hI
  have hiX2 := (show ∀ w ∈ u_ws RX2 TX2 17, w ∈ wsX2_order by decide +kernel)
  have lf52 := hts (.fieldLink RX2 52 "OrderRows2Model" "thrown" "I") (by decide +kernel)
  have kl68 := hts (.constantLong RX2 68 (99)) (by decide +kernel)
  have cw58 := va_cwS (R := (rmX 1 60 0 0)) (s := s) (args := args) (rm := (rmX 0 0 0 0)) (mc := 0) (ms := 0) 3 hts gX2_order_X2_isIn rfl rfl rfl (by decide +kernel) ⟨Nat.le_of_ble_eq_true rfl, Nat.le_of_ble_eq_true rfl⟩
  have kl70 := hts (.constantLong RX2 70 (-1)) (by decide +kernel)
  have kl72 := hts (.constantLong RX2 72 (49)) (by decide +kernel)
  have kl74 := hts (.constantLong RX2 74 (8)) (by decide +kernel)
  have kl66 := hts (.constantLong RX2 66 (20000)) (by decide +kernel)
  have lf55 := hts (.fieldLink RX2 55 "OrderRows2Model" "orders" "I") (by decide +kernel)
  have lf7 := hts (.fieldLink RX2 7 "OrderRows2Model" "kinds" "[I") (by decide +kernel)
  have lf13 := hts (.fieldLink RX2 13 "OrderRows2Model" "entries" "[I") (by decide +kernel)
  have lf16 := hts (.fieldLink RX2 16 "OrderRows2Model" "persons" "[I") (by decide +kernel)
  have lf19 := hts (.fieldLink RX2 19 "OrderRows2Model" "tos" "[I") (by decide +kernel)
  have lf22 := hts (.fieldLink RX2 22 "OrderRows2Model" "froms" "[J") (by decide +kernel)
  have lf26 := hts (.fieldLink RX2 26 "OrderRows2Model" "untils" "[J") (by decide +kernel)
  have lf29 := hts (.fieldLink RX2 29 "OrderRows2Model" "made" "[J") (by decide +kernel)
  have lf62 := hts (.fieldLink RX2 62 "OrderRows2Model" "now" "J") (by decide +kernel)
  have lf36 := hts (.fieldLink RX2 36 "OrderRows2Model" "overs" "[J") (by decide +kernel)
  refine lv_aload_n hx hb dX2_order_0 rfl (lv_at hl 0 rfl) ?_
  refine lv_iconst (v := 0) hx hb dX2_order_1 (by decide) ?_
  refine va_put (D := G.1) (ci := 3) (v := .int 0) (ty := .int) (own := RX2) (C := RX2) (T := TX2) (N := 17) hx hb hts hiX2 tyX2 tyX2_ok nmX2 hown hK.1 hP hD hS 0 rfl rfl 0 (by decide) lf52 (fun _ h9 => h9) rfl (by decide +kernel) rfl rfl (Nat.le_of_ble_eq_true rfl) dX2_order_2 (fun H locs hP hD hS => ?_)
  have hP : va_P G.1 vwCl (MW G b 0 (nI (sN σ)) (uK μ) (uE μ) (uP μ) (uT μ) (uF μ) (uU μ) (uM μ) (uV μ) (uX μ) (sR σ) (sT σ) (uW μ) (nI (sG σ).length) (uG μ)) H := hP
  have hD : va_D A (MW G b 0 (nI (sN σ)) (uK μ) (uE μ) (uP μ) (uT μ) (uF μ) (uU μ) (uM μ) (uV μ) (uX μ) (sR σ) (sT σ) (uW μ) (nI (sG σ).length) (uG μ)) := hD
  refine lv_iload_n hx hb dX2_order_5 rfl (lv_at hl 1 rfl) ?_
  refine lv_if_lt (tgt := 18) hx hb dX2_order_6 (by decide) (fun c6_1 => ?_) (fun c6_1 => ?_)
  · have c6_1 : (kd).toInt < 0 := (ti_lt (x := kd) (y := 0) (a := (kd).toInt) (b := 0) rfl rfl).mp c6_1
    refine lv_iconst (v := 0) hx hb dX2_order_18 (by decide) ?_
    refine lv_istore (lv' := [(9, .int 0), (0, .ref (b 0)), (1, .int kd), (2, .int en), (3, .int wh), (4, .int to), (5, .long fr), (7, .long un)]) hx hb dX2_order_19 hl (by decide) rfl (fun ls hl => ?_)
    refine lv_iload_n hx hb dX2_order_21 rfl (lv_at hl 3 rfl) ?_
    refine lv_i2l hx hb dX2_order_22 rfl ?_
    refine lv_lconst (v := 1) hx hb dX2_order_23 rfl ?_
    refine lv_ldc2 (v := 99) hx hb hown kl68 dX2_order_24 ?_
    refine rdS_i (As := [.long ((en).toInt64), .long 1, .long 99]) (rest := []) ⟨hx, hb, hml, hown, hts⟩ (c_X2_isIn l G ((en).toInt64 : Int64) (1 : Int64) (99 : Int64)) cw58 hK va_P.nil rfl hl.1 rfl (Nat.le_of_ble_eq_true rfl) dX2_order_27 ⟨Nat.zero_le _, Nat.zero_le _⟩ (fun r27_2 w27_2 => ?_)
    have w27_2 : ((r27_2.toInt = 1 ∧ (((1 : Int64)).toInt ≤ (((en).toInt64 : Int64)).toInt ∧ (((en).toInt64 : Int64)).toInt ≤ ((99 : Int64)).toInt)) ∨ (r27_2.toInt = 0 ∧ ¬ (((1 : Int64)).toInt ≤ (((en).toInt64 : Int64)).toInt ∧ (((en).toInt64 : Int64)).toInt ≤ ((99 : Int64)).toInt))) := w27_2
    have va3 : (((en).toInt64 : Int64)).toInt = (en).toInt := (tl_i2l rfl)
    have va4 : ((1 : Int64)).toInt = 1 := rfl
    have va5 : ((99 : Int64)).toInt = 99 := rfl
    refine lv_if_eq (tgt := 65) hx hb dX2_order_30 (by decide) (fun c30_6 => ?_) (fun c30_6 => ?_)
    · have c30_6 : (r27_2).toInt = 0 := (ti_eq (x := r27_2) (y := 0) (a := (r27_2).toInt) (b := 0) rfl rfl).mp c30_6
      refine lv_bipush (v := (-101)) hx hb dX2_order_65 (by decide) ?_
      have hF : fOrder σ kd en wh to fr un = ((-101), σ) := if_pos (by omega)
      exact hret _ _ _ _ _ _ _ μ dX2_order_67 (Or.inr (Or.inr rfl)) (by rw [hF]; exact ⟨rfl, hM⟩) (by rw [hF]; exact hP) (by rw [hF]; exact hD) hS (Nat.le_refl _) (Nat.le_refl _)
    · have c30_6 : ¬ ((r27_2).toInt = 0) := mt (ti_eq (x := r27_2) (y := 0) (a := (r27_2).toInt) (b := 0) rfl rfl).mpr c30_6
      refine lv_iload_n hx hb dX2_order_33 rfl (lv_at hl 4 rfl) ?_
      refine lv_i2l hx hb dX2_order_34 rfl ?_
      refine lv_ldc2 (v := (-1)) hx hb hown kl70 dX2_order_35 ?_
      refine lv_ldc2 (v := 49) hx hb hown kl72 dX2_order_38 ?_
      refine rdS_i (As := [.long ((wh).toInt64), .long (-1), .long 49]) (rest := []) ⟨hx, hb, hml, hown, hts⟩ (c_X2_isIn l G ((wh).toInt64 : Int64) ((-1) : Int64) (49 : Int64)) cw58 hK va_P.nil rfl hl.1 rfl (Nat.le_of_ble_eq_true rfl) dX2_order_41 ⟨Nat.zero_le _, Nat.zero_le _⟩ (fun r41_7 w41_7 => ?_)
      have w41_7 : ((r41_7.toInt = 1 ∧ ((((-1) : Int64)).toInt ≤ (((wh).toInt64 : Int64)).toInt ∧ (((wh).toInt64 : Int64)).toInt ≤ ((49 : Int64)).toInt)) ∨ (r41_7.toInt = 0 ∧ ¬ ((((-1) : Int64)).toInt ≤ (((wh).toInt64 : Int64)).toInt ∧ (((wh).toInt64 : Int64)).toInt ≤ ((49 : Int64)).toInt))) := w41_7
      have va8 : (((wh).toInt64 : Int64)).toInt = (wh).toInt := (tl_i2l rfl)
      have va9 : (((-1) : Int64)).toInt = (-1) := rfl
      have va10 : ((49 : Int64)).toInt = 49 := rfl
      refine lv_if_eq (tgt := 65) hx hb dX2_order_44 (by decide) (fun c44_11 => ?_) (fun c44_11 => ?_)
      · have c44_11 : (r41_7).toInt = 0 := (ti_eq (x := r41_7) (y := 0) (a := (r41_7).toInt) (b := 0) rfl rfl).mp c44_11
        refine lv_bipush (v := (-101)) hx hb dX2_order_65 (by decide) ?_
        have hF : fOrder σ kd en wh to fr un = ((-101), σ) := if_pos (by omega)
        exact hret _ _ _ _ _ _ _ μ dX2_order_67 (Or.inr (Or.inr rfl)) (by rw [hF]; exact ⟨rfl, hM⟩) (by rw [hF]; exact hP) (by rw [hF]; exact hD) hS (Nat.le_refl _) (Nat.le_refl _)
      · have c44_11 : ¬ ((r41_7).toInt = 0) := mt (ti_eq (x := r41_7) (y := 0) (a := (r41_7).toInt) (b := 0) rfl rfl).mpr c44_11
        refine lv_iload hx hb dX2_order_47 (lv_at hl 0 rfl) ?_
        refine lv_if_eq (tgt := 68) hx hb dX2_order_49 (by decide) (fun _ => ?_) (fun c49_12 => absurd (by decide) c49_12)
        refine lv_iload_n hx hb dX2_order_68 rfl (lv_at hl 2 rfl) ?_
        refine lv_i2l hx hb dX2_order_69 rfl ?_
        refine lv_lconst (v := 0) hx hb dX2_order_70 rfl ?_
        refine lv_ldc2 (v := 8) hx hb hown kl74 dX2_order_71 ?_
        refine rdS_i (As := [.long ((kd).toInt64), .long 0, .long 8]) (rest := []) ⟨hx, hb, hml, hown, hts⟩ (c_X2_isIn l G ((kd).toInt64 : Int64) (0 : Int64) (8 : Int64)) cw58 hK va_P.nil rfl hl.1 rfl (Nat.le_of_ble_eq_true rfl) dX2_order_74 ⟨Nat.zero_le _, Nat.zero_le _⟩ (fun r74_13 w74_13 => ?_)
        have w74_13 : ((r74_13.toInt = 1 ∧ (((0 : Int64)).toInt ≤ (((kd).toInt64 : Int64)).toInt ∧ (((kd).toInt64 : Int64)).toInt ≤ ((8 : Int64)).toInt)) ∨ (r74_13.toInt = 0 ∧ ¬ (((0 : Int64)).toInt ≤ (((kd).toInt64 : Int64)).toInt ∧ (((kd).toInt64 : Int64)).toInt ≤ ((8 : Int64)).toInt))) := w74_13
        have va14 : (((kd).toInt64 : Int64)).toInt = (kd).toInt := (tl_i2l rfl)
        have va15 : ((0 : Int64)).toInt = 0 := rfl
        have va16 : ((8 : Int64)).toInt = 8 := rfl
        refine lv_if_eq (tgt := 115) hx hb dX2_order_77 (by decide) (fun c77_17 => ?_) (fun c77_17 => ?_)
        · have c77_17 : (r74_13).toInt = 0 := (ti_eq (x := r74_13) (y := 0) (a := (r74_13).toInt) (b := 0) rfl rfl).mp c77_17
          refine lv_bipush (v := (-102)) hx hb dX2_order_115 (by decide) ?_
          have hF : fOrder σ kd en wh to fr un = ((-102), σ) := (if_neg (by omega)).trans (if_pos (by omega))
          exact hret _ _ _ _ _ _ _ μ dX2_order_117 (Or.inr (Or.inr rfl)) (by rw [hF]; exact ⟨rfl, hM⟩) (by rw [hF]; exact hP) (by rw [hF]; exact hD) hS (Nat.le_refl _) (Nat.le_refl _)
        · have c77_17 : ¬ ((r74_13).toInt = 0) := mt (ti_eq (x := r74_13) (y := 0) (a := (r74_13).toInt) (b := 0) rfl rfl).mpr c77_17
          refine lv_lload hx hb dX2_order_80 (lv_at hl 6 rfl) ?_
          refine lv_lconst (v := 0) hx hb dX2_order_82 rfl ?_
          refine lc_lt (tgt := 115) hx hb dX2_order_83 dX2_order_84 (by decide) (fun c83_18 => ?_) (fun c83_18 => ?_)
          · have c83_18 : (fr).toInt < 0 := (tl_lt (x := fr) (y := 0) (a := (fr).toInt) (b := 0) rfl rfl).mp c83_18
            refine lv_bipush (v := (-102)) hx hb dX2_order_115 (by decide) ?_
            have hF : fOrder σ kd en wh to fr un = ((-102), σ) := (if_neg (by omega)).trans (if_pos (by omega))
            exact hret _ _ _ _ _ _ _ μ dX2_order_117 (Or.inr (Or.inr rfl)) (by rw [hF]; exact ⟨rfl, hM⟩) (by rw [hF]; exact hP) (by rw [hF]; exact hD) hS (Nat.le_refl _) (Nat.le_refl _)
          · have c83_18 : ¬ ((fr).toInt < 0) := mt (tl_lt (x := fr) (y := 0) (a := (fr).toInt) (b := 0) rfl rfl).mpr c83_18
            refine lv_lload hx hb dX2_order_87 (lv_at hl 6 rfl) ?_
            refine lv_lload hx hb dX2_order_89 (lv_at hl 7 rfl) ?_
            refine lc_gt (tgt := 115) hx hb dX2_order_91 dX2_order_92 (by decide) (fun c91_19 => ?_) (fun c91_19 => ?_)
            · have c91_19 : (un).toInt < (fr).toInt := (tl_lt (x := un) (y := fr) (a := (un).toInt) (b := (fr).toInt) rfl rfl).mp c91_19
              refine lv_bipush (v := (-102)) hx hb dX2_order_115 (by decide) ?_
              have hF : fOrder σ kd en wh to fr un = ((-102), σ) := (if_neg (by omega)).trans (if_pos (by omega))
              exact hret _ _ _ _ _ _ _ μ dX2_order_117 (Or.inr (Or.inr rfl)) (by rw [hF]; exact ⟨rfl, hM⟩) (by rw [hF]; exact hP) (by rw [hF]; exact hD) hS (Nat.le_refl _) (Nat.le_refl _)
            · have c91_19 : ¬ ((un).toInt < (fr).toInt) := mt (tl_lt (x := un) (y := fr) (a := (un).toInt) (b := (fr).toInt) rfl rfl).mpr c91_19
              refine lv_lload hx hb dX2_order_95 (lv_at hl 7 rfl) ?_
              refine lv_ldc2 (v := 20000) hx hb hown kl66 dX2_order_97 ?_
              refine lc_gt (tgt := 115) hx hb dX2_order_100 dX2_order_101 (by decide) (fun c100_20 => ?_) (fun c100_20 => ?_)
              · have c100_20 : 20000 < (un).toInt := (tl_lt (x := 20000) (y := un) (a := 20000) (b := (un).toInt) rfl rfl).mp c100_20
                refine lv_bipush (v := (-102)) hx hb dX2_order_115 (by decide) ?_
                have hF : fOrder σ kd en wh to fr un = ((-102), σ) := (if_neg (by omega)).trans (if_pos (by omega))
                exact hret _ _ _ _ _ _ _ μ dX2_order_117 (Or.inr (Or.inr rfl)) (by rw [hF]; exact ⟨rfl, hM⟩) (by rw [hF]; exact hP) (by rw [hF]; exact hD) hS (Nat.le_refl _) (Nat.le_refl _)
              · have c100_20 : ¬ (20000 < (un).toInt) := mt (tl_lt (x := 20000) (y := un) (a := 20000) (b := (un).toInt) rfl rfl).mpr c100_20
                refine lv_iload hx hb dX2_order_104 (lv_at hl 0 rfl) ?_
                refine lv_if_eq (tgt := 118) hx hb dX2_order_106 (by decide) (fun _ => ?_) (fun c106_21 => absurd (by decide) c106_21)
                refine lv_aload_n hx hb dX2_order_118 rfl (lv_at hl 1 rfl) ?_
                refine va_get (D := G.1) (ci := 3) (v := .int (nI (sN σ))) (own := RX2) (C := RX2) (T := TX2) (N := 17) hx hb hts hiX2 hown hK.1 hP 0 rfl rfl 1 (by decide) lf55 (fun _ h9 => h9) rfl dX2_order_119 ?_
                refine lv_sipush (v := 200) hx hb dX2_order_122 (by decide) ?_
                refine lv_icmp_ne (tgt := 131) hx hb dX2_order_125 (by decide) (fun c125_22 => ?_) (fun c125_22 => ?_)
                · have c125_22 : ¬ ((((sN σ) : Nat) : Int) = 200) := mt (ti_eq (x := (nI (sN σ))) (y := 200) (a := (((sN σ) : Nat) : Int)) (b := 200) (ti_nI (by omega)) rfl).mpr c125_22
                  refine lv_aload_n hx hb dX2_order_131 rfl (lv_at hl 1 rfl) ?_
                  refine lv_dup hx hb dX2_order_132 rfl ?_
                  refine va_get (D := G.1) (ci := 3) (v := .int (nI (sN σ))) (own := RX2) (C := RX2) (T := TX2) (N := 17) hx hb hts hiX2 hown hK.1 hP 0 rfl rfl 1 (by decide) lf55 (fun _ h9 => h9) rfl dX2_order_133 ?_
                  refine lv_iconst (v := 1) hx hb dX2_order_136 (by decide) ?_
                  refine lv_iadd hx hb dX2_order_137 ?_
                  refine lv_topi (fun y137_23 e137_23 => ?_)
                  have v137_23 : (y137_23).toInt = ((((sN σ) + 1) : Nat) : Int) := by rw [e137_23]; exact (ti_add (a := (((sN σ) : Nat) : Int)) (b := 1) (ti_nI (by omega)) rfl (by omega) (by omega)).trans (by omega)
                  refine va_put (D := G.1) (ci := 3) (v := .int y137_23) (ty := .int) (own := RX2) (C := RX2) (T := TX2) (N := 17) hx hb hts hiX2 tyX2 tyX2_ok nmX2 hown hK.1 hP hD hS 0 rfl rfl 1 (by decide) lf55 (fun _ h9 => h9) rfl (by decide +kernel) rfl rfl (Nat.le_of_ble_eq_true rfl) dX2_order_138 (fun H locs hP hD hS => ?_)
                  have hP : va_P G.1 vwCl (MW G b 0 y137_23 (uK μ) (uE μ) (uP μ) (uT μ) (uF μ) (uU μ) (uM μ) (uV μ) (uX μ) (sR σ) (sT σ) (uW μ) (nI (sG σ).length) (uG μ)) H := hP
                  have hD : va_D A (MW G b 0 y137_23 (uK μ) (uE μ) (uP μ) (uT μ) (uF μ) (uU μ) (uM μ) (uV μ) (uX μ) (sR σ) (sT σ) (uW μ) (nI (sG σ).length) (uG μ)) := hD
                  refine lv_aload_n hx hb dX2_order_141 rfl (lv_at hl 1 rfl) ?_
                  refine va_get (D := G.1) (ci := 3) (v := .ref (b 1)) (own := RX2) (C := RX2) (T := TX2) (N := 17) hx hb hts hiX2 hown hK.1 hP 0 rfl rfl 2 (by decide) lf7 (fun _ h9 => h9) rfl dX2_order_142 ?_
                  refine lv_aload_n hx hb dX2_order_145 rfl (lv_at hl 1 rfl) ?_
                  refine va_get (D := G.1) (ci := 3) (v := .int y137_23) (own := RX2) (C := RX2) (T := TX2) (N := 17) hx hb hts hiX2 hown hK.1 hP 0 rfl rfl 1 (by decide) lf55 (fun _ h9 => h9) rfl dX2_order_146 ?_
                  refine lv_iload_n hx hb dX2_order_149 rfl (lv_at hl 2 rfl) ?_
                  refine my_iast hx hb hK hP hD hS 1 rfl (x := kd) ((sN σ) + 1) v137_23 (by omega) dX2_order_150 (fun H locs hP hD hS => ?_)
                  have hP : va_P G.1 vwCl (MW G b 0 y137_23 (upd (uK μ) ((sN σ) + 1) kd) (uE μ) (uP μ) (uT μ) (uF μ) (uU μ) (uM μ) (uV μ) (uX μ) (sR σ) (sT σ) (uW μ) (nI (sG σ).length) (uG μ)) H := hP
                  have hD : va_D A (MW G b 0 y137_23 (upd (uK μ) ((sN σ) + 1) kd) (uE μ) (uP μ) (uT μ) (uF μ) (uU μ) (uM μ) (uV μ) (uX μ) (sR σ) (sT σ) (uW μ) (nI (sG σ).length) (uG μ)) := hD
                  refine lv_aload_n hx hb dX2_order_151 rfl (lv_at hl 1 rfl) ?_
                  refine va_get (D := G.1) (ci := 3) (v := .ref (b 2)) (own := RX2) (C := RX2) (T := TX2) (N := 17) hx hb hts hiX2 hown hK.1 hP 0 rfl rfl 3 (by decide) lf13 (fun _ h9 => h9) rfl dX2_order_152 ?_
                  refine lv_aload_n hx hb dX2_order_155 rfl (lv_at hl 1 rfl) ?_
                  refine va_get (D := G.1) (ci := 3) (v := .int y137_23) (own := RX2) (C := RX2) (T := TX2) (N := 17) hx hb hts hiX2 hown hK.1 hP 0 rfl rfl 1 (by decide) lf55 (fun _ h9 => h9) rfl dX2_order_156 ?_
                  refine lv_iload_n hx hb dX2_order_159 rfl (lv_at hl 3 rfl) ?_
                  refine my_iast hx hb hK hP hD hS 2 rfl (x := en) ((sN σ) + 1) v137_23 (by omega) dX2_order_160 (fun H locs hP hD hS => ?_)
                  have hP : va_P G.1 vwCl (MW G b 0 y137_23 (upd (uK μ) ((sN σ) + 1) kd) (upd (uE μ) ((sN σ) + 1) en) (uP μ) (uT μ) (uF μ) (uU μ) (uM μ) (uV μ) (uX μ) (sR σ) (sT σ) (uW μ) (nI (sG σ).length) (uG μ)) H := hP
                  have hD : va_D A (MW G b 0 y137_23 (upd (uK μ) ((sN σ) + 1) kd) (upd (uE μ) ((sN σ) + 1) en) (uP μ) (uT μ) (uF μ) (uU μ) (uM μ) (uV μ) (uX μ) (sR σ) (sT σ) (uW μ) (nI (sG σ).length) (uG μ)) := hD
                  refine lv_aload_n hx hb dX2_order_161 rfl (lv_at hl 1 rfl) ?_
                  refine va_get (D := G.1) (ci := 3) (v := .ref (b 3)) (own := RX2) (C := RX2) (T := TX2) (N := 17) hx hb hts hiX2 hown hK.1 hP 0 rfl rfl 4 (by decide) lf16 (fun _ h9 => h9) rfl dX2_order_162 ?_
                  refine lv_aload_n hx hb dX2_order_165 rfl (lv_at hl 1 rfl) ?_
                  refine va_get (D := G.1) (ci := 3) (v := .int y137_23) (own := RX2) (C := RX2) (T := TX2) (N := 17) hx hb hts hiX2 hown hK.1 hP 0 rfl rfl 1 (by decide) lf55 (fun _ h9 => h9) rfl dX2_order_166 ?_
                  refine lv_iload_n hx hb dX2_order_169 rfl (lv_at hl 4 rfl) ?_
                  refine my_iast hx hb hK hP hD hS 3 rfl (x := wh) ((sN σ) + 1) v137_23 (by omega) dX2_order_170 (fun H locs hP hD hS => ?_)
                  have hP : va_P G.1 vwCl (MW G b 0 y137_23 (upd (uK μ) ((sN σ) + 1) kd) (upd (uE μ) ((sN σ) + 1) en) (upd (uP μ) ((sN σ) + 1) wh) (uT μ) (uF μ) (uU μ) (uM μ) (uV μ) (uX μ) (sR σ) (sT σ) (uW μ) (nI (sG σ).length) (uG μ)) H := hP
                  have hD : va_D A (MW G b 0 y137_23 (upd (uK μ) ((sN σ) + 1) kd) (upd (uE μ) ((sN σ) + 1) en) (upd (uP μ) ((sN σ) + 1) wh) (uT μ) (uF μ) (uU μ) (uM μ) (uV μ) (uX μ) (sR σ) (sT σ) (uW μ) (nI (sG σ).length) (uG μ)) := hD
                  refine lv_aload_n hx hb dX2_order_171 rfl (lv_at hl 1 rfl) ?_
                  refine va_get (D := G.1) (ci := 3) (v := .ref (b 4)) (own := RX2) (C := RX2) (T := TX2) (N := 17) hx hb hts hiX2 hown hK.1 hP 0 rfl rfl 5 (by decide) lf19 (fun _ h9 => h9) rfl dX2_order_172 ?_
                  refine lv_aload_n hx hb dX2_order_175 rfl (lv_at hl 1 rfl) ?_
                  refine va_get (D := G.1) (ci := 3) (v := .int y137_23) (own := RX2) (C := RX2) (T := TX2) (N := 17) hx hb hts hiX2 hown hK.1 hP 0 rfl rfl 1 (by decide) lf55 (fun _ h9 => h9) rfl dX2_order_176 ?_
                  refine lv_iload hx hb dX2_order_179 (lv_at hl 0 rfl) ?_
                  refine lv_if_eq (tgt := 189) hx hb dX2_order_181 (by decide) (fun _ => ?_) (fun c181_24 => absurd (by decide) c181_24)
                  refine lv_iconst (v := 0) hx hb dX2_order_189 (by decide) ?_
                  refine my_iast hx hb hK hP hD hS 4 rfl (x := 0) ((sN σ) + 1) v137_23 (by omega) dX2_order_190 (fun H locs hP hD hS => ?_)
                  have hP : va_P G.1 vwCl (MW G b 0 y137_23 (upd (uK μ) ((sN σ) + 1) kd) (upd (uE μ) ((sN σ) + 1) en) (upd (uP μ) ((sN σ) + 1) wh) (upd (uT μ) ((sN σ) + 1) 0) (uF μ) (uU μ) (uM μ) (uV μ) (uX μ) (sR σ) (sT σ) (uW μ) (nI (sG σ).length) (uG μ)) H := hP
                  have hD : va_D A (MW G b 0 y137_23 (upd (uK μ) ((sN σ) + 1) kd) (upd (uE μ) ((sN σ) + 1) en) (upd (uP μ) ((sN σ) + 1) wh) (upd (uT μ) ((sN σ) + 1) 0) (uF μ) (uU μ) (uM μ) (uV μ) (uX μ) (sR σ) (sT σ) (uW μ) (nI (sG σ).length) (uG μ)) := hD
                  refine lv_aload_n hx hb dX2_order_191 rfl (lv_at hl 1 rfl) ?_
                  refine va_get (D := G.1) (ci := 3) (v := .ref (b 5)) (own := RX2) (C := RX2) (T := TX2) (N := 17) hx hb hts hiX2 hown hK.1 hP 0 rfl rfl 6 (by decide) lf22 (fun _ h9 => h9) rfl dX2_order_192 ?_
                  refine lv_aload_n hx hb dX2_order_195 rfl (lv_at hl 1 rfl) ?_
                  refine va_get (D := G.1) (ci := 3) (v := .int y137_23) (own := RX2) (C := RX2) (T := TX2) (N := 17) hx hb hts hiX2 hown hK.1 hP 0 rfl rfl 1 (by decide) lf55 (fun _ h9 => h9) rfl dX2_order_196 ?_
                  refine lv_lload hx hb dX2_order_199 (lv_at hl 6 rfl) ?_
                  refine my_last hx hb hK hP hD hS 5 rfl (x := fr) ((sN σ) + 1) v137_23 (by omega) dX2_order_201 (fun H locs hP hD hS => ?_)
                  have hP : va_P G.1 vwCl (MW G b 0 y137_23 (upd (uK μ) ((sN σ) + 1) kd) (upd (uE μ) ((sN σ) + 1) en) (upd (uP μ) ((sN σ) + 1) wh) (upd (uT μ) ((sN σ) + 1) 0) (vp_updL (uF μ) ((sN σ) + 1) fr) (uU μ) (uM μ) (uV μ) (uX μ) (sR σ) (sT σ) (uW μ) (nI (sG σ).length) (uG μ)) H := hP
                  have hD : va_D A (MW G b 0 y137_23 (upd (uK μ) ((sN σ) + 1) kd) (upd (uE μ) ((sN σ) + 1) en) (upd (uP μ) ((sN σ) + 1) wh) (upd (uT μ) ((sN σ) + 1) 0) (vp_updL (uF μ) ((sN σ) + 1) fr) (uU μ) (uM μ) (uV μ) (uX μ) (sR σ) (sT σ) (uW μ) (nI (sG σ).length) (uG μ)) := hD
                  refine lv_aload_n hx hb dX2_order_202 rfl (lv_at hl 1 rfl) ?_
                  refine va_get (D := G.1) (ci := 3) (v := .ref (b 6)) (own := RX2) (C := RX2) (T := TX2) (N := 17) hx hb hts hiX2 hown hK.1 hP 0 rfl rfl 7 (by decide) lf26 (fun _ h9 => h9) rfl dX2_order_203 ?_
                  refine lv_aload_n hx hb dX2_order_206 rfl (lv_at hl 1 rfl) ?_
                  refine va_get (D := G.1) (ci := 3) (v := .int y137_23) (own := RX2) (C := RX2) (T := TX2) (N := 17) hx hb hts hiX2 hown hK.1 hP 0 rfl rfl 1 (by decide) lf55 (fun _ h9 => h9) rfl dX2_order_207 ?_
                  refine lv_lload hx hb dX2_order_210 (lv_at hl 7 rfl) ?_
                  refine my_last hx hb hK hP hD hS 6 rfl (x := un) ((sN σ) + 1) v137_23 (by omega) dX2_order_212 (fun H locs hP hD hS => ?_)
                  have hP : va_P G.1 vwCl (MW G b 0 y137_23 (upd (uK μ) ((sN σ) + 1) kd) (upd (uE μ) ((sN σ) + 1) en) (upd (uP μ) ((sN σ) + 1) wh) (upd (uT μ) ((sN σ) + 1) 0) (vp_updL (uF μ) ((sN σ) + 1) fr) (vp_updL (uU μ) ((sN σ) + 1) un) (uM μ) (uV μ) (uX μ) (sR σ) (sT σ) (uW μ) (nI (sG σ).length) (uG μ)) H := hP
                  have hD : va_D A (MW G b 0 y137_23 (upd (uK μ) ((sN σ) + 1) kd) (upd (uE μ) ((sN σ) + 1) en) (upd (uP μ) ((sN σ) + 1) wh) (upd (uT μ) ((sN σ) + 1) 0) (vp_updL (uF μ) ((sN σ) + 1) fr) (vp_updL (uU μ) ((sN σ) + 1) un) (uM μ) (uV μ) (uX μ) (sR σ) (sT σ) (uW μ) (nI (sG σ).length) (uG μ)) := hD
                  refine lv_aload_n hx hb dX2_order_213 rfl (lv_at hl 1 rfl) ?_
                  refine va_get (D := G.1) (ci := 3) (v := .ref (b 7)) (own := RX2) (C := RX2) (T := TX2) (N := 17) hx hb hts hiX2 hown hK.1 hP 0 rfl rfl 8 (by decide) lf29 (fun _ h9 => h9) rfl dX2_order_214 ?_
                  refine lv_aload_n hx hb dX2_order_217 rfl (lv_at hl 1 rfl) ?_
                  refine va_get (D := G.1) (ci := 3) (v := .int y137_23) (own := RX2) (C := RX2) (T := TX2) (N := 17) hx hb hts hiX2 hown hK.1 hP 0 rfl rfl 1 (by decide) lf55 (fun _ h9 => h9) rfl dX2_order_218 ?_
                  refine lv_aload_n hx hb dX2_order_221 rfl (lv_at hl 1 rfl) ?_
                  refine va_get (D := G.1) (ci := 3) (v := .long (sT σ)) (own := RX2) (C := RX2) (T := TX2) (N := 17) hx hb hts hiX2 hown hK.1 hP 0 rfl rfl 12 (by decide) lf62 (fun _ h9 => h9) rfl dX2_order_222 ?_
                  refine my_last hx hb hK hP hD hS 7 rfl (x := (sT σ)) ((sN σ) + 1) v137_23 (by omega) dX2_order_225 (fun H locs hP hD hS => ?_)
                  have hP : va_P G.1 vwCl (MW G b 0 y137_23 (upd (uK μ) ((sN σ) + 1) kd) (upd (uE μ) ((sN σ) + 1) en) (upd (uP μ) ((sN σ) + 1) wh) (upd (uT μ) ((sN σ) + 1) 0) (vp_updL (uF μ) ((sN σ) + 1) fr) (vp_updL (uU μ) ((sN σ) + 1) un) (vp_updL (uM μ) ((sN σ) + 1) (sT σ)) (uV μ) (uX μ) (sR σ) (sT σ) (uW μ) (nI (sG σ).length) (uG μ)) H := hP
                  have hD : va_D A (MW G b 0 y137_23 (upd (uK μ) ((sN σ) + 1) kd) (upd (uE μ) ((sN σ) + 1) en) (upd (uP μ) ((sN σ) + 1) wh) (upd (uT μ) ((sN σ) + 1) 0) (vp_updL (uF μ) ((sN σ) + 1) fr) (vp_updL (uU μ) ((sN σ) + 1) un) (vp_updL (uM μ) ((sN σ) + 1) (sT σ)) (uV μ) (uX μ) (sR σ) (sT σ) (uW μ) (nI (sG σ).length) (uG μ)) := hD
                  refine lv_aload_n hx hb dX2_order_226 rfl (lv_at hl 1 rfl) ?_
                  refine va_get (D := G.1) (ci := 3) (v := .ref (b 9)) (own := RX2) (C := RX2) (T := TX2) (N := 17) hx hb hts hiX2 hown hK.1 hP 0 rfl rfl 10 (by decide) lf36 (fun _ h9 => h9) rfl dX2_order_227 ?_
                  refine lv_aload_n hx hb dX2_order_230 rfl (lv_at hl 1 rfl) ?_
                  refine va_get (D := G.1) (ci := 3) (v := .int y137_23) (own := RX2) (C := RX2) (T := TX2) (N := 17) hx hb hts hiX2 hown hK.1 hP 0 rfl rfl 1 (by decide) lf55 (fun _ h9 => h9) rfl dX2_order_231 ?_
                  refine lv_ldc2 (v := (-1)) hx hb hown kl70 dX2_order_234 ?_
                  refine my_last hx hb hK hP hD hS 9 rfl (x := (-1)) ((sN σ) + 1) v137_23 (by omega) dX2_order_237 (fun H locs hP hD hS => ?_)
                  have hP : va_P G.1 vwCl (MW G b 0 y137_23 (upd (uK μ) ((sN σ) + 1) kd) (upd (uE μ) ((sN σ) + 1) en) (upd (uP μ) ((sN σ) + 1) wh) (upd (uT μ) ((sN σ) + 1) 0) (vp_updL (uF μ) ((sN σ) + 1) fr) (vp_updL (uU μ) ((sN σ) + 1) un) (vp_updL (uM μ) ((sN σ) + 1) (sT σ)) (uV μ) (vp_updL (uX μ) ((sN σ) + 1) (-1)) (sR σ) (sT σ) (uW μ) (nI (sG σ).length) (uG μ)) H := hP
                  have hD : va_D A (MW G b 0 y137_23 (upd (uK μ) ((sN σ) + 1) kd) (upd (uE μ) ((sN σ) + 1) en) (upd (uP μ) ((sN σ) + 1) wh) (upd (uT μ) ((sN σ) + 1) 0) (vp_updL (uF μ) ((sN σ) + 1) fr) (vp_updL (uU μ) ((sN σ) + 1) un) (vp_updL (uM μ) ((sN σ) + 1) (sT σ)) (uV μ) (vp_updL (uX μ) ((sN σ) + 1) (-1)) (sR σ) (sT σ) (uW μ) (nI (sG σ).length) (uG μ)) := hD
                  refine lv_aload_n hx hb dX2_order_238 rfl (lv_at hl 1 rfl) ?_
                  refine va_get (D := G.1) (ci := 3) (v := .int y137_23) (own := RX2) (C := RX2) (T := TX2) (N := 17) hx hb hts hiX2 hown hK.1 hP 0 rfl rfl 1 (by decide) lf55 (fun _ h9 => h9) rfl dX2_order_239 ?_
                  have hF : fOrder σ kd en wh to fr un = (nI (sN σ + 1), (sN σ + 1, va_up (sO σ) (sN σ) (kd, en, wh, to, fr, sT σ, un, 20001, 0), sT σ, sR σ, sG σ)) := (if_neg (by omega)).trans ((if_neg (by omega)).trans (if_neg (by omega)))
                  obtain rfl : y137_23 = nI (sN σ + 1) := nI_ofI v137_23
                  have hM2 : MI ((upd (uK μ) ((sN σ) + 1) kd), (upd (uE μ) ((sN σ) + 1) en), (upd (uP μ) ((sN σ) + 1) wh), (upd (uT μ) ((sN σ) + 1) 0), (vp_updL (uF μ) ((sN σ) + 1) fr), (vp_updL (uU μ) ((sN σ) + 1) un), (vp_updL (uM μ) ((sN σ) + 1) (sT σ)), (uV μ), (vp_updL (uX μ) ((sN σ) + 1) (-1)), (uW μ), (uG μ)) (sN σ + 1, va_up (sO σ) (sN σ) (kd, en, wh, to, fr, sT σ, un, 20001, 0), sT σ, sR σ, sG σ) := by
                    refine MI_new hM (fun j o1 hj h => ?_) ?_ rfl rfl
                    · obtain ⟨h1, h2, h3, h4, h5, h6, h7, h8, h9⟩ := h
                      exact ⟨(pk_un hj).trans h1, (pk_un hj).trans h2, (pk_un hj).trans h3, fun z => (pk_un hj).trans (h4 z), (pk_uLn hj).trans h5, (pk_uLn hj).trans h6, (pk_uLn hj).trans h7, h8, by show XI _ (vp_updL (uX μ) (sN σ + 1) (-1) j); rw [pk_uLn hj]; exact h9⟩
                    · exact ⟨pk_us, pk_us, pk_us, fun z => absurd z (by show ¬ kd.toInt < 3; omega), pk_uLs, pk_uLs, pk_uLs, hM.2.1 (sN σ + 1) (Nat.lt_succ_self _), Or.inl ⟨rfl, by show (vp_updL (uX μ) (sN σ + 1) (-1) (sN σ + 1)).toInt = -1; rw [pk_uLs]; rfl⟩⟩
                  exact hret _ _ _ _ _ _ _ ((upd (uK μ) ((sN σ) + 1) kd), (upd (uE μ) ((sN σ) + 1) en), (upd (uP μ) ((sN σ) + 1) wh), (upd (uT μ) ((sN σ) + 1) 0), (vp_updL (uF μ) ((sN σ) + 1) fr), (vp_updL (uU μ) ((sN σ) + 1) un), (vp_updL (uM μ) ((sN σ) + 1) (sT σ)), (uV μ), (vp_updL (uX μ) ((sN σ) + 1) (-1)), (uW μ), (uG μ)) dX2_order_242 (Or.inr (Or.inr rfl)) (by rw [hF]; exact ⟨rfl, hM2⟩) (by rw [hF]; exact hP) (by rw [hF]; exact hD) hS (Nat.le_refl _) (Nat.le_refl _)
                · have c125_22 : (((sN σ) : Nat) : Int) = 200 := (ti_eq (x := (nI (sN σ))) (y := 200) (a := (((sN σ) : Nat) : Int)) (b := 200) (ti_nI (by omega)) rfl).mp c125_22
                  refine lv_bipush (v := (-104)) hx hb dX2_order_128 (by decide) ?_
                  have hF : fOrder σ kd en wh to fr un = ((-104), σ) := (if_neg (by omega)).trans ((if_neg (by omega)).trans (if_pos (by omega)))
                  exact hret _ _ _ _ _ _ _ μ dX2_order_130 (Or.inr (Or.inr rfl)) (by rw [hF]; exact ⟨rfl, hM⟩) (by rw [hF]; exact hP) (by rw [hF]; exact hD) hS (Nat.le_refl _) (Nat.le_refl _)
  · have c6_1 : ¬ ((kd).toInt < 0) := mt (ti_lt (x := kd) (y := 0) (a := (kd).toInt) (b := 0) rfl rfl).mpr c6_1
    refine lv_iload_n hx hb dX2_order_9 rfl (lv_at hl 1 rfl) ?_
    refine lv_iconst (v := 3) hx hb dX2_order_10 (by decide) ?_
    refine lv_icmp_ge (tgt := 18) hx hb dX2_order_11 (by decide) (fun c11_25 => ?_) (fun c11_25 => ?_)
    · have c11_25 : 3 ≤ (kd).toInt := (ti_le (x := 3) (y := kd) (a := 3) (b := (kd).toInt) rfl rfl).mp c11_25
      refine lv_iconst (v := 0) hx hb dX2_order_18 (by decide) ?_
      refine lv_istore (lv' := [(9, .int 0), (0, .ref (b 0)), (1, .int kd), (2, .int en), (3, .int wh), (4, .int to), (5, .long fr), (7, .long un)]) hx hb dX2_order_19 hl (by decide) rfl (fun ls hl => ?_)
      refine lv_iload_n hx hb dX2_order_21 rfl (lv_at hl 3 rfl) ?_
      refine lv_i2l hx hb dX2_order_22 rfl ?_
      refine lv_lconst (v := 1) hx hb dX2_order_23 rfl ?_
      refine lv_ldc2 (v := 99) hx hb hown kl68 dX2_order_24 ?_
      refine rdS_i (As := [.long ((en).toInt64), .long 1, .long 99]) (rest := []) ⟨hx, hb, hml, hown, hts⟩ (c_X2_isIn l G ((en).toInt64 : Int64) (1 : Int64) (99 : Int64)) cw58 hK va_P.nil rfl hl.1 rfl (Nat.le_of_ble_eq_true rfl) dX2_order_27 ⟨Nat.zero_le _, Nat.zero_le _⟩ (fun r27_26 w27_26 => ?_)
      have w27_26 : ((r27_26.toInt = 1 ∧ (((1 : Int64)).toInt ≤ (((en).toInt64 : Int64)).toInt ∧ (((en).toInt64 : Int64)).toInt ≤ ((99 : Int64)).toInt)) ∨ (r27_26.toInt = 0 ∧ ¬ (((1 : Int64)).toInt ≤ (((en).toInt64 : Int64)).toInt ∧ (((en).toInt64 : Int64)).toInt ≤ ((99 : Int64)).toInt))) := w27_26
      have va27 : (((en).toInt64 : Int64)).toInt = (en).toInt := (tl_i2l rfl)
      have va28 : ((1 : Int64)).toInt = 1 := rfl
      have va29 : ((99 : Int64)).toInt = 99 := rfl
      refine lv_if_eq (tgt := 65) hx hb dX2_order_30 (by decide) (fun c30_30 => ?_) (fun c30_30 => ?_)
      · have c30_30 : (r27_26).toInt = 0 := (ti_eq (x := r27_26) (y := 0) (a := (r27_26).toInt) (b := 0) rfl rfl).mp c30_30
        refine lv_bipush (v := (-101)) hx hb dX2_order_65 (by decide) ?_
        have hF : fOrder σ kd en wh to fr un = ((-101), σ) := if_pos (by omega)
        exact hret _ _ _ _ _ _ _ μ dX2_order_67 (Or.inr (Or.inr rfl)) (by rw [hF]; exact ⟨rfl, hM⟩) (by rw [hF]; exact hP) (by rw [hF]; exact hD) hS (Nat.le_refl _) (Nat.le_refl _)
      · have c30_30 : ¬ ((r27_26).toInt = 0) := mt (ti_eq (x := r27_26) (y := 0) (a := (r27_26).toInt) (b := 0) rfl rfl).mpr c30_30
        refine lv_iload_n hx hb dX2_order_33 rfl (lv_at hl 4 rfl) ?_
        refine lv_i2l hx hb dX2_order_34 rfl ?_
        refine lv_ldc2 (v := (-1)) hx hb hown kl70 dX2_order_35 ?_
        refine lv_ldc2 (v := 49) hx hb hown kl72 dX2_order_38 ?_
        refine rdS_i (As := [.long ((wh).toInt64), .long (-1), .long 49]) (rest := []) ⟨hx, hb, hml, hown, hts⟩ (c_X2_isIn l G ((wh).toInt64 : Int64) ((-1) : Int64) (49 : Int64)) cw58 hK va_P.nil rfl hl.1 rfl (Nat.le_of_ble_eq_true rfl) dX2_order_41 ⟨Nat.zero_le _, Nat.zero_le _⟩ (fun r41_31 w41_31 => ?_)
        have w41_31 : ((r41_31.toInt = 1 ∧ ((((-1) : Int64)).toInt ≤ (((wh).toInt64 : Int64)).toInt ∧ (((wh).toInt64 : Int64)).toInt ≤ ((49 : Int64)).toInt)) ∨ (r41_31.toInt = 0 ∧ ¬ ((((-1) : Int64)).toInt ≤ (((wh).toInt64 : Int64)).toInt ∧ (((wh).toInt64 : Int64)).toInt ≤ ((49 : Int64)).toInt))) := w41_31
        have va32 : (((wh).toInt64 : Int64)).toInt = (wh).toInt := (tl_i2l rfl)
        have va33 : (((-1) : Int64)).toInt = (-1) := rfl
        have va34 : ((49 : Int64)).toInt = 49 := rfl
        refine lv_if_eq (tgt := 65) hx hb dX2_order_44 (by decide) (fun c44_35 => ?_) (fun c44_35 => ?_)
        · have c44_35 : (r41_31).toInt = 0 := (ti_eq (x := r41_31) (y := 0) (a := (r41_31).toInt) (b := 0) rfl rfl).mp c44_35
          refine lv_bipush (v := (-101)) hx hb dX2_order_65 (by decide) ?_
          have hF : fOrder σ kd en wh to fr un = ((-101), σ) := if_pos (by omega)
          exact hret _ _ _ _ _ _ _ μ dX2_order_67 (Or.inr (Or.inr rfl)) (by rw [hF]; exact ⟨rfl, hM⟩) (by rw [hF]; exact hP) (by rw [hF]; exact hD) hS (Nat.le_refl _) (Nat.le_refl _)
        · have c44_35 : ¬ ((r41_31).toInt = 0) := mt (ti_eq (x := r41_31) (y := 0) (a := (r41_31).toInt) (b := 0) rfl rfl).mpr c44_35
          refine lv_iload hx hb dX2_order_47 (lv_at hl 0 rfl) ?_
          refine lv_if_eq (tgt := 68) hx hb dX2_order_49 (by decide) (fun _ => ?_) (fun c49_36 => absurd (by decide) c49_36)
          refine lv_iload_n hx hb dX2_order_68 rfl (lv_at hl 2 rfl) ?_
          refine lv_i2l hx hb dX2_order_69 rfl ?_
          refine lv_lconst (v := 0) hx hb dX2_order_70 rfl ?_
          refine lv_ldc2 (v := 8) hx hb hown kl74 dX2_order_71 ?_
          refine rdS_i (As := [.long ((kd).toInt64), .long 0, .long 8]) (rest := []) ⟨hx, hb, hml, hown, hts⟩ (c_X2_isIn l G ((kd).toInt64 : Int64) (0 : Int64) (8 : Int64)) cw58 hK va_P.nil rfl hl.1 rfl (Nat.le_of_ble_eq_true rfl) dX2_order_74 ⟨Nat.zero_le _, Nat.zero_le _⟩ (fun r74_37 w74_37 => ?_)
          have w74_37 : ((r74_37.toInt = 1 ∧ (((0 : Int64)).toInt ≤ (((kd).toInt64 : Int64)).toInt ∧ (((kd).toInt64 : Int64)).toInt ≤ ((8 : Int64)).toInt)) ∨ (r74_37.toInt = 0 ∧ ¬ (((0 : Int64)).toInt ≤ (((kd).toInt64 : Int64)).toInt ∧ (((kd).toInt64 : Int64)).toInt ≤ ((8 : Int64)).toInt))) := w74_37
          have va38 : (((kd).toInt64 : Int64)).toInt = (kd).toInt := (tl_i2l rfl)
          have va39 : ((0 : Int64)).toInt = 0 := rfl
          have va40 : ((8 : Int64)).toInt = 8 := rfl
          refine lv_if_eq (tgt := 115) hx hb dX2_order_77 (by decide) (fun c77_41 => ?_) (fun c77_41 => ?_)
          · have c77_41 : (r74_37).toInt = 0 := (ti_eq (x := r74_37) (y := 0) (a := (r74_37).toInt) (b := 0) rfl rfl).mp c77_41
            refine lv_bipush (v := (-102)) hx hb dX2_order_115 (by decide) ?_
            have hF : fOrder σ kd en wh to fr un = ((-102), σ) := (if_neg (by omega)).trans (if_pos (by omega))
            exact hret _ _ _ _ _ _ _ μ dX2_order_117 (Or.inr (Or.inr rfl)) (by rw [hF]; exact ⟨rfl, hM⟩) (by rw [hF]; exact hP) (by rw [hF]; exact hD) hS (Nat.le_refl _) (Nat.le_refl _)
          · have c77_41 : ¬ ((r74_37).toInt = 0) := mt (ti_eq (x := r74_37) (y := 0) (a := (r74_37).toInt) (b := 0) rfl rfl).mpr c77_41
            refine lv_lload hx hb dX2_order_80 (lv_at hl 6 rfl) ?_
            refine lv_lconst (v := 0) hx hb dX2_order_82 rfl ?_
            refine lc_lt (tgt := 115) hx hb dX2_order_83 dX2_order_84 (by decide) (fun c83_42 => ?_) (fun c83_42 => ?_)
            · have c83_42 : (fr).toInt < 0 := (tl_lt (x := fr) (y := 0) (a := (fr).toInt) (b := 0) rfl rfl).mp c83_42
              refine lv_bipush (v := (-102)) hx hb dX2_order_115 (by decide) ?_
              have hF : fOrder σ kd en wh to fr un = ((-102), σ) := (if_neg (by omega)).trans (if_pos (by omega))
              exact hret _ _ _ _ _ _ _ μ dX2_order_117 (Or.inr (Or.inr rfl)) (by rw [hF]; exact ⟨rfl, hM⟩) (by rw [hF]; exact hP) (by rw [hF]; exact hD) hS (Nat.le_refl _) (Nat.le_refl _)
            · have c83_42 : ¬ ((fr).toInt < 0) := mt (tl_lt (x := fr) (y := 0) (a := (fr).toInt) (b := 0) rfl rfl).mpr c83_42
              refine lv_lload hx hb dX2_order_87 (lv_at hl 6 rfl) ?_
              refine lv_lload hx hb dX2_order_89 (lv_at hl 7 rfl) ?_
              refine lc_gt (tgt := 115) hx hb dX2_order_91 dX2_order_92 (by decide) (fun c91_43 => ?_) (fun c91_43 => ?_)
              · have c91_43 : (un).toInt < (fr).toInt := (tl_lt (x := un) (y := fr) (a := (un).toInt) (b := (fr).toInt) rfl rfl).mp c91_43
                refine lv_bipush (v := (-102)) hx hb dX2_order_115 (by decide) ?_
                have hF : fOrder σ kd en wh to fr un = ((-102), σ) := (if_neg (by omega)).trans (if_pos (by omega))
                exact hret _ _ _ _ _ _ _ μ dX2_order_117 (Or.inr (Or.inr rfl)) (by rw [hF]; exact ⟨rfl, hM⟩) (by rw [hF]; exact hP) (by rw [hF]; exact hD) hS (Nat.le_refl _) (Nat.le_refl _)
              · have c91_43 : ¬ ((un).toInt < (fr).toInt) := mt (tl_lt (x := un) (y := fr) (a := (un).toInt) (b := (fr).toInt) rfl rfl).mpr c91_43
                refine lv_lload hx hb dX2_order_95 (lv_at hl 7 rfl) ?_
                refine lv_ldc2 (v := 20000) hx hb hown kl66 dX2_order_97 ?_
                refine lc_gt (tgt := 115) hx hb dX2_order_100 dX2_order_101 (by decide) (fun c100_44 => ?_) (fun c100_44 => ?_)
                · have c100_44 : 20000 < (un).toInt := (tl_lt (x := 20000) (y := un) (a := 20000) (b := (un).toInt) rfl rfl).mp c100_44
                  refine lv_bipush (v := (-102)) hx hb dX2_order_115 (by decide) ?_
                  have hF : fOrder σ kd en wh to fr un = ((-102), σ) := (if_neg (by omega)).trans (if_pos (by omega))
                  exact hret _ _ _ _ _ _ _ μ dX2_order_117 (Or.inr (Or.inr rfl)) (by rw [hF]; exact ⟨rfl, hM⟩) (by rw [hF]; exact hP) (by rw [hF]; exact hD) hS (Nat.le_refl _) (Nat.le_refl _)
                · have c100_44 : ¬ (20000 < (un).toInt) := mt (tl_lt (x := 20000) (y := un) (a := 20000) (b := (un).toInt) rfl rfl).mpr c100_44
                  refine lv_iload hx hb dX2_order_104 (lv_at hl 0 rfl) ?_
                  refine lv_if_eq (tgt := 118) hx hb dX2_order_106 (by decide) (fun _ => ?_) (fun c106_45 => absurd (by decide) c106_45)
                  refine lv_aload_n hx hb dX2_order_118 rfl (lv_at hl 1 rfl) ?_
                  refine va_get (D := G.1) (ci := 3) (v := .int (nI (sN σ))) (own := RX2) (C := RX2) (T := TX2) (N := 17) hx hb hts hiX2 hown hK.1 hP 0 rfl rfl 1 (by decide) lf55 (fun _ h9 => h9) rfl dX2_order_119 ?_
                  refine lv_sipush (v := 200) hx hb dX2_order_122 (by decide) ?_
                  refine lv_icmp_ne (tgt := 131) hx hb dX2_order_125 (by decide) (fun c125_46 => ?_) (fun c125_46 => ?_)
                  · have c125_46 : ¬ ((((sN σ) : Nat) : Int) = 200) := mt (ti_eq (x := (nI (sN σ))) (y := 200) (a := (((sN σ) : Nat) : Int)) (b := 200) (ti_nI (by omega)) rfl).mpr c125_46
                    refine lv_aload_n hx hb dX2_order_131 rfl (lv_at hl 1 rfl) ?_
                    refine lv_dup hx hb dX2_order_132 rfl ?_
                    refine va_get (D := G.1) (ci := 3) (v := .int (nI (sN σ))) (own := RX2) (C := RX2) (T := TX2) (N := 17) hx hb hts hiX2 hown hK.1 hP 0 rfl rfl 1 (by decide) lf55 (fun _ h9 => h9) rfl dX2_order_133 ?_
                    refine lv_iconst (v := 1) hx hb dX2_order_136 (by decide) ?_
                    refine lv_iadd hx hb dX2_order_137 ?_
                    refine lv_topi (fun y137_47 e137_47 => ?_)
                    have v137_47 : (y137_47).toInt = ((((sN σ) + 1) : Nat) : Int) := by rw [e137_47]; exact (ti_add (a := (((sN σ) : Nat) : Int)) (b := 1) (ti_nI (by omega)) rfl (by omega) (by omega)).trans (by omega)
                    refine va_put (D := G.1) (ci := 3) (v := .int y137_47) (ty := .int) (own := RX2) (C := RX2) (T := TX2) (N := 17) hx hb hts hiX2 tyX2 tyX2_ok nmX2 hown hK.1 hP hD hS 0 rfl rfl 1 (by decide) lf55 (fun _ h9 => h9) rfl (by decide +kernel) rfl rfl (Nat.le_of_ble_eq_true rfl) dX2_order_138 (fun H locs hP hD hS => ?_)
                    have hP : va_P G.1 vwCl (MW G b 0 y137_47 (uK μ) (uE μ) (uP μ) (uT μ) (uF μ) (uU μ) (uM μ) (uV μ) (uX μ) (sR σ) (sT σ) (uW μ) (nI (sG σ).length) (uG μ)) H := hP
                    have hD : va_D A (MW G b 0 y137_47 (uK μ) (uE μ) (uP μ) (uT μ) (uF μ) (uU μ) (uM μ) (uV μ) (uX μ) (sR σ) (sT σ) (uW μ) (nI (sG σ).length) (uG μ)) := hD
                    refine lv_aload_n hx hb dX2_order_141 rfl (lv_at hl 1 rfl) ?_
                    refine va_get (D := G.1) (ci := 3) (v := .ref (b 1)) (own := RX2) (C := RX2) (T := TX2) (N := 17) hx hb hts hiX2 hown hK.1 hP 0 rfl rfl 2 (by decide) lf7 (fun _ h9 => h9) rfl dX2_order_142 ?_
                    refine lv_aload_n hx hb dX2_order_145 rfl (lv_at hl 1 rfl) ?_
                    refine va_get (D := G.1) (ci := 3) (v := .int y137_47) (own := RX2) (C := RX2) (T := TX2) (N := 17) hx hb hts hiX2 hown hK.1 hP 0 rfl rfl 1 (by decide) lf55 (fun _ h9 => h9) rfl dX2_order_146 ?_
                    refine lv_iload_n hx hb dX2_order_149 rfl (lv_at hl 2 rfl) ?_
                    refine my_iast hx hb hK hP hD hS 1 rfl (x := kd) ((sN σ) + 1) v137_47 (by omega) dX2_order_150 (fun H locs hP hD hS => ?_)
                    have hP : va_P G.1 vwCl (MW G b 0 y137_47 (upd (uK μ) ((sN σ) + 1) kd) (uE μ) (uP μ) (uT μ) (uF μ) (uU μ) (uM μ) (uV μ) (uX μ) (sR σ) (sT σ) (uW μ) (nI (sG σ).length) (uG μ)) H := hP
                    have hD : va_D A (MW G b 0 y137_47 (upd (uK μ) ((sN σ) + 1) kd) (uE μ) (uP μ) (uT μ) (uF μ) (uU μ) (uM μ) (uV μ) (uX μ) (sR σ) (sT σ) (uW μ) (nI (sG σ).length) (uG μ)) := hD
                    refine lv_aload_n hx hb dX2_order_151 rfl (lv_at hl 1 rfl) ?_
                    refine va_get (D := G.1) (ci := 3) (v := .ref (b 2)) (own := RX2) (C := RX2) (T := TX2) (N := 17) hx hb hts hiX2 hown hK.1 hP 0 rfl rfl 3 (by decide) lf13 (fun _ h9 => h9) rfl dX2_order_152 ?_
                    refine lv_aload_n hx hb dX2_order_155 rfl (lv_at hl 1 rfl) ?_
                    refine va_get (D := G.1) (ci := 3) (v := .int y137_47) (own := RX2) (C := RX2) (T := TX2) (N := 17) hx hb hts hiX2 hown hK.1 hP 0 rfl rfl 1 (by decide) lf55 (fun _ h9 => h9) rfl dX2_order_156 ?_
                    refine lv_iload_n hx hb dX2_order_159 rfl (lv_at hl 3 rfl) ?_
                    refine my_iast hx hb hK hP hD hS 2 rfl (x := en) ((sN σ) + 1) v137_47 (by omega) dX2_order_160 (fun H locs hP hD hS => ?_)
                    have hP : va_P G.1 vwCl (MW G b 0 y137_47 (upd (uK μ) ((sN σ) + 1) kd) (upd (uE μ) ((sN σ) + 1) en) (uP μ) (uT μ) (uF μ) (uU μ) (uM μ) (uV μ) (uX μ) (sR σ) (sT σ) (uW μ) (nI (sG σ).length) (uG μ)) H := hP
                    have hD : va_D A (MW G b 0 y137_47 (upd (uK μ) ((sN σ) + 1) kd) (upd (uE μ) ((sN σ) + 1) en) (uP μ) (uT μ) (uF μ) (uU μ) (uM μ) (uV μ) (uX μ) (sR σ) (sT σ) (uW μ) (nI (sG σ).length) (uG μ)) := hD
                    refine lv_aload_n hx hb dX2_order_161 rfl (lv_at hl 1 rfl) ?_
                    refine va_get (D := G.1) (ci := 3) (v := .ref (b 3)) (own := RX2) (C := RX2) (T := TX2) (N := 17) hx hb hts hiX2 hown hK.1 hP 0 rfl rfl 4 (by decide) lf16 (fun _ h9 => h9) rfl dX2_order_162 ?_
                    refine lv_aload_n hx hb dX2_order_165 rfl (lv_at hl 1 rfl) ?_
                    refine va_get (D := G.1) (ci := 3) (v := .int y137_47) (own := RX2) (C := RX2) (T := TX2) (N := 17) hx hb hts hiX2 hown hK.1 hP 0 rfl rfl 1 (by decide) lf55 (fun _ h9 => h9) rfl dX2_order_166 ?_
                    refine lv_iload_n hx hb dX2_order_169 rfl (lv_at hl 4 rfl) ?_
                    refine my_iast hx hb hK hP hD hS 3 rfl (x := wh) ((sN σ) + 1) v137_47 (by omega) dX2_order_170 (fun H locs hP hD hS => ?_)
                    have hP : va_P G.1 vwCl (MW G b 0 y137_47 (upd (uK μ) ((sN σ) + 1) kd) (upd (uE μ) ((sN σ) + 1) en) (upd (uP μ) ((sN σ) + 1) wh) (uT μ) (uF μ) (uU μ) (uM μ) (uV μ) (uX μ) (sR σ) (sT σ) (uW μ) (nI (sG σ).length) (uG μ)) H := hP
                    have hD : va_D A (MW G b 0 y137_47 (upd (uK μ) ((sN σ) + 1) kd) (upd (uE μ) ((sN σ) + 1) en) (upd (uP μ) ((sN σ) + 1) wh) (uT μ) (uF μ) (uU μ) (uM μ) (uV μ) (uX μ) (sR σ) (sT σ) (uW μ) (nI (sG σ).length) (uG μ)) := hD
                    refine lv_aload_n hx hb dX2_order_171 rfl (lv_at hl 1 rfl) ?_
                    refine va_get (D := G.1) (ci := 3) (v := .ref (b 4)) (own := RX2) (C := RX2) (T := TX2) (N := 17) hx hb hts hiX2 hown hK.1 hP 0 rfl rfl 5 (by decide) lf19 (fun _ h9 => h9) rfl dX2_order_172 ?_
                    refine lv_aload_n hx hb dX2_order_175 rfl (lv_at hl 1 rfl) ?_
                    refine va_get (D := G.1) (ci := 3) (v := .int y137_47) (own := RX2) (C := RX2) (T := TX2) (N := 17) hx hb hts hiX2 hown hK.1 hP 0 rfl rfl 1 (by decide) lf55 (fun _ h9 => h9) rfl dX2_order_176 ?_
                    refine lv_iload hx hb dX2_order_179 (lv_at hl 0 rfl) ?_
                    refine lv_if_eq (tgt := 189) hx hb dX2_order_181 (by decide) (fun _ => ?_) (fun c181_48 => absurd (by decide) c181_48)
                    refine lv_iconst (v := 0) hx hb dX2_order_189 (by decide) ?_
                    refine my_iast hx hb hK hP hD hS 4 rfl (x := 0) ((sN σ) + 1) v137_47 (by omega) dX2_order_190 (fun H locs hP hD hS => ?_)
                    have hP : va_P G.1 vwCl (MW G b 0 y137_47 (upd (uK μ) ((sN σ) + 1) kd) (upd (uE μ) ((sN σ) + 1) en) (upd (uP μ) ((sN σ) + 1) wh) (upd (uT μ) ((sN σ) + 1) 0) (uF μ) (uU μ) (uM μ) (uV μ) (uX μ) (sR σ) (sT σ) (uW μ) (nI (sG σ).length) (uG μ)) H := hP
                    have hD : va_D A (MW G b 0 y137_47 (upd (uK μ) ((sN σ) + 1) kd) (upd (uE μ) ((sN σ) + 1) en) (upd (uP μ) ((sN σ) + 1) wh) (upd (uT μ) ((sN σ) + 1) 0) (uF μ) (uU μ) (uM μ) (uV μ) (uX μ) (sR σ) (sT σ) (uW μ) (nI (sG σ).length) (uG μ)) := hD
                    refine lv_aload_n hx hb dX2_order_191 rfl (lv_at hl 1 rfl) ?_
                    refine va_get (D := G.1) (ci := 3) (v := .ref (b 5)) (own := RX2) (C := RX2) (T := TX2) (N := 17) hx hb hts hiX2 hown hK.1 hP 0 rfl rfl 6 (by decide) lf22 (fun _ h9 => h9) rfl dX2_order_192 ?_
                    refine lv_aload_n hx hb dX2_order_195 rfl (lv_at hl 1 rfl) ?_
                    refine va_get (D := G.1) (ci := 3) (v := .int y137_47) (own := RX2) (C := RX2) (T := TX2) (N := 17) hx hb hts hiX2 hown hK.1 hP 0 rfl rfl 1 (by decide) lf55 (fun _ h9 => h9) rfl dX2_order_196 ?_
                    refine lv_lload hx hb dX2_order_199 (lv_at hl 6 rfl) ?_
                    refine my_last hx hb hK hP hD hS 5 rfl (x := fr) ((sN σ) + 1) v137_47 (by omega) dX2_order_201 (fun H locs hP hD hS => ?_)
                    have hP : va_P G.1 vwCl (MW G b 0 y137_47 (upd (uK μ) ((sN σ) + 1) kd) (upd (uE μ) ((sN σ) + 1) en) (upd (uP μ) ((sN σ) + 1) wh) (upd (uT μ) ((sN σ) + 1) 0) (vp_updL (uF μ) ((sN σ) + 1) fr) (uU μ) (uM μ) (uV μ) (uX μ) (sR σ) (sT σ) (uW μ) (nI (sG σ).length) (uG μ)) H := hP
                    have hD : va_D A (MW G b 0 y137_47 (upd (uK μ) ((sN σ) + 1) kd) (upd (uE μ) ((sN σ) + 1) en) (upd (uP μ) ((sN σ) + 1) wh) (upd (uT μ) ((sN σ) + 1) 0) (vp_updL (uF μ) ((sN σ) + 1) fr) (uU μ) (uM μ) (uV μ) (uX μ) (sR σ) (sT σ) (uW μ) (nI (sG σ).length) (uG μ)) := hD
                    refine lv_aload_n hx hb dX2_order_202 rfl (lv_at hl 1 rfl) ?_
                    refine va_get (D := G.1) (ci := 3) (v := .ref (b 6)) (own := RX2) (C := RX2) (T := TX2) (N := 17) hx hb hts hiX2 hown hK.1 hP 0 rfl rfl 7 (by decide) lf26 (fun _ h9 => h9) rfl dX2_order_203 ?_
                    refine lv_aload_n hx hb dX2_order_206 rfl (lv_at hl 1 rfl) ?_
                    refine va_get (D := G.1) (ci := 3) (v := .int y137_47) (own := RX2) (C := RX2) (T := TX2) (N := 17) hx hb hts hiX2 hown hK.1 hP 0 rfl rfl 1 (by decide) lf55 (fun _ h9 => h9) rfl dX2_order_207 ?_
                    refine lv_lload hx hb dX2_order_210 (lv_at hl 7 rfl) ?_
                    refine my_last hx hb hK hP hD hS 6 rfl (x := un) ((sN σ) + 1) v137_47 (by omega) dX2_order_212 (fun H locs hP hD hS => ?_)
                    have hP : va_P G.1 vwCl (MW G b 0 y137_47 (upd (uK μ) ((sN σ) + 1) kd) (upd (uE μ) ((sN σ) + 1) en) (upd (uP μ) ((sN σ) + 1) wh) (upd (uT μ) ((sN σ) + 1) 0) (vp_updL (uF μ) ((sN σ) + 1) fr) (vp_updL (uU μ) ((sN σ) + 1) un) (uM μ) (uV μ) (uX μ) (sR σ) (sT σ) (uW μ) (nI (sG σ).length) (uG μ)) H := hP
                    have hD : va_D A (MW G b 0 y137_47 (upd (uK μ) ((sN σ) + 1) kd) (upd (uE μ) ((sN σ) + 1) en) (upd (uP μ) ((sN σ) + 1) wh) (upd (uT μ) ((sN σ) + 1) 0) (vp_updL (uF μ) ((sN σ) + 1) fr) (vp_updL (uU μ) ((sN σ) + 1) un) (uM μ) (uV μ) (uX μ) (sR σ) (sT σ) (uW μ) (nI (sG σ).length) (uG μ)) := hD
                    refine lv_aload_n hx hb dX2_order_213 rfl (lv_at hl 1 rfl) ?_
                    refine va_get (D := G.1) (ci := 3) (v := .ref (b 7)) (own := RX2) (C := RX2) (T := TX2) (N := 17) hx hb hts hiX2 hown hK.1 hP 0 rfl rfl 8 (by decide) lf29 (fun _ h9 => h9) rfl dX2_order_214 ?_
                    refine lv_aload_n hx hb dX2_order_217 rfl (lv_at hl 1 rfl) ?_
                    refine va_get (D := G.1) (ci := 3) (v := .int y137_47) (own := RX2) (C := RX2) (T := TX2) (N := 17) hx hb hts hiX2 hown hK.1 hP 0 rfl rfl 1 (by decide) lf55 (fun _ h9 => h9) rfl dX2_order_218 ?_
                    refine lv_aload_n hx hb dX2_order_221 rfl (lv_at hl 1 rfl) ?_
                    refine va_get (D := G.1) (ci := 3) (v := .long (sT σ)) (own := RX2) (C := RX2) (T := TX2) (N := 17) hx hb hts hiX2 hown hK.1 hP 0 rfl rfl 12 (by decide) lf62 (fun _ h9 => h9) rfl dX2_order_222 ?_
                    refine my_last hx hb hK hP hD hS 7 rfl (x := (sT σ)) ((sN σ) + 1) v137_47 (by omega) dX2_order_225 (fun H locs hP hD hS => ?_)
                    have hP : va_P G.1 vwCl (MW G b 0 y137_47 (upd (uK μ) ((sN σ) + 1) kd) (upd (uE μ) ((sN σ) + 1) en) (upd (uP μ) ((sN σ) + 1) wh) (upd (uT μ) ((sN σ) + 1) 0) (vp_updL (uF μ) ((sN σ) + 1) fr) (vp_updL (uU μ) ((sN σ) + 1) un) (vp_updL (uM μ) ((sN σ) + 1) (sT σ)) (uV μ) (uX μ) (sR σ) (sT σ) (uW μ) (nI (sG σ).length) (uG μ)) H := hP
                    have hD : va_D A (MW G b 0 y137_47 (upd (uK μ) ((sN σ) + 1) kd) (upd (uE μ) ((sN σ) + 1) en) (upd (uP μ) ((sN σ) + 1) wh) (upd (uT μ) ((sN σ) + 1) 0) (vp_updL (uF μ) ((sN σ) + 1) fr) (vp_updL (uU μ) ((sN σ) + 1) un) (vp_updL (uM μ) ((sN σ) + 1) (sT σ)) (uV μ) (uX μ) (sR σ) (sT σ) (uW μ) (nI (sG σ).length) (uG μ)) := hD
                    refine lv_aload_n hx hb dX2_order_226 rfl (lv_at hl 1 rfl) ?_
                    refine va_get (D := G.1) (ci := 3) (v := .ref (b 9)) (own := RX2) (C := RX2) (T := TX2) (N := 17) hx hb hts hiX2 hown hK.1 hP 0 rfl rfl 10 (by decide) lf36 (fun _ h9 => h9) rfl dX2_order_227 ?_
                    refine lv_aload_n hx hb dX2_order_230 rfl (lv_at hl 1 rfl) ?_
                    refine va_get (D := G.1) (ci := 3) (v := .int y137_47) (own := RX2) (C := RX2) (T := TX2) (N := 17) hx hb hts hiX2 hown hK.1 hP 0 rfl rfl 1 (by decide) lf55 (fun _ h9 => h9) rfl dX2_order_231 ?_
                    refine lv_ldc2 (v := (-1)) hx hb hown kl70 dX2_order_234 ?_
                    refine my_last hx hb hK hP hD hS 9 rfl (x := (-1)) ((sN σ) + 1) v137_47 (by omega) dX2_order_237 (fun H locs hP hD hS => ?_)
                    have hP : va_P G.1 vwCl (MW G b 0 y137_47 (upd (uK μ) ((sN σ) + 1) kd) (upd (uE μ) ((sN σ) + 1) en) (upd (uP μ) ((sN σ) + 1) wh) (upd (uT μ) ((sN σ) + 1) 0) (vp_updL (uF μ) ((sN σ) + 1) fr) (vp_updL (uU μ) ((sN σ) + 1) un) (vp_updL (uM μ) ((sN σ) + 1) (sT σ)) (uV μ) (vp_updL (uX μ) ((sN σ) + 1) (-1)) (sR σ) (sT σ) (uW μ) (nI (sG σ).length) (uG μ)) H := hP
                    have hD : va_D A (MW G b 0 y137_47 (upd (uK μ) ((sN σ) + 1) kd) (upd (uE μ) ((sN σ) + 1) en) (upd (uP μ) ((sN σ) + 1) wh) (upd (uT μ) ((sN σ) + 1) 0) (vp_updL (uF μ) ((sN σ) + 1) fr) (vp_updL (uU μ) ((sN σ) + 1) un) (vp_updL (uM μ) ((sN σ) + 1) (sT σ)) (uV μ) (vp_updL (uX μ) ((sN σ) + 1) (-1)) (sR σ) (sT σ) (uW μ) (nI (sG σ).length) (uG μ)) := hD
                    refine lv_aload_n hx hb dX2_order_238 rfl (lv_at hl 1 rfl) ?_
                    refine va_get (D := G.1) (ci := 3) (v := .int y137_47) (own := RX2) (C := RX2) (T := TX2) (N := 17) hx hb hts hiX2 hown hK.1 hP 0 rfl rfl 1 (by decide) lf55 (fun _ h9 => h9) rfl dX2_order_239 ?_
                    have hF : fOrder σ kd en wh to fr un = (nI (sN σ + 1), (sN σ + 1, va_up (sO σ) (sN σ) (kd, en, wh, to, fr, sT σ, un, 20001, 0), sT σ, sR σ, sG σ)) := (if_neg (by omega)).trans ((if_neg (by omega)).trans (if_neg (by omega)))
                    obtain rfl : y137_47 = nI (sN σ + 1) := nI_ofI v137_47
                    have hM2 : MI ((upd (uK μ) ((sN σ) + 1) kd), (upd (uE μ) ((sN σ) + 1) en), (upd (uP μ) ((sN σ) + 1) wh), (upd (uT μ) ((sN σ) + 1) 0), (vp_updL (uF μ) ((sN σ) + 1) fr), (vp_updL (uU μ) ((sN σ) + 1) un), (vp_updL (uM μ) ((sN σ) + 1) (sT σ)), (uV μ), (vp_updL (uX μ) ((sN σ) + 1) (-1)), (uW μ), (uG μ)) (sN σ + 1, va_up (sO σ) (sN σ) (kd, en, wh, to, fr, sT σ, un, 20001, 0), sT σ, sR σ, sG σ) := by
                      refine MI_new hM (fun j o1 hj h => ?_) ?_ rfl rfl
                      · obtain ⟨h1, h2, h3, h4, h5, h6, h7, h8, h9⟩ := h
                        exact ⟨(pk_un hj).trans h1, (pk_un hj).trans h2, (pk_un hj).trans h3, fun z => (pk_un hj).trans (h4 z), (pk_uLn hj).trans h5, (pk_uLn hj).trans h6, (pk_uLn hj).trans h7, h8, by show XI _ (vp_updL (uX μ) (sN σ + 1) (-1) j); rw [pk_uLn hj]; exact h9⟩
                      · exact ⟨pk_us, pk_us, pk_us, fun z => absurd z (by show ¬ kd.toInt < 3; omega), pk_uLs, pk_uLs, pk_uLs, hM.2.1 (sN σ + 1) (Nat.lt_succ_self _), Or.inl ⟨rfl, by show (vp_updL (uX μ) (sN σ + 1) (-1) (sN σ + 1)).toInt = -1; rw [pk_uLs]; rfl⟩⟩
                    exact hret _ _ _ _ _ _ _ ((upd (uK μ) ((sN σ) + 1) kd), (upd (uE μ) ((sN σ) + 1) en), (upd (uP μ) ((sN σ) + 1) wh), (upd (uT μ) ((sN σ) + 1) 0), (vp_updL (uF μ) ((sN σ) + 1) fr), (vp_updL (uU μ) ((sN σ) + 1) un), (vp_updL (uM μ) ((sN σ) + 1) (sT σ)), (uV μ), (vp_updL (uX μ) ((sN σ) + 1) (-1)), (uW μ), (uG μ)) dX2_order_242 (Or.inr (Or.inr rfl)) (by rw [hF]; exact ⟨rfl, hM2⟩) (by rw [hF]; exact hP) (by rw [hF]; exact hD) hS (Nat.le_refl _) (Nat.le_refl _)
                  · have c125_46 : (((sN σ) : Nat) : Int) = 200 := (ti_eq (x := (nI (sN σ))) (y := 200) (a := (((sN σ) : Nat) : Int)) (b := 200) (ti_nI (by omega)) rfl).mp c125_46
                    refine lv_bipush (v := (-104)) hx hb dX2_order_128 (by decide) ?_
                    have hF : fOrder σ kd en wh to fr un = ((-104), σ) := (if_neg (by omega)).trans ((if_neg (by omega)).trans (if_pos (by omega)))
                    exact hret _ _ _ _ _ _ _ μ dX2_order_130 (Or.inr (Or.inr rfl)) (by rw [hF]; exact ⟨rfl, hM⟩) (by rw [hF]; exact hP) (by rw [hF]; exact hD) hS (Nat.le_refl _) (Nat.le_refl _)
    · have c11_25 : ¬ (3 ≤ (kd).toInt) := mt (ti_le (x := 3) (y := kd) (a := 3) (b := (kd).toInt) rfl rfl).mpr c11_25
      refine lv_iconst (v := 1) hx hb dX2_order_14 (by decide) ?_
      refine lv_goto (tgt := 19) hx hb dX2_order_15 (by decide) ?_
      refine lv_istore (lv' := [(9, .int 1), (0, .ref (b 0)), (1, .int kd), (2, .int en), (3, .int wh), (4, .int to), (5, .long fr), (7, .long un)]) hx hb dX2_order_19 hl (by decide) rfl (fun ls hl => ?_)
      refine lv_iload_n hx hb dX2_order_21 rfl (lv_at hl 3 rfl) ?_
      refine lv_i2l hx hb dX2_order_22 rfl ?_
      refine lv_lconst (v := 1) hx hb dX2_order_23 rfl ?_
      refine lv_ldc2 (v := 99) hx hb hown kl68 dX2_order_24 ?_
      refine rdS_i (As := [.long ((en).toInt64), .long 1, .long 99]) (rest := []) ⟨hx, hb, hml, hown, hts⟩ (c_X2_isIn l G ((en).toInt64 : Int64) (1 : Int64) (99 : Int64)) cw58 hK va_P.nil rfl hl.1 rfl (Nat.le_of_ble_eq_true rfl) dX2_order_27 ⟨Nat.zero_le _, Nat.zero_le _⟩ (fun r27_49 w27_49 => ?_)
      have w27_49 : ((r27_49.toInt = 1 ∧ (((1 : Int64)).toInt ≤ (((en).toInt64 : Int64)).toInt ∧ (((en).toInt64 : Int64)).toInt ≤ ((99 : Int64)).toInt)) ∨ (r27_49.toInt = 0 ∧ ¬ (((1 : Int64)).toInt ≤ (((en).toInt64 : Int64)).toInt ∧ (((en).toInt64 : Int64)).toInt ≤ ((99 : Int64)).toInt))) := w27_49
      have va50 : (((en).toInt64 : Int64)).toInt = (en).toInt := (tl_i2l rfl)
      have va51 : ((1 : Int64)).toInt = 1 := rfl
      have va52 : ((99 : Int64)).toInt = 99 := rfl
      refine lv_if_eq (tgt := 65) hx hb dX2_order_30 (by decide) (fun c30_53 => ?_) (fun c30_53 => ?_)
      · have c30_53 : (r27_49).toInt = 0 := (ti_eq (x := r27_49) (y := 0) (a := (r27_49).toInt) (b := 0) rfl rfl).mp c30_53
        refine lv_bipush (v := (-101)) hx hb dX2_order_65 (by decide) ?_
        have hF : fOrder σ kd en wh to fr un = ((-101), σ) := if_pos (by omega)
        exact hret _ _ _ _ _ _ _ μ dX2_order_67 (Or.inr (Or.inr rfl)) (by rw [hF]; exact ⟨rfl, hM⟩) (by rw [hF]; exact hP) (by rw [hF]; exact hD) hS (Nat.le_refl _) (Nat.le_refl _)
      · have c30_53 : ¬ ((r27_49).toInt = 0) := mt (ti_eq (x := r27_49) (y := 0) (a := (r27_49).toInt) (b := 0) rfl rfl).mpr c30_53
        refine lv_iload_n hx hb dX2_order_33 rfl (lv_at hl 4 rfl) ?_
        refine lv_i2l hx hb dX2_order_34 rfl ?_
        refine lv_ldc2 (v := (-1)) hx hb hown kl70 dX2_order_35 ?_
        refine lv_ldc2 (v := 49) hx hb hown kl72 dX2_order_38 ?_
        refine rdS_i (As := [.long ((wh).toInt64), .long (-1), .long 49]) (rest := []) ⟨hx, hb, hml, hown, hts⟩ (c_X2_isIn l G ((wh).toInt64 : Int64) ((-1) : Int64) (49 : Int64)) cw58 hK va_P.nil rfl hl.1 rfl (Nat.le_of_ble_eq_true rfl) dX2_order_41 ⟨Nat.zero_le _, Nat.zero_le _⟩ (fun r41_54 w41_54 => ?_)
        have w41_54 : ((r41_54.toInt = 1 ∧ ((((-1) : Int64)).toInt ≤ (((wh).toInt64 : Int64)).toInt ∧ (((wh).toInt64 : Int64)).toInt ≤ ((49 : Int64)).toInt)) ∨ (r41_54.toInt = 0 ∧ ¬ ((((-1) : Int64)).toInt ≤ (((wh).toInt64 : Int64)).toInt ∧ (((wh).toInt64 : Int64)).toInt ≤ ((49 : Int64)).toInt))) := w41_54
        have va55 : (((wh).toInt64 : Int64)).toInt = (wh).toInt := (tl_i2l rfl)
        have va56 : (((-1) : Int64)).toInt = (-1) := rfl
        have va57 : ((49 : Int64)).toInt = 49 := rfl
        refine lv_if_eq (tgt := 65) hx hb dX2_order_44 (by decide) (fun c44_58 => ?_) (fun c44_58 => ?_)
        · have c44_58 : (r41_54).toInt = 0 := (ti_eq (x := r41_54) (y := 0) (a := (r41_54).toInt) (b := 0) rfl rfl).mp c44_58
          refine lv_bipush (v := (-101)) hx hb dX2_order_65 (by decide) ?_
          have hF : fOrder σ kd en wh to fr un = ((-101), σ) := if_pos (by omega)
          exact hret _ _ _ _ _ _ _ μ dX2_order_67 (Or.inr (Or.inr rfl)) (by rw [hF]; exact ⟨rfl, hM⟩) (by rw [hF]; exact hP) (by rw [hF]; exact hD) hS (Nat.le_refl _) (Nat.le_refl _)
        · have c44_58 : ¬ ((r41_54).toInt = 0) := mt (ti_eq (x := r41_54) (y := 0) (a := (r41_54).toInt) (b := 0) rfl rfl).mpr c44_58
          refine lv_iload hx hb dX2_order_47 (lv_at hl 0 rfl) ?_
          refine lv_if_eq (tgt := 68) hx hb dX2_order_49 (by decide) (fun c49_59 => absurd c49_59 (by decide)) (fun _ => ?_)
          refine lv_iload hx hb dX2_order_52 (lv_at hl 5 rfl) ?_
          refine lv_i2l hx hb dX2_order_54 rfl ?_
          refine lv_lconst (v := 1) hx hb dX2_order_55 rfl ?_
          refine lv_ldc2 (v := 99) hx hb hown kl68 dX2_order_56 ?_
          refine rdS_i (As := [.long ((to).toInt64), .long 1, .long 99]) (rest := []) ⟨hx, hb, hml, hown, hts⟩ (c_X2_isIn l G ((to).toInt64 : Int64) (1 : Int64) (99 : Int64)) cw58 hK va_P.nil rfl hl.1 rfl (Nat.le_of_ble_eq_true rfl) dX2_order_59 ⟨Nat.zero_le _, Nat.zero_le _⟩ (fun r59_60 w59_60 => ?_)
          have w59_60 : ((r59_60.toInt = 1 ∧ (((1 : Int64)).toInt ≤ (((to).toInt64 : Int64)).toInt ∧ (((to).toInt64 : Int64)).toInt ≤ ((99 : Int64)).toInt)) ∨ (r59_60.toInt = 0 ∧ ¬ (((1 : Int64)).toInt ≤ (((to).toInt64 : Int64)).toInt ∧ (((to).toInt64 : Int64)).toInt ≤ ((99 : Int64)).toInt))) := w59_60
          have va61 : (((to).toInt64 : Int64)).toInt = (to).toInt := (tl_i2l rfl)
          have va62 : ((1 : Int64)).toInt = 1 := rfl
          have va63 : ((99 : Int64)).toInt = 99 := rfl
          refine lv_if_ne (tgt := 68) hx hb dX2_order_62 (by decide) (fun c62_64 => ?_) (fun c62_64 => ?_)
          · have c62_64 : ¬ ((r59_60).toInt = 0) := mt (ti_eq (x := r59_60) (y := 0) (a := (r59_60).toInt) (b := 0) rfl rfl).mpr c62_64
            refine lv_iload_n hx hb dX2_order_68 rfl (lv_at hl 2 rfl) ?_
            refine lv_i2l hx hb dX2_order_69 rfl ?_
            refine lv_lconst (v := 0) hx hb dX2_order_70 rfl ?_
            refine lv_ldc2 (v := 8) hx hb hown kl74 dX2_order_71 ?_
            refine rdS_i (As := [.long ((kd).toInt64), .long 0, .long 8]) (rest := []) ⟨hx, hb, hml, hown, hts⟩ (c_X2_isIn l G ((kd).toInt64 : Int64) (0 : Int64) (8 : Int64)) cw58 hK va_P.nil rfl hl.1 rfl (Nat.le_of_ble_eq_true rfl) dX2_order_74 ⟨Nat.zero_le _, Nat.zero_le _⟩ (fun r74_65 w74_65 => ?_)
            have w74_65 : ((r74_65.toInt = 1 ∧ (((0 : Int64)).toInt ≤ (((kd).toInt64 : Int64)).toInt ∧ (((kd).toInt64 : Int64)).toInt ≤ ((8 : Int64)).toInt)) ∨ (r74_65.toInt = 0 ∧ ¬ (((0 : Int64)).toInt ≤ (((kd).toInt64 : Int64)).toInt ∧ (((kd).toInt64 : Int64)).toInt ≤ ((8 : Int64)).toInt))) := w74_65
            have va66 : (((kd).toInt64 : Int64)).toInt = (kd).toInt := (tl_i2l rfl)
            have va67 : ((0 : Int64)).toInt = 0 := rfl
            have va68 : ((8 : Int64)).toInt = 8 := rfl
            refine lv_if_eq (tgt := 115) hx hb dX2_order_77 (by decide) (fun c77_69 => ?_) (fun c77_69 => ?_)
            · have c77_69 : (r74_65).toInt = 0 := (ti_eq (x := r74_65) (y := 0) (a := (r74_65).toInt) (b := 0) rfl rfl).mp c77_69
              refine lv_bipush (v := (-102)) hx hb dX2_order_115 (by decide) ?_
              have hF : fOrder σ kd en wh to fr un = ((-102), σ) := (if_neg (by omega)).trans (if_pos (by omega))
              exact hret _ _ _ _ _ _ _ μ dX2_order_117 (Or.inr (Or.inr rfl)) (by rw [hF]; exact ⟨rfl, hM⟩) (by rw [hF]; exact hP) (by rw [hF]; exact hD) hS (Nat.le_refl _) (Nat.le_refl _)
            · have c77_69 : ¬ ((r74_65).toInt = 0) := mt (ti_eq (x := r74_65) (y := 0) (a := (r74_65).toInt) (b := 0) rfl rfl).mpr c77_69
              refine lv_lload hx hb dX2_order_80 (lv_at hl 6 rfl) ?_
              refine lv_lconst (v := 0) hx hb dX2_order_82 rfl ?_
              refine lc_lt (tgt := 115) hx hb dX2_order_83 dX2_order_84 (by decide) (fun c83_70 => ?_) (fun c83_70 => ?_)
              · have c83_70 : (fr).toInt < 0 := (tl_lt (x := fr) (y := 0) (a := (fr).toInt) (b := 0) rfl rfl).mp c83_70
                refine lv_bipush (v := (-102)) hx hb dX2_order_115 (by decide) ?_
                have hF : fOrder σ kd en wh to fr un = ((-102), σ) := (if_neg (by omega)).trans (if_pos (by omega))
                exact hret _ _ _ _ _ _ _ μ dX2_order_117 (Or.inr (Or.inr rfl)) (by rw [hF]; exact ⟨rfl, hM⟩) (by rw [hF]; exact hP) (by rw [hF]; exact hD) hS (Nat.le_refl _) (Nat.le_refl _)
              · have c83_70 : ¬ ((fr).toInt < 0) := mt (tl_lt (x := fr) (y := 0) (a := (fr).toInt) (b := 0) rfl rfl).mpr c83_70
                refine lv_lload hx hb dX2_order_87 (lv_at hl 6 rfl) ?_
                refine lv_lload hx hb dX2_order_89 (lv_at hl 7 rfl) ?_
                refine lc_gt (tgt := 115) hx hb dX2_order_91 dX2_order_92 (by decide) (fun c91_71 => ?_) (fun c91_71 => ?_)
                · have c91_71 : (un).toInt < (fr).toInt := (tl_lt (x := un) (y := fr) (a := (un).toInt) (b := (fr).toInt) rfl rfl).mp c91_71
                  refine lv_bipush (v := (-102)) hx hb dX2_order_115 (by decide) ?_
                  have hF : fOrder σ kd en wh to fr un = ((-102), σ) := (if_neg (by omega)).trans (if_pos (by omega))
                  exact hret _ _ _ _ _ _ _ μ dX2_order_117 (Or.inr (Or.inr rfl)) (by rw [hF]; exact ⟨rfl, hM⟩) (by rw [hF]; exact hP) (by rw [hF]; exact hD) hS (Nat.le_refl _) (Nat.le_refl _)
                · have c91_71 : ¬ ((un).toInt < (fr).toInt) := mt (tl_lt (x := un) (y := fr) (a := (un).toInt) (b := (fr).toInt) rfl rfl).mpr c91_71
                  refine lv_lload hx hb dX2_order_95 (lv_at hl 7 rfl) ?_
                  refine lv_ldc2 (v := 20000) hx hb hown kl66 dX2_order_97 ?_
                  refine lc_gt (tgt := 115) hx hb dX2_order_100 dX2_order_101 (by decide) (fun c100_72 => ?_) (fun c100_72 => ?_)
                  · have c100_72 : 20000 < (un).toInt := (tl_lt (x := 20000) (y := un) (a := 20000) (b := (un).toInt) rfl rfl).mp c100_72
                    refine lv_bipush (v := (-102)) hx hb dX2_order_115 (by decide) ?_
                    have hF : fOrder σ kd en wh to fr un = ((-102), σ) := (if_neg (by omega)).trans (if_pos (by omega))
                    exact hret _ _ _ _ _ _ _ μ dX2_order_117 (Or.inr (Or.inr rfl)) (by rw [hF]; exact ⟨rfl, hM⟩) (by rw [hF]; exact hP) (by rw [hF]; exact hD) hS (Nat.le_refl _) (Nat.le_refl _)
                  · have c100_72 : ¬ (20000 < (un).toInt) := mt (tl_lt (x := 20000) (y := un) (a := 20000) (b := (un).toInt) rfl rfl).mpr c100_72
                    refine lv_iload hx hb dX2_order_104 (lv_at hl 0 rfl) ?_
                    refine lv_if_eq (tgt := 118) hx hb dX2_order_106 (by decide) (fun c106_73 => absurd c106_73 (by decide)) (fun _ => ?_)
                    refine lv_iload hx hb dX2_order_109 (lv_at hl 5 rfl) ?_
                    refine lv_iload_n hx hb dX2_order_111 rfl (lv_at hl 3 rfl) ?_
                    refine lv_icmp_ne (tgt := 118) hx hb dX2_order_112 (by decide) (fun c112_74 => ?_) (fun c112_74 => ?_)
                    · have c112_74 : ¬ ((to).toInt = (en).toInt) := mt (ti_eq (x := to) (y := en) (a := (to).toInt) (b := (en).toInt) rfl rfl).mpr c112_74
                      refine lv_aload_n hx hb dX2_order_118 rfl (lv_at hl 1 rfl) ?_
                      refine va_get (D := G.1) (ci := 3) (v := .int (nI (sN σ))) (own := RX2) (C := RX2) (T := TX2) (N := 17) hx hb hts hiX2 hown hK.1 hP 0 rfl rfl 1 (by decide) lf55 (fun _ h9 => h9) rfl dX2_order_119 ?_
                      refine lv_sipush (v := 200) hx hb dX2_order_122 (by decide) ?_
                      refine lv_icmp_ne (tgt := 131) hx hb dX2_order_125 (by decide) (fun c125_75 => ?_) (fun c125_75 => ?_)
                      · have c125_75 : ¬ ((((sN σ) : Nat) : Int) = 200) := mt (ti_eq (x := (nI (sN σ))) (y := 200) (a := (((sN σ) : Nat) : Int)) (b := 200) (ti_nI (by omega)) rfl).mpr c125_75
                        refine lv_aload_n hx hb dX2_order_131 rfl (lv_at hl 1 rfl) ?_
                        refine lv_dup hx hb dX2_order_132 rfl ?_
                        refine va_get (D := G.1) (ci := 3) (v := .int (nI (sN σ))) (own := RX2) (C := RX2) (T := TX2) (N := 17) hx hb hts hiX2 hown hK.1 hP 0 rfl rfl 1 (by decide) lf55 (fun _ h9 => h9) rfl dX2_order_133 ?_
                        refine lv_iconst (v := 1) hx hb dX2_order_136 (by decide) ?_
                        refine lv_iadd hx hb dX2_order_137 ?_
                        refine lv_topi (fun y137_76 e137_76 => ?_)
                        have v137_76 : (y137_76).toInt = ((((sN σ) + 1) : Nat) : Int) := by rw [e137_76]; exact (ti_add (a := (((sN σ) : Nat) : Int)) (b := 1) (ti_nI (by omega)) rfl (by omega) (by omega)).trans (by omega)
                        refine va_put (D := G.1) (ci := 3) (v := .int y137_76) (ty := .int) (own := RX2) (C := RX2) (T := TX2) (N := 17) hx hb hts hiX2 tyX2 tyX2_ok nmX2 hown hK.1 hP hD hS 0 rfl rfl 1 (by decide) lf55 (fun _ h9 => h9) rfl (by decide +kernel) rfl rfl (Nat.le_of_ble_eq_true rfl) dX2_order_138 (fun H locs hP hD hS => ?_)
                        have hP : va_P G.1 vwCl (MW G b 0 y137_76 (uK μ) (uE μ) (uP μ) (uT μ) (uF μ) (uU μ) (uM μ) (uV μ) (uX μ) (sR σ) (sT σ) (uW μ) (nI (sG σ).length) (uG μ)) H := hP
                        have hD : va_D A (MW G b 0 y137_76 (uK μ) (uE μ) (uP μ) (uT μ) (uF μ) (uU μ) (uM μ) (uV μ) (uX μ) (sR σ) (sT σ) (uW μ) (nI (sG σ).length) (uG μ)) := hD
                        refine lv_aload_n hx hb dX2_order_141 rfl (lv_at hl 1 rfl) ?_
                        refine va_get (D := G.1) (ci := 3) (v := .ref (b 1)) (own := RX2) (C := RX2) (T := TX2) (N := 17) hx hb hts hiX2 hown hK.1 hP 0 rfl rfl 2 (by decide) lf7 (fun _ h9 => h9) rfl dX2_order_142 ?_
                        refine lv_aload_n hx hb dX2_order_145 rfl (lv_at hl 1 rfl) ?_
                        refine va_get (D := G.1) (ci := 3) (v := .int y137_76) (own := RX2) (C := RX2) (T := TX2) (N := 17) hx hb hts hiX2 hown hK.1 hP 0 rfl rfl 1 (by decide) lf55 (fun _ h9 => h9) rfl dX2_order_146 ?_
                        refine lv_iload_n hx hb dX2_order_149 rfl (lv_at hl 2 rfl) ?_
                        refine my_iast hx hb hK hP hD hS 1 rfl (x := kd) ((sN σ) + 1) v137_76 (by omega) dX2_order_150 (fun H locs hP hD hS => ?_)
                        have hP : va_P G.1 vwCl (MW G b 0 y137_76 (upd (uK μ) ((sN σ) + 1) kd) (uE μ) (uP μ) (uT μ) (uF μ) (uU μ) (uM μ) (uV μ) (uX μ) (sR σ) (sT σ) (uW μ) (nI (sG σ).length) (uG μ)) H := hP
                        have hD : va_D A (MW G b 0 y137_76 (upd (uK μ) ((sN σ) + 1) kd) (uE μ) (uP μ) (uT μ) (uF μ) (uU μ) (uM μ) (uV μ) (uX μ) (sR σ) (sT σ) (uW μ) (nI (sG σ).length) (uG μ)) := hD
                        refine lv_aload_n hx hb dX2_order_151 rfl (lv_at hl 1 rfl) ?_
                        refine va_get (D := G.1) (ci := 3) (v := .ref (b 2)) (own := RX2) (C := RX2) (T := TX2) (N := 17) hx hb hts hiX2 hown hK.1 hP 0 rfl rfl 3 (by decide) lf13 (fun _ h9 => h9) rfl dX2_order_152 ?_
                        refine lv_aload_n hx hb dX2_order_155 rfl (lv_at hl 1 rfl) ?_
                        refine va_get (D := G.1) (ci := 3) (v := .int y137_76) (own := RX2) (C := RX2) (T := TX2) (N := 17) hx hb hts hiX2 hown hK.1 hP 0 rfl rfl 1 (by decide) lf55 (fun _ h9 => h9) rfl dX2_order_156 ?_
                        refine lv_iload_n hx hb dX2_order_159 rfl (lv_at hl 3 rfl) ?_
                        refine my_iast hx hb hK hP hD hS 2 rfl (x := en) ((sN σ) + 1) v137_76 (by omega) dX2_order_160 (fun H locs hP hD hS => ?_)
                        have hP : va_P G.1 vwCl (MW G b 0 y137_76 (upd (uK μ) ((sN σ) + 1) kd) (upd (uE μ) ((sN σ) + 1) en) (uP μ) (uT μ) (uF μ) (uU μ) (uM μ) (uV μ) (uX μ) (sR σ) (sT σ) (uW μ) (nI (sG σ).length) (uG μ)) H := hP
                        have hD : va_D A (MW G b 0 y137_76 (upd (uK μ) ((sN σ) + 1) kd) (upd (uE μ) ((sN σ) + 1) en) (uP μ) (uT μ) (uF μ) (uU μ) (uM μ) (uV μ) (uX μ) (sR σ) (sT σ) (uW μ) (nI (sG σ).length) (uG μ)) := hD
                        refine lv_aload_n hx hb dX2_order_161 rfl (lv_at hl 1 rfl) ?_
                        refine va_get (D := G.1) (ci := 3) (v := .ref (b 3)) (own := RX2) (C := RX2) (T := TX2) (N := 17) hx hb hts hiX2 hown hK.1 hP 0 rfl rfl 4 (by decide) lf16 (fun _ h9 => h9) rfl dX2_order_162 ?_
                        refine lv_aload_n hx hb dX2_order_165 rfl (lv_at hl 1 rfl) ?_
                        refine va_get (D := G.1) (ci := 3) (v := .int y137_76) (own := RX2) (C := RX2) (T := TX2) (N := 17) hx hb hts hiX2 hown hK.1 hP 0 rfl rfl 1 (by decide) lf55 (fun _ h9 => h9) rfl dX2_order_166 ?_
                        refine lv_iload_n hx hb dX2_order_169 rfl (lv_at hl 4 rfl) ?_
                        refine my_iast hx hb hK hP hD hS 3 rfl (x := wh) ((sN σ) + 1) v137_76 (by omega) dX2_order_170 (fun H locs hP hD hS => ?_)
                        have hP : va_P G.1 vwCl (MW G b 0 y137_76 (upd (uK μ) ((sN σ) + 1) kd) (upd (uE μ) ((sN σ) + 1) en) (upd (uP μ) ((sN σ) + 1) wh) (uT μ) (uF μ) (uU μ) (uM μ) (uV μ) (uX μ) (sR σ) (sT σ) (uW μ) (nI (sG σ).length) (uG μ)) H := hP
                        have hD : va_D A (MW G b 0 y137_76 (upd (uK μ) ((sN σ) + 1) kd) (upd (uE μ) ((sN σ) + 1) en) (upd (uP μ) ((sN σ) + 1) wh) (uT μ) (uF μ) (uU μ) (uM μ) (uV μ) (uX μ) (sR σ) (sT σ) (uW μ) (nI (sG σ).length) (uG μ)) := hD
                        refine lv_aload_n hx hb dX2_order_171 rfl (lv_at hl 1 rfl) ?_
                        refine va_get (D := G.1) (ci := 3) (v := .ref (b 4)) (own := RX2) (C := RX2) (T := TX2) (N := 17) hx hb hts hiX2 hown hK.1 hP 0 rfl rfl 5 (by decide) lf19 (fun _ h9 => h9) rfl dX2_order_172 ?_
                        refine lv_aload_n hx hb dX2_order_175 rfl (lv_at hl 1 rfl) ?_
                        refine va_get (D := G.1) (ci := 3) (v := .int y137_76) (own := RX2) (C := RX2) (T := TX2) (N := 17) hx hb hts hiX2 hown hK.1 hP 0 rfl rfl 1 (by decide) lf55 (fun _ h9 => h9) rfl dX2_order_176 ?_
                        refine lv_iload hx hb dX2_order_179 (lv_at hl 0 rfl) ?_
                        refine lv_if_eq (tgt := 189) hx hb dX2_order_181 (by decide) (fun c181_77 => absurd c181_77 (by decide)) (fun _ => ?_)
                        refine lv_iload hx hb dX2_order_184 (lv_at hl 5 rfl) ?_
                        refine lv_goto (tgt := 190) hx hb dX2_order_186 (by decide) ?_
                        refine my_iast hx hb hK hP hD hS 4 rfl (x := to) ((sN σ) + 1) v137_76 (by omega) dX2_order_190 (fun H locs hP hD hS => ?_)
                        have hP : va_P G.1 vwCl (MW G b 0 y137_76 (upd (uK μ) ((sN σ) + 1) kd) (upd (uE μ) ((sN σ) + 1) en) (upd (uP μ) ((sN σ) + 1) wh) (upd (uT μ) ((sN σ) + 1) to) (uF μ) (uU μ) (uM μ) (uV μ) (uX μ) (sR σ) (sT σ) (uW μ) (nI (sG σ).length) (uG μ)) H := hP
                        have hD : va_D A (MW G b 0 y137_76 (upd (uK μ) ((sN σ) + 1) kd) (upd (uE μ) ((sN σ) + 1) en) (upd (uP μ) ((sN σ) + 1) wh) (upd (uT μ) ((sN σ) + 1) to) (uF μ) (uU μ) (uM μ) (uV μ) (uX μ) (sR σ) (sT σ) (uW μ) (nI (sG σ).length) (uG μ)) := hD
                        refine lv_aload_n hx hb dX2_order_191 rfl (lv_at hl 1 rfl) ?_
                        refine va_get (D := G.1) (ci := 3) (v := .ref (b 5)) (own := RX2) (C := RX2) (T := TX2) (N := 17) hx hb hts hiX2 hown hK.1 hP 0 rfl rfl 6 (by decide) lf22 (fun _ h9 => h9) rfl dX2_order_192 ?_
                        refine lv_aload_n hx hb dX2_order_195 rfl (lv_at hl 1 rfl) ?_
                        refine va_get (D := G.1) (ci := 3) (v := .int y137_76) (own := RX2) (C := RX2) (T := TX2) (N := 17) hx hb hts hiX2 hown hK.1 hP 0 rfl rfl 1 (by decide) lf55 (fun _ h9 => h9) rfl dX2_order_196 ?_
                        refine lv_lload hx hb dX2_order_199 (lv_at hl 6 rfl) ?_
                        refine my_last hx hb hK hP hD hS 5 rfl (x := fr) ((sN σ) + 1) v137_76 (by omega) dX2_order_201 (fun H locs hP hD hS => ?_)
                        have hP : va_P G.1 vwCl (MW G b 0 y137_76 (upd (uK μ) ((sN σ) + 1) kd) (upd (uE μ) ((sN σ) + 1) en) (upd (uP μ) ((sN σ) + 1) wh) (upd (uT μ) ((sN σ) + 1) to) (vp_updL (uF μ) ((sN σ) + 1) fr) (uU μ) (uM μ) (uV μ) (uX μ) (sR σ) (sT σ) (uW μ) (nI (sG σ).length) (uG μ)) H := hP
                        have hD : va_D A (MW G b 0 y137_76 (upd (uK μ) ((sN σ) + 1) kd) (upd (uE μ) ((sN σ) + 1) en) (upd (uP μ) ((sN σ) + 1) wh) (upd (uT μ) ((sN σ) + 1) to) (vp_updL (uF μ) ((sN σ) + 1) fr) (uU μ) (uM μ) (uV μ) (uX μ) (sR σ) (sT σ) (uW μ) (nI (sG σ).length) (uG μ)) := hD
                        refine lv_aload_n hx hb dX2_order_202 rfl (lv_at hl 1 rfl) ?_
                        refine va_get (D := G.1) (ci := 3) (v := .ref (b 6)) (own := RX2) (C := RX2) (T := TX2) (N := 17) hx hb hts hiX2 hown hK.1 hP 0 rfl rfl 7 (by decide) lf26 (fun _ h9 => h9) rfl dX2_order_203 ?_
                        refine lv_aload_n hx hb dX2_order_206 rfl (lv_at hl 1 rfl) ?_
                        refine va_get (D := G.1) (ci := 3) (v := .int y137_76) (own := RX2) (C := RX2) (T := TX2) (N := 17) hx hb hts hiX2 hown hK.1 hP 0 rfl rfl 1 (by decide) lf55 (fun _ h9 => h9) rfl dX2_order_207 ?_
                        refine lv_lload hx hb dX2_order_210 (lv_at hl 7 rfl) ?_
                        refine my_last hx hb hK hP hD hS 6 rfl (x := un) ((sN σ) + 1) v137_76 (by omega) dX2_order_212 (fun H locs hP hD hS => ?_)
                        have hP : va_P G.1 vwCl (MW G b 0 y137_76 (upd (uK μ) ((sN σ) + 1) kd) (upd (uE μ) ((sN σ) + 1) en) (upd (uP μ) ((sN σ) + 1) wh) (upd (uT μ) ((sN σ) + 1) to) (vp_updL (uF μ) ((sN σ) + 1) fr) (vp_updL (uU μ) ((sN σ) + 1) un) (uM μ) (uV μ) (uX μ) (sR σ) (sT σ) (uW μ) (nI (sG σ).length) (uG μ)) H := hP
                        have hD : va_D A (MW G b 0 y137_76 (upd (uK μ) ((sN σ) + 1) kd) (upd (uE μ) ((sN σ) + 1) en) (upd (uP μ) ((sN σ) + 1) wh) (upd (uT μ) ((sN σ) + 1) to) (vp_updL (uF μ) ((sN σ) + 1) fr) (vp_updL (uU μ) ((sN σ) + 1) un) (uM μ) (uV μ) (uX μ) (sR σ) (sT σ) (uW μ) (nI (sG σ).length) (uG μ)) := hD
                        refine lv_aload_n hx hb dX2_order_213 rfl (lv_at hl 1 rfl) ?_
                        refine va_get (D := G.1) (ci := 3) (v := .ref (b 7)) (own := RX2) (C := RX2) (T := TX2) (N := 17) hx hb hts hiX2 hown hK.1 hP 0 rfl rfl 8 (by decide) lf29 (fun _ h9 => h9) rfl dX2_order_214 ?_
                        refine lv_aload_n hx hb dX2_order_217 rfl (lv_at hl 1 rfl) ?_
                        refine va_get (D := G.1) (ci := 3) (v := .int y137_76) (own := RX2) (C := RX2) (T := TX2) (N := 17) hx hb hts hiX2 hown hK.1 hP 0 rfl rfl 1 (by decide) lf55 (fun _ h9 => h9) rfl dX2_order_218 ?_
                        refine lv_aload_n hx hb dX2_order_221 rfl (lv_at hl 1 rfl) ?_
                        refine va_get (D := G.1) (ci := 3) (v := .long (sT σ)) (own := RX2) (C := RX2) (T := TX2) (N := 17) hx hb hts hiX2 hown hK.1 hP 0 rfl rfl 12 (by decide) lf62 (fun _ h9 => h9) rfl dX2_order_222 ?_
                        refine my_last hx hb hK hP hD hS 7 rfl (x := (sT σ)) ((sN σ) + 1) v137_76 (by omega) dX2_order_225 (fun H locs hP hD hS => ?_)
                        have hP : va_P G.1 vwCl (MW G b 0 y137_76 (upd (uK μ) ((sN σ) + 1) kd) (upd (uE μ) ((sN σ) + 1) en) (upd (uP μ) ((sN σ) + 1) wh) (upd (uT μ) ((sN σ) + 1) to) (vp_updL (uF μ) ((sN σ) + 1) fr) (vp_updL (uU μ) ((sN σ) + 1) un) (vp_updL (uM μ) ((sN σ) + 1) (sT σ)) (uV μ) (uX μ) (sR σ) (sT σ) (uW μ) (nI (sG σ).length) (uG μ)) H := hP
                        have hD : va_D A (MW G b 0 y137_76 (upd (uK μ) ((sN σ) + 1) kd) (upd (uE μ) ((sN σ) + 1) en) (upd (uP μ) ((sN σ) + 1) wh) (upd (uT μ) ((sN σ) + 1) to) (vp_updL (uF μ) ((sN σ) + 1) fr) (vp_updL (uU μ) ((sN σ) + 1) un) (vp_updL (uM μ) ((sN σ) + 1) (sT σ)) (uV μ) (uX μ) (sR σ) (sT σ) (uW μ) (nI (sG σ).length) (uG μ)) := hD
                        refine lv_aload_n hx hb dX2_order_226 rfl (lv_at hl 1 rfl) ?_
                        refine va_get (D := G.1) (ci := 3) (v := .ref (b 9)) (own := RX2) (C := RX2) (T := TX2) (N := 17) hx hb hts hiX2 hown hK.1 hP 0 rfl rfl 10 (by decide) lf36 (fun _ h9 => h9) rfl dX2_order_227 ?_
                        refine lv_aload_n hx hb dX2_order_230 rfl (lv_at hl 1 rfl) ?_
                        refine va_get (D := G.1) (ci := 3) (v := .int y137_76) (own := RX2) (C := RX2) (T := TX2) (N := 17) hx hb hts hiX2 hown hK.1 hP 0 rfl rfl 1 (by decide) lf55 (fun _ h9 => h9) rfl dX2_order_231 ?_
                        refine lv_ldc2 (v := (-1)) hx hb hown kl70 dX2_order_234 ?_
                        refine my_last hx hb hK hP hD hS 9 rfl (x := (-1)) ((sN σ) + 1) v137_76 (by omega) dX2_order_237 (fun H locs hP hD hS => ?_)
                        have hP : va_P G.1 vwCl (MW G b 0 y137_76 (upd (uK μ) ((sN σ) + 1) kd) (upd (uE μ) ((sN σ) + 1) en) (upd (uP μ) ((sN σ) + 1) wh) (upd (uT μ) ((sN σ) + 1) to) (vp_updL (uF μ) ((sN σ) + 1) fr) (vp_updL (uU μ) ((sN σ) + 1) un) (vp_updL (uM μ) ((sN σ) + 1) (sT σ)) (uV μ) (vp_updL (uX μ) ((sN σ) + 1) (-1)) (sR σ) (sT σ) (uW μ) (nI (sG σ).length) (uG μ)) H := hP
                        have hD : va_D A (MW G b 0 y137_76 (upd (uK μ) ((sN σ) + 1) kd) (upd (uE μ) ((sN σ) + 1) en) (upd (uP μ) ((sN σ) + 1) wh) (upd (uT μ) ((sN σ) + 1) to) (vp_updL (uF μ) ((sN σ) + 1) fr) (vp_updL (uU μ) ((sN σ) + 1) un) (vp_updL (uM μ) ((sN σ) + 1) (sT σ)) (uV μ) (vp_updL (uX μ) ((sN σ) + 1) (-1)) (sR σ) (sT σ) (uW μ) (nI (sG σ).length) (uG μ)) := hD
                        refine lv_aload_n hx hb dX2_order_238 rfl (lv_at hl 1 rfl) ?_
                        refine va_get (D := G.1) (ci := 3) (v := .int y137_76) (own := RX2) (C := RX2) (T := TX2) (N := 17) hx hb hts hiX2 hown hK.1 hP 0 rfl rfl 1 (by decide) lf55 (fun _ h9 => h9) rfl dX2_order_239 ?_
                        have hF : fOrder σ kd en wh to fr un = (nI (sN σ + 1), (sN σ + 1, va_up (sO σ) (sN σ) (kd, en, wh, to, fr, sT σ, un, 20001, 0), sT σ, sR σ, sG σ)) := (if_neg (by omega)).trans ((if_neg (by omega)).trans (if_neg (by omega)))
                        obtain rfl : y137_76 = nI (sN σ + 1) := nI_ofI v137_76
                        have hM2 : MI ((upd (uK μ) ((sN σ) + 1) kd), (upd (uE μ) ((sN σ) + 1) en), (upd (uP μ) ((sN σ) + 1) wh), (upd (uT μ) ((sN σ) + 1) to), (vp_updL (uF μ) ((sN σ) + 1) fr), (vp_updL (uU μ) ((sN σ) + 1) un), (vp_updL (uM μ) ((sN σ) + 1) (sT σ)), (uV μ), (vp_updL (uX μ) ((sN σ) + 1) (-1)), (uW μ), (uG μ)) (sN σ + 1, va_up (sO σ) (sN σ) (kd, en, wh, to, fr, sT σ, un, 20001, 0), sT σ, sR σ, sG σ) := by
                          refine MI_new hM (fun j o1 hj h => ?_) ?_ rfl rfl
                          · obtain ⟨h1, h2, h3, h4, h5, h6, h7, h8, h9⟩ := h
                            exact ⟨(pk_un hj).trans h1, (pk_un hj).trans h2, (pk_un hj).trans h3, fun z => (pk_un hj).trans (h4 z), (pk_uLn hj).trans h5, (pk_uLn hj).trans h6, (pk_uLn hj).trans h7, h8, by show XI _ (vp_updL (uX μ) (sN σ + 1) (-1) j); rw [pk_uLn hj]; exact h9⟩
                          · exact ⟨pk_us, pk_us, pk_us, fun _ => pk_us, pk_uLs, pk_uLs, pk_uLs, hM.2.1 (sN σ + 1) (Nat.lt_succ_self _), Or.inl ⟨rfl, by show (vp_updL (uX μ) (sN σ + 1) (-1) (sN σ + 1)).toInt = -1; rw [pk_uLs]; rfl⟩⟩
                        exact hret _ _ _ _ _ _ _ ((upd (uK μ) ((sN σ) + 1) kd), (upd (uE μ) ((sN σ) + 1) en), (upd (uP μ) ((sN σ) + 1) wh), (upd (uT μ) ((sN σ) + 1) to), (vp_updL (uF μ) ((sN σ) + 1) fr), (vp_updL (uU μ) ((sN σ) + 1) un), (vp_updL (uM μ) ((sN σ) + 1) (sT σ)), (uV μ), (vp_updL (uX μ) ((sN σ) + 1) (-1)), (uW μ), (uG μ)) dX2_order_242 (Or.inr (Or.inr rfl)) (by rw [hF]; exact ⟨rfl, hM2⟩) (by rw [hF]; exact hP) (by rw [hF]; exact hD) hS (Nat.le_refl _) (Nat.le_refl _)
                      · have c125_75 : (((sN σ) : Nat) : Int) = 200 := (ti_eq (x := (nI (sN σ))) (y := 200) (a := (((sN σ) : Nat) : Int)) (b := 200) (ti_nI (by omega)) rfl).mp c125_75
                        refine lv_bipush (v := (-104)) hx hb dX2_order_128 (by decide) ?_
                        have hF : fOrder σ kd en wh to fr un = ((-104), σ) := (if_neg (by omega)).trans ((if_neg (by omega)).trans (if_pos (by omega)))
                        exact hret _ _ _ _ _ _ _ μ dX2_order_130 (Or.inr (Or.inr rfl)) (by rw [hF]; exact ⟨rfl, hM⟩) (by rw [hF]; exact hP) (by rw [hF]; exact hD) hS (Nat.le_refl _) (Nat.le_refl _)
                    · have c112_74 : (to).toInt = (en).toInt := (ti_eq (x := to) (y := en) (a := (to).toInt) (b := (en).toInt) rfl rfl).mp c112_74
                      refine lv_bipush (v := (-102)) hx hb dX2_order_115 (by decide) ?_
                      have hF : fOrder σ kd en wh to fr un = ((-102), σ) := (if_neg (by omega)).trans (if_pos (by omega))
                      exact hret _ _ _ _ _ _ _ μ dX2_order_117 (Or.inr (Or.inr rfl)) (by rw [hF]; exact ⟨rfl, hM⟩) (by rw [hF]; exact hP) (by rw [hF]; exact hD) hS (Nat.le_refl _) (Nat.le_refl _)
          · have c62_64 : (r59_60).toInt = 0 := (ti_eq (x := r59_60) (y := 0) (a := (r59_60).toInt) (b := 0) rfl rfl).mp c62_64
            refine lv_bipush (v := (-101)) hx hb dX2_order_65 (by decide) ?_
            have hF : fOrder σ kd en wh to fr un = ((-101), σ) := if_pos (by omega)
            exact hret _ _ _ _ _ _ _ μ dX2_order_67 (Or.inr (Or.inr rfl)) (by rw [hF]; exact ⟨rfl, hM⟩) (by rw [hF]; exact hP) (by rw [hF]; exact hD) hS (Nat.le_refl _) (Nat.le_refl _)

set_option maxHeartbeats 4000000 in
set_option maxRecDepth 100000 in
/-- OrderRows2Model() -/
theorem c_X2_init (l : Launch) (G : GG) (h : Nat) : WrV l yX2_init wsX2_init (rmX 1 40 12 2019) G [.ref h] [(h, .inr (3, [.int 0, .int 0, .null, .null, .null, .null, .null, .null, .null, .null, .null, .null, .long 0, .null, .int 0, .int 0, .null]))] (fun u : (Nat → Nat) => u 0 = h) (fun u : (Nat → Nat) => WM G u μ0 σ0) 12 2019 := by
  refine wr_of_v (cc := cX2_init) (maxL := 1) (by decide +kernel) rfl (Nat.le_of_ble_eq_true rfl) ?_
  intro p e s m args below meth c Q A hx hb hml hown hts hK hZ hA hin hret ls hl hP hD hS
  have hown : s.vm.findClass RX2 = some m.cls := hown
  have hl : lv_has ls 1 [(0, .ref h)] := hl
  have hP : va_P G.1 vwCl [(h, .inr (3, [.int 0, .int 0, .null, .null, .null, .null, .null, .null, .null, .null, .null, .null, .long 0, .null, .int 0, .int 0, .null]))] s.heap := hP
  have hD : va_D A [(h, .inr (3, [.int 0, .int 0, .null, .null, .null, .null, .null, .null, .null, .null, .null, .null, .long 0, .null, .int 0, .int 0, .null]))] := hD
  have hin : meth.name = "<init>" := hin
  have hiX2 := (show ∀ w ∈ u_ws RX2 TX2 17, w ∈ wsX2_init by decide +kernel)
  have lf7 := hts (.fieldLink RX2 7 "OrderRows2Model" "kinds" "[I") (by decide +kernel)
  have lf13 := hts (.fieldLink RX2 13 "OrderRows2Model" "entries" "[I") (by decide +kernel)
  have lf16 := hts (.fieldLink RX2 16 "OrderRows2Model" "persons" "[I") (by decide +kernel)
  have lf19 := hts (.fieldLink RX2 19 "OrderRows2Model" "tos" "[I") (by decide +kernel)
  have lf22 := hts (.fieldLink RX2 22 "OrderRows2Model" "froms" "[J") (by decide +kernel)
  have lf26 := hts (.fieldLink RX2 26 "OrderRows2Model" "untils" "[J") (by decide +kernel)
  have lf29 := hts (.fieldLink RX2 29 "OrderRows2Model" "made" "[J") (by decide +kernel)
  have lf32 := hts (.fieldLink RX2 32 "OrderRows2Model" "proved" "[Z") (by decide +kernel)
  have lf36 := hts (.fieldLink RX2 36 "OrderRows2Model" "overs" "[J") (by decide +kernel)
  have lf39 := hts (.fieldLink RX2 39 "OrderRows2Model" "ranks" "[I") (by decide +kernel)
  have lf42 := hts (.fieldLink RX2 42 "OrderRows2Model" "way" "[I") (by decide +kernel)
  have lf45 := hts (.fieldLink RX2 45 "OrderRows2Model" "ring" "[I") (by decide +kernel)
  have lf48 := hts (.fieldLink RX2 48 "OrderRows2Model" "ringSize" "I") (by decide +kernel)
  refine lv_aload_n hx hb dX2_init_0 rfl (lv_at hl 0 rfl) ?_
  refine W.objInit hx hb hown (hts (.methodLink RX2 1 objectInit) (by decide +kernel)) (hts (.instanceMethod objectInit) (by decide +kernel)) (hts (.code objectInit ⟨#[0xb1]⟩ 1 none) (by decide +kernel)) rfl (by rw [hml]; exact hl.1) rfl dX2_init_1 (Nat.le_of_ble_eq_true rfl) (Nat.le_of_ble_eq_true rfl) ?_
  refine W.eq (g2 := F0 m 4 ls []) rfl ?_
  refine lv_aload_n hx hb dX2_init_4 rfl (lv_at hl 0 rfl) ?_
  refine lv_sipush (v := 201) hx hb dX2_init_5 (by decide) ?_
  refine va_newa (atype := .int) hx hb (hts (.arrayClass .int) (by decide +kernel)) rfl hK.1 hP hD hS hA (n := 201) (N' := 201) (a0 := (201, .inl (fun _ => 0))) (fun _ => rfl) (by decide) (by decide) (Nat.le_of_ble_eq_true rfl) (Nat.le_of_ble_eq_true rfl) (Nat.le_of_ble_eq_true rfl) dX2_init_8 (fun q1 cA H hK2 hP hD hS => ?_)
  obtain rfl : cA = gI G := Option.some.inj ((va_nm_int (hK2.2 4 _ rfl).2).symm.trans (va_nm_int (hK.1.2 0 _ rfl).2))
  have hP : va_P G.1 vwCl [(h, .inr (3, [.int 0, .int 0, .null, .null, .null, .null, .null, .null, .null, .null, .null, .null, .long 0, .null, .int 0, .int 0, .null])), aI G q1 201 (fun _ => 0)] H := hP
  have hD : va_D A [(h, .inr (3, [.int 0, .int 0, .null, .null, .null, .null, .null, .null, .null, .null, .null, .null, .long 0, .null, .int 0, .int 0, .null])), aI G q1 201 (fun _ => 0)] := hD
  refine va_putF (D := G.1) (ci := 3) (v := .ref q1) (ty := (.array .int)) (own := RX2) (C := RX2) (T := TX2) (N := 17) hx hb hts hiX2 tyX2 tyX2_ok nmX2 hown hK.1 hP hD hS 0 rfl rfl 2 (by decide) lf7 (fun _ h9 => h9) rfl hin rfl (by decide +kernel) rfl rfl (Nat.le_of_ble_eq_true rfl) dX2_init_10 (fun H locs hP hD hS => ?_)
  have hP : va_P G.1 vwCl [(h, .inr (3, [.int 0, .int 0, .ref q1, .null, .null, .null, .null, .null, .null, .null, .null, .null, .long 0, .null, .int 0, .int 0, .null])), aI G q1 201 (fun _ => 0)] H := hP
  have hD : va_D A [(h, .inr (3, [.int 0, .int 0, .ref q1, .null, .null, .null, .null, .null, .null, .null, .null, .null, .long 0, .null, .int 0, .int 0, .null])), aI G q1 201 (fun _ => 0)] := hD
  refine lv_aload_n hx hb dX2_init_13 rfl (lv_at hl 0 rfl) ?_
  refine lv_sipush (v := 201) hx hb dX2_init_14 (by decide) ?_
  refine va_newa (atype := .int) hx hb (hts (.arrayClass .int) (by decide +kernel)) rfl hK.1 hP hD hS hA (n := 201) (N' := 201) (a0 := (201, .inl (fun _ => 0))) (fun _ => rfl) (by decide) (by decide) (Nat.le_of_ble_eq_true rfl) (Nat.le_of_ble_eq_true rfl) (Nat.le_of_ble_eq_true rfl) dX2_init_17 (fun q2 cA H hK2 hP hD hS => ?_)
  obtain rfl : cA = gI G := Option.some.inj ((va_nm_int (hK2.2 4 _ rfl).2).symm.trans (va_nm_int (hK.1.2 0 _ rfl).2))
  have hP : va_P G.1 vwCl [(h, .inr (3, [.int 0, .int 0, .ref q1, .null, .null, .null, .null, .null, .null, .null, .null, .null, .long 0, .null, .int 0, .int 0, .null])), aI G q1 201 (fun _ => 0), aI G q2 201 (fun _ => 0)] H := hP
  have hD : va_D A [(h, .inr (3, [.int 0, .int 0, .ref q1, .null, .null, .null, .null, .null, .null, .null, .null, .null, .long 0, .null, .int 0, .int 0, .null])), aI G q1 201 (fun _ => 0), aI G q2 201 (fun _ => 0)] := hD
  refine va_putF (D := G.1) (ci := 3) (v := .ref q2) (ty := (.array .int)) (own := RX2) (C := RX2) (T := TX2) (N := 17) hx hb hts hiX2 tyX2 tyX2_ok nmX2 hown hK.1 hP hD hS 0 rfl rfl 3 (by decide) lf13 (fun _ h9 => h9) rfl hin rfl (by decide +kernel) rfl rfl (Nat.le_of_ble_eq_true rfl) dX2_init_19 (fun H locs hP hD hS => ?_)
  have hP : va_P G.1 vwCl [(h, .inr (3, [.int 0, .int 0, .ref q1, .ref q2, .null, .null, .null, .null, .null, .null, .null, .null, .long 0, .null, .int 0, .int 0, .null])), aI G q1 201 (fun _ => 0), aI G q2 201 (fun _ => 0)] H := hP
  have hD : va_D A [(h, .inr (3, [.int 0, .int 0, .ref q1, .ref q2, .null, .null, .null, .null, .null, .null, .null, .null, .long 0, .null, .int 0, .int 0, .null])), aI G q1 201 (fun _ => 0), aI G q2 201 (fun _ => 0)] := hD
  refine lv_aload_n hx hb dX2_init_22 rfl (lv_at hl 0 rfl) ?_
  refine lv_sipush (v := 201) hx hb dX2_init_23 (by decide) ?_
  refine va_newa (atype := .int) hx hb (hts (.arrayClass .int) (by decide +kernel)) rfl hK.1 hP hD hS hA (n := 201) (N' := 201) (a0 := (201, .inl (fun _ => 0))) (fun _ => rfl) (by decide) (by decide) (Nat.le_of_ble_eq_true rfl) (Nat.le_of_ble_eq_true rfl) (Nat.le_of_ble_eq_true rfl) dX2_init_26 (fun q3 cA H hK2 hP hD hS => ?_)
  obtain rfl : cA = gI G := Option.some.inj ((va_nm_int (hK2.2 4 _ rfl).2).symm.trans (va_nm_int (hK.1.2 0 _ rfl).2))
  have hP : va_P G.1 vwCl [(h, .inr (3, [.int 0, .int 0, .ref q1, .ref q2, .null, .null, .null, .null, .null, .null, .null, .null, .long 0, .null, .int 0, .int 0, .null])), aI G q1 201 (fun _ => 0), aI G q2 201 (fun _ => 0), aI G q3 201 (fun _ => 0)] H := hP
  have hD : va_D A [(h, .inr (3, [.int 0, .int 0, .ref q1, .ref q2, .null, .null, .null, .null, .null, .null, .null, .null, .long 0, .null, .int 0, .int 0, .null])), aI G q1 201 (fun _ => 0), aI G q2 201 (fun _ => 0), aI G q3 201 (fun _ => 0)] := hD
  refine va_putF (D := G.1) (ci := 3) (v := .ref q3) (ty := (.array .int)) (own := RX2) (C := RX2) (T := TX2) (N := 17) hx hb hts hiX2 tyX2 tyX2_ok nmX2 hown hK.1 hP hD hS 0 rfl rfl 4 (by decide) lf16 (fun _ h9 => h9) rfl hin rfl (by decide +kernel) rfl rfl (Nat.le_of_ble_eq_true rfl) dX2_init_28 (fun H locs hP hD hS => ?_)
  have hP : va_P G.1 vwCl [(h, .inr (3, [.int 0, .int 0, .ref q1, .ref q2, .ref q3, .null, .null, .null, .null, .null, .null, .null, .long 0, .null, .int 0, .int 0, .null])), aI G q1 201 (fun _ => 0), aI G q2 201 (fun _ => 0), aI G q3 201 (fun _ => 0)] H := hP
  have hD : va_D A [(h, .inr (3, [.int 0, .int 0, .ref q1, .ref q2, .ref q3, .null, .null, .null, .null, .null, .null, .null, .long 0, .null, .int 0, .int 0, .null])), aI G q1 201 (fun _ => 0), aI G q2 201 (fun _ => 0), aI G q3 201 (fun _ => 0)] := hD
  refine lv_aload_n hx hb dX2_init_31 rfl (lv_at hl 0 rfl) ?_
  refine lv_sipush (v := 201) hx hb dX2_init_32 (by decide) ?_
  refine va_newa (atype := .int) hx hb (hts (.arrayClass .int) (by decide +kernel)) rfl hK.1 hP hD hS hA (n := 201) (N' := 201) (a0 := (201, .inl (fun _ => 0))) (fun _ => rfl) (by decide) (by decide) (Nat.le_of_ble_eq_true rfl) (Nat.le_of_ble_eq_true rfl) (Nat.le_of_ble_eq_true rfl) dX2_init_35 (fun q4 cA H hK2 hP hD hS => ?_)
  obtain rfl : cA = gI G := Option.some.inj ((va_nm_int (hK2.2 4 _ rfl).2).symm.trans (va_nm_int (hK.1.2 0 _ rfl).2))
  have hP : va_P G.1 vwCl [(h, .inr (3, [.int 0, .int 0, .ref q1, .ref q2, .ref q3, .null, .null, .null, .null, .null, .null, .null, .long 0, .null, .int 0, .int 0, .null])), aI G q1 201 (fun _ => 0), aI G q2 201 (fun _ => 0), aI G q3 201 (fun _ => 0), aI G q4 201 (fun _ => 0)] H := hP
  have hD : va_D A [(h, .inr (3, [.int 0, .int 0, .ref q1, .ref q2, .ref q3, .null, .null, .null, .null, .null, .null, .null, .long 0, .null, .int 0, .int 0, .null])), aI G q1 201 (fun _ => 0), aI G q2 201 (fun _ => 0), aI G q3 201 (fun _ => 0), aI G q4 201 (fun _ => 0)] := hD
  refine va_putF (D := G.1) (ci := 3) (v := .ref q4) (ty := (.array .int)) (own := RX2) (C := RX2) (T := TX2) (N := 17) hx hb hts hiX2 tyX2 tyX2_ok nmX2 hown hK.1 hP hD hS 0 rfl rfl 5 (by decide) lf19 (fun _ h9 => h9) rfl hin rfl (by decide +kernel) rfl rfl (Nat.le_of_ble_eq_true rfl) dX2_init_37 (fun H locs hP hD hS => ?_)
  have hP : va_P G.1 vwCl [(h, .inr (3, [.int 0, .int 0, .ref q1, .ref q2, .ref q3, .ref q4, .null, .null, .null, .null, .null, .null, .long 0, .null, .int 0, .int 0, .null])), aI G q1 201 (fun _ => 0), aI G q2 201 (fun _ => 0), aI G q3 201 (fun _ => 0), aI G q4 201 (fun _ => 0)] H := hP
  have hD : va_D A [(h, .inr (3, [.int 0, .int 0, .ref q1, .ref q2, .ref q3, .ref q4, .null, .null, .null, .null, .null, .null, .long 0, .null, .int 0, .int 0, .null])), aI G q1 201 (fun _ => 0), aI G q2 201 (fun _ => 0), aI G q3 201 (fun _ => 0), aI G q4 201 (fun _ => 0)] := hD
  refine lv_aload_n hx hb dX2_init_40 rfl (lv_at hl 0 rfl) ?_
  refine lv_sipush (v := 201) hx hb dX2_init_41 (by decide) ?_
  refine va_newa (atype := .long) hx hb (hts (.arrayClass .long) (by decide +kernel)) rfl hK.1 hP hD hS hA (n := 201) (N' := 201) (a0 := (201, .inr (.inl (fun _ => 0)))) (fun _ => rfl) (by decide) (by decide) (Nat.le_of_ble_eq_true rfl) (Nat.le_of_ble_eq_true rfl) (Nat.le_of_ble_eq_true rfl) dX2_init_44 (fun q5 cA H hK2 hP hD hS => ?_)
  obtain rfl : cA = gJ G := Option.some.inj ((va_nm_long (hK2.2 4 _ rfl).2).symm.trans (va_nm_long (hK.1.2 1 _ rfl).2))
  have hP : va_P G.1 vwCl [(h, .inr (3, [.int 0, .int 0, .ref q1, .ref q2, .ref q3, .ref q4, .null, .null, .null, .null, .null, .null, .long 0, .null, .int 0, .int 0, .null])), aI G q1 201 (fun _ => 0), aI G q2 201 (fun _ => 0), aI G q3 201 (fun _ => 0), aI G q4 201 (fun _ => 0), aJ G q5 201 (fun _ => 0)] H := hP
  have hD : va_D A [(h, .inr (3, [.int 0, .int 0, .ref q1, .ref q2, .ref q3, .ref q4, .null, .null, .null, .null, .null, .null, .long 0, .null, .int 0, .int 0, .null])), aI G q1 201 (fun _ => 0), aI G q2 201 (fun _ => 0), aI G q3 201 (fun _ => 0), aI G q4 201 (fun _ => 0), aJ G q5 201 (fun _ => 0)] := hD
  refine va_putF (D := G.1) (ci := 3) (v := .ref q5) (ty := (.array .long)) (own := RX2) (C := RX2) (T := TX2) (N := 17) hx hb hts hiX2 tyX2 tyX2_ok nmX2 hown hK.1 hP hD hS 0 rfl rfl 6 (by decide) lf22 (fun _ h9 => h9) rfl hin rfl (by decide +kernel) rfl rfl (Nat.le_of_ble_eq_true rfl) dX2_init_46 (fun H locs hP hD hS => ?_)
  have hP : va_P G.1 vwCl [(h, .inr (3, [.int 0, .int 0, .ref q1, .ref q2, .ref q3, .ref q4, .ref q5, .null, .null, .null, .null, .null, .long 0, .null, .int 0, .int 0, .null])), aI G q1 201 (fun _ => 0), aI G q2 201 (fun _ => 0), aI G q3 201 (fun _ => 0), aI G q4 201 (fun _ => 0), aJ G q5 201 (fun _ => 0)] H := hP
  have hD : va_D A [(h, .inr (3, [.int 0, .int 0, .ref q1, .ref q2, .ref q3, .ref q4, .ref q5, .null, .null, .null, .null, .null, .long 0, .null, .int 0, .int 0, .null])), aI G q1 201 (fun _ => 0), aI G q2 201 (fun _ => 0), aI G q3 201 (fun _ => 0), aI G q4 201 (fun _ => 0), aJ G q5 201 (fun _ => 0)] := hD
  refine lv_aload_n hx hb dX2_init_49 rfl (lv_at hl 0 rfl) ?_
  refine lv_sipush (v := 201) hx hb dX2_init_50 (by decide) ?_
  refine va_newa (atype := .long) hx hb (hts (.arrayClass .long) (by decide +kernel)) rfl hK.1 hP hD hS hA (n := 201) (N' := 201) (a0 := (201, .inr (.inl (fun _ => 0)))) (fun _ => rfl) (by decide) (by decide) (Nat.le_of_ble_eq_true rfl) (Nat.le_of_ble_eq_true rfl) (Nat.le_of_ble_eq_true rfl) dX2_init_53 (fun q6 cA H hK2 hP hD hS => ?_)
  obtain rfl : cA = gJ G := Option.some.inj ((va_nm_long (hK2.2 4 _ rfl).2).symm.trans (va_nm_long (hK.1.2 1 _ rfl).2))
  have hP : va_P G.1 vwCl [(h, .inr (3, [.int 0, .int 0, .ref q1, .ref q2, .ref q3, .ref q4, .ref q5, .null, .null, .null, .null, .null, .long 0, .null, .int 0, .int 0, .null])), aI G q1 201 (fun _ => 0), aI G q2 201 (fun _ => 0), aI G q3 201 (fun _ => 0), aI G q4 201 (fun _ => 0), aJ G q5 201 (fun _ => 0), aJ G q6 201 (fun _ => 0)] H := hP
  have hD : va_D A [(h, .inr (3, [.int 0, .int 0, .ref q1, .ref q2, .ref q3, .ref q4, .ref q5, .null, .null, .null, .null, .null, .long 0, .null, .int 0, .int 0, .null])), aI G q1 201 (fun _ => 0), aI G q2 201 (fun _ => 0), aI G q3 201 (fun _ => 0), aI G q4 201 (fun _ => 0), aJ G q5 201 (fun _ => 0), aJ G q6 201 (fun _ => 0)] := hD
  refine va_putF (D := G.1) (ci := 3) (v := .ref q6) (ty := (.array .long)) (own := RX2) (C := RX2) (T := TX2) (N := 17) hx hb hts hiX2 tyX2 tyX2_ok nmX2 hown hK.1 hP hD hS 0 rfl rfl 7 (by decide) lf26 (fun _ h9 => h9) rfl hin rfl (by decide +kernel) rfl rfl (Nat.le_of_ble_eq_true rfl) dX2_init_55 (fun H locs hP hD hS => ?_)
  have hP : va_P G.1 vwCl [(h, .inr (3, [.int 0, .int 0, .ref q1, .ref q2, .ref q3, .ref q4, .ref q5, .ref q6, .null, .null, .null, .null, .long 0, .null, .int 0, .int 0, .null])), aI G q1 201 (fun _ => 0), aI G q2 201 (fun _ => 0), aI G q3 201 (fun _ => 0), aI G q4 201 (fun _ => 0), aJ G q5 201 (fun _ => 0), aJ G q6 201 (fun _ => 0)] H := hP
  have hD : va_D A [(h, .inr (3, [.int 0, .int 0, .ref q1, .ref q2, .ref q3, .ref q4, .ref q5, .ref q6, .null, .null, .null, .null, .long 0, .null, .int 0, .int 0, .null])), aI G q1 201 (fun _ => 0), aI G q2 201 (fun _ => 0), aI G q3 201 (fun _ => 0), aI G q4 201 (fun _ => 0), aJ G q5 201 (fun _ => 0), aJ G q6 201 (fun _ => 0)] := hD
  refine lv_aload_n hx hb dX2_init_58 rfl (lv_at hl 0 rfl) ?_
  refine lv_sipush (v := 201) hx hb dX2_init_59 (by decide) ?_
  refine va_newa (atype := .long) hx hb (hts (.arrayClass .long) (by decide +kernel)) rfl hK.1 hP hD hS hA (n := 201) (N' := 201) (a0 := (201, .inr (.inl (fun _ => 0)))) (fun _ => rfl) (by decide) (by decide) (Nat.le_of_ble_eq_true rfl) (Nat.le_of_ble_eq_true rfl) (Nat.le_of_ble_eq_true rfl) dX2_init_62 (fun q7 cA H hK2 hP hD hS => ?_)
  obtain rfl : cA = gJ G := Option.some.inj ((va_nm_long (hK2.2 4 _ rfl).2).symm.trans (va_nm_long (hK.1.2 1 _ rfl).2))
  have hP : va_P G.1 vwCl [(h, .inr (3, [.int 0, .int 0, .ref q1, .ref q2, .ref q3, .ref q4, .ref q5, .ref q6, .null, .null, .null, .null, .long 0, .null, .int 0, .int 0, .null])), aI G q1 201 (fun _ => 0), aI G q2 201 (fun _ => 0), aI G q3 201 (fun _ => 0), aI G q4 201 (fun _ => 0), aJ G q5 201 (fun _ => 0), aJ G q6 201 (fun _ => 0), aJ G q7 201 (fun _ => 0)] H := hP
  have hD : va_D A [(h, .inr (3, [.int 0, .int 0, .ref q1, .ref q2, .ref q3, .ref q4, .ref q5, .ref q6, .null, .null, .null, .null, .long 0, .null, .int 0, .int 0, .null])), aI G q1 201 (fun _ => 0), aI G q2 201 (fun _ => 0), aI G q3 201 (fun _ => 0), aI G q4 201 (fun _ => 0), aJ G q5 201 (fun _ => 0), aJ G q6 201 (fun _ => 0), aJ G q7 201 (fun _ => 0)] := hD
  refine va_putF (D := G.1) (ci := 3) (v := .ref q7) (ty := (.array .long)) (own := RX2) (C := RX2) (T := TX2) (N := 17) hx hb hts hiX2 tyX2 tyX2_ok nmX2 hown hK.1 hP hD hS 0 rfl rfl 8 (by decide) lf29 (fun _ h9 => h9) rfl hin rfl (by decide +kernel) rfl rfl (Nat.le_of_ble_eq_true rfl) dX2_init_64 (fun H locs hP hD hS => ?_)
  have hP : va_P G.1 vwCl [(h, .inr (3, [.int 0, .int 0, .ref q1, .ref q2, .ref q3, .ref q4, .ref q5, .ref q6, .ref q7, .null, .null, .null, .long 0, .null, .int 0, .int 0, .null])), aI G q1 201 (fun _ => 0), aI G q2 201 (fun _ => 0), aI G q3 201 (fun _ => 0), aI G q4 201 (fun _ => 0), aJ G q5 201 (fun _ => 0), aJ G q6 201 (fun _ => 0), aJ G q7 201 (fun _ => 0)] H := hP
  have hD : va_D A [(h, .inr (3, [.int 0, .int 0, .ref q1, .ref q2, .ref q3, .ref q4, .ref q5, .ref q6, .ref q7, .null, .null, .null, .long 0, .null, .int 0, .int 0, .null])), aI G q1 201 (fun _ => 0), aI G q2 201 (fun _ => 0), aI G q3 201 (fun _ => 0), aI G q4 201 (fun _ => 0), aJ G q5 201 (fun _ => 0), aJ G q6 201 (fun _ => 0), aJ G q7 201 (fun _ => 0)] := hD
  refine lv_aload_n hx hb dX2_init_67 rfl (lv_at hl 0 rfl) ?_
  refine lv_sipush (v := 201) hx hb dX2_init_68 (by decide) ?_
  refine va_newa (atype := .boolean) hx hb (hts (.arrayClass .boolean) (by decide +kernel)) rfl hK.1 hP hD hS hA (n := 201) (N' := 201) (a0 := (201, .inl (fun _ => 0))) (fun _ => rfl) (by decide) (by decide) (Nat.le_of_ble_eq_true rfl) (Nat.le_of_ble_eq_true rfl) (Nat.le_of_ble_eq_true rfl) dX2_init_71 (fun q8 cA H hK2 hP hD hS => ?_)
  obtain rfl : cA = gZ G := Option.some.inj ((va_nm_boolean (hK2.2 4 _ rfl).2).symm.trans (va_nm_boolean (hK.1.2 2 _ rfl).2))
  have hP : va_P G.1 vwCl [(h, .inr (3, [.int 0, .int 0, .ref q1, .ref q2, .ref q3, .ref q4, .ref q5, .ref q6, .ref q7, .null, .null, .null, .long 0, .null, .int 0, .int 0, .null])), aI G q1 201 (fun _ => 0), aI G q2 201 (fun _ => 0), aI G q3 201 (fun _ => 0), aI G q4 201 (fun _ => 0), aJ G q5 201 (fun _ => 0), aJ G q6 201 (fun _ => 0), aJ G q7 201 (fun _ => 0), aZ G q8 201 (fun _ => 0)] H := hP
  have hD : va_D A [(h, .inr (3, [.int 0, .int 0, .ref q1, .ref q2, .ref q3, .ref q4, .ref q5, .ref q6, .ref q7, .null, .null, .null, .long 0, .null, .int 0, .int 0, .null])), aI G q1 201 (fun _ => 0), aI G q2 201 (fun _ => 0), aI G q3 201 (fun _ => 0), aI G q4 201 (fun _ => 0), aJ G q5 201 (fun _ => 0), aJ G q6 201 (fun _ => 0), aJ G q7 201 (fun _ => 0), aZ G q8 201 (fun _ => 0)] := hD
  refine va_putF (D := G.1) (ci := 3) (v := .ref q8) (ty := (.array .boolean)) (own := RX2) (C := RX2) (T := TX2) (N := 17) hx hb hts hiX2 tyX2 tyX2_ok nmX2 hown hK.1 hP hD hS 0 rfl rfl 9 (by decide) lf32 (fun _ h9 => h9) rfl hin rfl (by decide +kernel) rfl rfl (Nat.le_of_ble_eq_true rfl) dX2_init_73 (fun H locs hP hD hS => ?_)
  have hP : va_P G.1 vwCl [(h, .inr (3, [.int 0, .int 0, .ref q1, .ref q2, .ref q3, .ref q4, .ref q5, .ref q6, .ref q7, .ref q8, .null, .null, .long 0, .null, .int 0, .int 0, .null])), aI G q1 201 (fun _ => 0), aI G q2 201 (fun _ => 0), aI G q3 201 (fun _ => 0), aI G q4 201 (fun _ => 0), aJ G q5 201 (fun _ => 0), aJ G q6 201 (fun _ => 0), aJ G q7 201 (fun _ => 0), aZ G q8 201 (fun _ => 0)] H := hP
  have hD : va_D A [(h, .inr (3, [.int 0, .int 0, .ref q1, .ref q2, .ref q3, .ref q4, .ref q5, .ref q6, .ref q7, .ref q8, .null, .null, .long 0, .null, .int 0, .int 0, .null])), aI G q1 201 (fun _ => 0), aI G q2 201 (fun _ => 0), aI G q3 201 (fun _ => 0), aI G q4 201 (fun _ => 0), aJ G q5 201 (fun _ => 0), aJ G q6 201 (fun _ => 0), aJ G q7 201 (fun _ => 0), aZ G q8 201 (fun _ => 0)] := hD
  refine lv_aload_n hx hb dX2_init_76 rfl (lv_at hl 0 rfl) ?_
  refine lv_sipush (v := 201) hx hb dX2_init_77 (by decide) ?_
  refine va_newa (atype := .long) hx hb (hts (.arrayClass .long) (by decide +kernel)) rfl hK.1 hP hD hS hA (n := 201) (N' := 201) (a0 := (201, .inr (.inl (fun _ => 0)))) (fun _ => rfl) (by decide) (by decide) (Nat.le_of_ble_eq_true rfl) (Nat.le_of_ble_eq_true rfl) (Nat.le_of_ble_eq_true rfl) dX2_init_80 (fun q9 cA H hK2 hP hD hS => ?_)
  obtain rfl : cA = gJ G := Option.some.inj ((va_nm_long (hK2.2 4 _ rfl).2).symm.trans (va_nm_long (hK.1.2 1 _ rfl).2))
  have hP : va_P G.1 vwCl [(h, .inr (3, [.int 0, .int 0, .ref q1, .ref q2, .ref q3, .ref q4, .ref q5, .ref q6, .ref q7, .ref q8, .null, .null, .long 0, .null, .int 0, .int 0, .null])), aI G q1 201 (fun _ => 0), aI G q2 201 (fun _ => 0), aI G q3 201 (fun _ => 0), aI G q4 201 (fun _ => 0), aJ G q5 201 (fun _ => 0), aJ G q6 201 (fun _ => 0), aJ G q7 201 (fun _ => 0), aZ G q8 201 (fun _ => 0), aJ G q9 201 (fun _ => 0)] H := hP
  have hD : va_D A [(h, .inr (3, [.int 0, .int 0, .ref q1, .ref q2, .ref q3, .ref q4, .ref q5, .ref q6, .ref q7, .ref q8, .null, .null, .long 0, .null, .int 0, .int 0, .null])), aI G q1 201 (fun _ => 0), aI G q2 201 (fun _ => 0), aI G q3 201 (fun _ => 0), aI G q4 201 (fun _ => 0), aJ G q5 201 (fun _ => 0), aJ G q6 201 (fun _ => 0), aJ G q7 201 (fun _ => 0), aZ G q8 201 (fun _ => 0), aJ G q9 201 (fun _ => 0)] := hD
  refine va_putF (D := G.1) (ci := 3) (v := .ref q9) (ty := (.array .long)) (own := RX2) (C := RX2) (T := TX2) (N := 17) hx hb hts hiX2 tyX2 tyX2_ok nmX2 hown hK.1 hP hD hS 0 rfl rfl 10 (by decide) lf36 (fun _ h9 => h9) rfl hin rfl (by decide +kernel) rfl rfl (Nat.le_of_ble_eq_true rfl) dX2_init_82 (fun H locs hP hD hS => ?_)
  have hP : va_P G.1 vwCl [(h, .inr (3, [.int 0, .int 0, .ref q1, .ref q2, .ref q3, .ref q4, .ref q5, .ref q6, .ref q7, .ref q8, .ref q9, .null, .long 0, .null, .int 0, .int 0, .null])), aI G q1 201 (fun _ => 0), aI G q2 201 (fun _ => 0), aI G q3 201 (fun _ => 0), aI G q4 201 (fun _ => 0), aJ G q5 201 (fun _ => 0), aJ G q6 201 (fun _ => 0), aJ G q7 201 (fun _ => 0), aZ G q8 201 (fun _ => 0), aJ G q9 201 (fun _ => 0)] H := hP
  have hD : va_D A [(h, .inr (3, [.int 0, .int 0, .ref q1, .ref q2, .ref q3, .ref q4, .ref q5, .ref q6, .ref q7, .ref q8, .ref q9, .null, .long 0, .null, .int 0, .int 0, .null])), aI G q1 201 (fun _ => 0), aI G q2 201 (fun _ => 0), aI G q3 201 (fun _ => 0), aI G q4 201 (fun _ => 0), aJ G q5 201 (fun _ => 0), aJ G q6 201 (fun _ => 0), aJ G q7 201 (fun _ => 0), aZ G q8 201 (fun _ => 0), aJ G q9 201 (fun _ => 0)] := hD
  refine lv_aload_n hx hb dX2_init_85 rfl (lv_at hl 0 rfl) ?_
  refine lv_bipush (v := 9) hx hb dX2_init_86 (by decide) ?_
  refine va_newa (atype := .int) hx hb (hts (.arrayClass .int) (by decide +kernel)) rfl hK.1 hP hD hS hA (n := 9) (N' := 9) (a0 := (9, .inl (fun _ => 0))) (fun _ => rfl) (by decide) (by decide) (Nat.le_of_ble_eq_true rfl) (Nat.le_of_ble_eq_true rfl) (Nat.le_of_ble_eq_true rfl) dX2_init_88 (fun q10 cA H hK2 hP hD hS => ?_)
  obtain rfl : cA = gI G := Option.some.inj ((va_nm_int (hK2.2 4 _ rfl).2).symm.trans (va_nm_int (hK.1.2 0 _ rfl).2))
  have hP : va_P G.1 vwCl [(h, .inr (3, [.int 0, .int 0, .ref q1, .ref q2, .ref q3, .ref q4, .ref q5, .ref q6, .ref q7, .ref q8, .ref q9, .null, .long 0, .null, .int 0, .int 0, .null])), aI G q1 201 (fun _ => 0), aI G q2 201 (fun _ => 0), aI G q3 201 (fun _ => 0), aI G q4 201 (fun _ => 0), aJ G q5 201 (fun _ => 0), aJ G q6 201 (fun _ => 0), aJ G q7 201 (fun _ => 0), aZ G q8 201 (fun _ => 0), aJ G q9 201 (fun _ => 0), aI G q10 9 (fun _ => 0)] H := hP
  have hD : va_D A [(h, .inr (3, [.int 0, .int 0, .ref q1, .ref q2, .ref q3, .ref q4, .ref q5, .ref q6, .ref q7, .ref q8, .ref q9, .null, .long 0, .null, .int 0, .int 0, .null])), aI G q1 201 (fun _ => 0), aI G q2 201 (fun _ => 0), aI G q3 201 (fun _ => 0), aI G q4 201 (fun _ => 0), aJ G q5 201 (fun _ => 0), aJ G q6 201 (fun _ => 0), aJ G q7 201 (fun _ => 0), aZ G q8 201 (fun _ => 0), aJ G q9 201 (fun _ => 0), aI G q10 9 (fun _ => 0)] := hD
  refine va_putF (D := G.1) (ci := 3) (v := .ref q10) (ty := (.array .int)) (own := RX2) (C := RX2) (T := TX2) (N := 17) hx hb hts hiX2 tyX2 tyX2_ok nmX2 hown hK.1 hP hD hS 0 rfl rfl 11 (by decide) lf39 (fun _ h9 => h9) rfl hin rfl (by decide +kernel) rfl rfl (Nat.le_of_ble_eq_true rfl) dX2_init_90 (fun H locs hP hD hS => ?_)
  have hP : va_P G.1 vwCl [(h, .inr (3, [.int 0, .int 0, .ref q1, .ref q2, .ref q3, .ref q4, .ref q5, .ref q6, .ref q7, .ref q8, .ref q9, .ref q10, .long 0, .null, .int 0, .int 0, .null])), aI G q1 201 (fun _ => 0), aI G q2 201 (fun _ => 0), aI G q3 201 (fun _ => 0), aI G q4 201 (fun _ => 0), aJ G q5 201 (fun _ => 0), aJ G q6 201 (fun _ => 0), aJ G q7 201 (fun _ => 0), aZ G q8 201 (fun _ => 0), aJ G q9 201 (fun _ => 0), aI G q10 9 (fun _ => 0)] H := hP
  have hD : va_D A [(h, .inr (3, [.int 0, .int 0, .ref q1, .ref q2, .ref q3, .ref q4, .ref q5, .ref q6, .ref q7, .ref q8, .ref q9, .ref q10, .long 0, .null, .int 0, .int 0, .null])), aI G q1 201 (fun _ => 0), aI G q2 201 (fun _ => 0), aI G q3 201 (fun _ => 0), aI G q4 201 (fun _ => 0), aJ G q5 201 (fun _ => 0), aJ G q6 201 (fun _ => 0), aJ G q7 201 (fun _ => 0), aZ G q8 201 (fun _ => 0), aJ G q9 201 (fun _ => 0), aI G q10 9 (fun _ => 0)] := hD
  refine lv_aload_n hx hb dX2_init_93 rfl (lv_at hl 0 rfl) ?_
  refine lv_bipush (v := 101) hx hb dX2_init_94 (by decide) ?_
  refine va_newa (atype := .int) hx hb (hts (.arrayClass .int) (by decide +kernel)) rfl hK.1 hP hD hS hA (n := 101) (N' := 101) (a0 := (101, .inl (fun _ => 0))) (fun _ => rfl) (by decide) (by decide) (Nat.le_of_ble_eq_true rfl) (Nat.le_of_ble_eq_true rfl) (Nat.le_of_ble_eq_true rfl) dX2_init_96 (fun q11 cA H hK2 hP hD hS => ?_)
  obtain rfl : cA = gI G := Option.some.inj ((va_nm_int (hK2.2 4 _ rfl).2).symm.trans (va_nm_int (hK.1.2 0 _ rfl).2))
  have hP : va_P G.1 vwCl [(h, .inr (3, [.int 0, .int 0, .ref q1, .ref q2, .ref q3, .ref q4, .ref q5, .ref q6, .ref q7, .ref q8, .ref q9, .ref q10, .long 0, .null, .int 0, .int 0, .null])), aI G q1 201 (fun _ => 0), aI G q2 201 (fun _ => 0), aI G q3 201 (fun _ => 0), aI G q4 201 (fun _ => 0), aJ G q5 201 (fun _ => 0), aJ G q6 201 (fun _ => 0), aJ G q7 201 (fun _ => 0), aZ G q8 201 (fun _ => 0), aJ G q9 201 (fun _ => 0), aI G q10 9 (fun _ => 0), aI G q11 101 (fun _ => 0)] H := hP
  have hD : va_D A [(h, .inr (3, [.int 0, .int 0, .ref q1, .ref q2, .ref q3, .ref q4, .ref q5, .ref q6, .ref q7, .ref q8, .ref q9, .ref q10, .long 0, .null, .int 0, .int 0, .null])), aI G q1 201 (fun _ => 0), aI G q2 201 (fun _ => 0), aI G q3 201 (fun _ => 0), aI G q4 201 (fun _ => 0), aJ G q5 201 (fun _ => 0), aJ G q6 201 (fun _ => 0), aJ G q7 201 (fun _ => 0), aZ G q8 201 (fun _ => 0), aJ G q9 201 (fun _ => 0), aI G q10 9 (fun _ => 0), aI G q11 101 (fun _ => 0)] := hD
  refine va_putF (D := G.1) (ci := 3) (v := .ref q11) (ty := (.array .int)) (own := RX2) (C := RX2) (T := TX2) (N := 17) hx hb hts hiX2 tyX2 tyX2_ok nmX2 hown hK.1 hP hD hS 0 rfl rfl 13 (by decide) lf42 (fun _ h9 => h9) rfl hin rfl (by decide +kernel) rfl rfl (Nat.le_of_ble_eq_true rfl) dX2_init_98 (fun H locs hP hD hS => ?_)
  have hP : va_P G.1 vwCl [(h, .inr (3, [.int 0, .int 0, .ref q1, .ref q2, .ref q3, .ref q4, .ref q5, .ref q6, .ref q7, .ref q8, .ref q9, .ref q10, .long 0, .ref q11, .int 0, .int 0, .null])), aI G q1 201 (fun _ => 0), aI G q2 201 (fun _ => 0), aI G q3 201 (fun _ => 0), aI G q4 201 (fun _ => 0), aJ G q5 201 (fun _ => 0), aJ G q6 201 (fun _ => 0), aJ G q7 201 (fun _ => 0), aZ G q8 201 (fun _ => 0), aJ G q9 201 (fun _ => 0), aI G q10 9 (fun _ => 0), aI G q11 101 (fun _ => 0)] H := hP
  have hD : va_D A [(h, .inr (3, [.int 0, .int 0, .ref q1, .ref q2, .ref q3, .ref q4, .ref q5, .ref q6, .ref q7, .ref q8, .ref q9, .ref q10, .long 0, .ref q11, .int 0, .int 0, .null])), aI G q1 201 (fun _ => 0), aI G q2 201 (fun _ => 0), aI G q3 201 (fun _ => 0), aI G q4 201 (fun _ => 0), aJ G q5 201 (fun _ => 0), aJ G q6 201 (fun _ => 0), aJ G q7 201 (fun _ => 0), aZ G q8 201 (fun _ => 0), aJ G q9 201 (fun _ => 0), aI G q10 9 (fun _ => 0), aI G q11 101 (fun _ => 0)] := hD
  refine lv_aload_n hx hb dX2_init_101 rfl (lv_at hl 0 rfl) ?_
  refine lv_bipush (v := 100) hx hb dX2_init_102 (by decide) ?_
  refine va_newa (atype := .int) hx hb (hts (.arrayClass .int) (by decide +kernel)) rfl hK.1 hP hD hS hA (n := 100) (N' := 100) (a0 := (100, .inl (fun _ => 0))) (fun _ => rfl) (by decide) (by decide) (Nat.le_of_ble_eq_true rfl) (Nat.le_of_ble_eq_true rfl) (Nat.le_of_ble_eq_true rfl) dX2_init_104 (fun q12 cA H hK2 hP hD hS => ?_)
  obtain rfl : cA = gI G := Option.some.inj ((va_nm_int (hK2.2 4 _ rfl).2).symm.trans (va_nm_int (hK.1.2 0 _ rfl).2))
  have hP : va_P G.1 vwCl [(h, .inr (3, [.int 0, .int 0, .ref q1, .ref q2, .ref q3, .ref q4, .ref q5, .ref q6, .ref q7, .ref q8, .ref q9, .ref q10, .long 0, .ref q11, .int 0, .int 0, .null])), aI G q1 201 (fun _ => 0), aI G q2 201 (fun _ => 0), aI G q3 201 (fun _ => 0), aI G q4 201 (fun _ => 0), aJ G q5 201 (fun _ => 0), aJ G q6 201 (fun _ => 0), aJ G q7 201 (fun _ => 0), aZ G q8 201 (fun _ => 0), aJ G q9 201 (fun _ => 0), aI G q10 9 (fun _ => 0), aI G q11 101 (fun _ => 0), aI G q12 100 (fun _ => 0)] H := hP
  have hD : va_D A [(h, .inr (3, [.int 0, .int 0, .ref q1, .ref q2, .ref q3, .ref q4, .ref q5, .ref q6, .ref q7, .ref q8, .ref q9, .ref q10, .long 0, .ref q11, .int 0, .int 0, .null])), aI G q1 201 (fun _ => 0), aI G q2 201 (fun _ => 0), aI G q3 201 (fun _ => 0), aI G q4 201 (fun _ => 0), aJ G q5 201 (fun _ => 0), aJ G q6 201 (fun _ => 0), aJ G q7 201 (fun _ => 0), aZ G q8 201 (fun _ => 0), aJ G q9 201 (fun _ => 0), aI G q10 9 (fun _ => 0), aI G q11 101 (fun _ => 0), aI G q12 100 (fun _ => 0)] := hD
  refine va_putF (D := G.1) (ci := 3) (v := .ref q12) (ty := (.array .int)) (own := RX2) (C := RX2) (T := TX2) (N := 17) hx hb hts hiX2 tyX2 tyX2_ok nmX2 hown hK.1 hP hD hS 0 rfl rfl 16 (by decide) lf45 (fun _ h9 => h9) rfl hin rfl (by decide +kernel) rfl rfl (Nat.le_of_ble_eq_true rfl) dX2_init_106 (fun H locs hP hD hS => ?_)
  have hP : va_P G.1 vwCl [(h, .inr (3, [.int 0, .int 0, .ref q1, .ref q2, .ref q3, .ref q4, .ref q5, .ref q6, .ref q7, .ref q8, .ref q9, .ref q10, .long 0, .ref q11, .int 0, .int 0, .ref q12])), aI G q1 201 (fun _ => 0), aI G q2 201 (fun _ => 0), aI G q3 201 (fun _ => 0), aI G q4 201 (fun _ => 0), aJ G q5 201 (fun _ => 0), aJ G q6 201 (fun _ => 0), aJ G q7 201 (fun _ => 0), aZ G q8 201 (fun _ => 0), aJ G q9 201 (fun _ => 0), aI G q10 9 (fun _ => 0), aI G q11 101 (fun _ => 0), aI G q12 100 (fun _ => 0)] H := hP
  have hD : va_D A [(h, .inr (3, [.int 0, .int 0, .ref q1, .ref q2, .ref q3, .ref q4, .ref q5, .ref q6, .ref q7, .ref q8, .ref q9, .ref q10, .long 0, .ref q11, .int 0, .int 0, .ref q12])), aI G q1 201 (fun _ => 0), aI G q2 201 (fun _ => 0), aI G q3 201 (fun _ => 0), aI G q4 201 (fun _ => 0), aJ G q5 201 (fun _ => 0), aJ G q6 201 (fun _ => 0), aJ G q7 201 (fun _ => 0), aZ G q8 201 (fun _ => 0), aJ G q9 201 (fun _ => 0), aI G q10 9 (fun _ => 0), aI G q11 101 (fun _ => 0), aI G q12 100 (fun _ => 0)] := hD
  refine lv_aload_n hx hb dX2_init_109 rfl (lv_at hl 0 rfl) ?_
  refine lv_iconst (v := 0) hx hb dX2_init_110 (by decide) ?_
  refine va_put (D := G.1) (ci := 3) (v := .int 0) (ty := .int) (own := RX2) (C := RX2) (T := TX2) (N := 17) hx hb hts hiX2 tyX2 tyX2_ok nmX2 hown hK.1 hP hD hS 0 rfl rfl 15 (by decide) lf48 (fun _ h9 => h9) rfl (by decide +kernel) rfl rfl (Nat.le_of_ble_eq_true rfl) dX2_init_111 (fun H locs hP hD hS => ?_)
  have hP : va_P G.1 vwCl [(h, .inr (3, [.int 0, .int 0, .ref q1, .ref q2, .ref q3, .ref q4, .ref q5, .ref q6, .ref q7, .ref q8, .ref q9, .ref q10, .long 0, .ref q11, .int 0, .int 0, .ref q12])), aI G q1 201 (fun _ => 0), aI G q2 201 (fun _ => 0), aI G q3 201 (fun _ => 0), aI G q4 201 (fun _ => 0), aJ G q5 201 (fun _ => 0), aJ G q6 201 (fun _ => 0), aJ G q7 201 (fun _ => 0), aZ G q8 201 (fun _ => 0), aJ G q9 201 (fun _ => 0), aI G q10 9 (fun _ => 0), aI G q11 101 (fun _ => 0), aI G q12 100 (fun _ => 0)] H := hP
  have hD : va_D A [(h, .inr (3, [.int 0, .int 0, .ref q1, .ref q2, .ref q3, .ref q4, .ref q5, .ref q6, .ref q7, .ref q8, .ref q9, .ref q10, .long 0, .ref q11, .int 0, .int 0, .ref q12])), aI G q1 201 (fun _ => 0), aI G q2 201 (fun _ => 0), aI G q3 201 (fun _ => 0), aI G q4 201 (fun _ => 0), aJ G q5 201 (fun _ => 0), aJ G q6 201 (fun _ => 0), aJ G q7 201 (fun _ => 0), aZ G q8 201 (fun _ => 0), aJ G q9 201 (fun _ => 0), aI G q10 9 (fun _ => 0), aI G q11 101 (fun _ => 0), aI G q12 100 (fun _ => 0)] := hD
  exact hret _ _ _ _ _ _ (fun i => List.getD [h, q1, q2, q3, q4, q5, q6, q7, q8, q9, q10, q11, q12] i 0) dX2_init_114 rfl hP hD hS (Nat.le_of_ble_eq_true rfl) (Nat.le_of_ble_eq_true rfl)
