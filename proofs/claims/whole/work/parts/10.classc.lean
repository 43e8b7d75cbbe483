-- ===== laid by wip/whole/gen.py out of the decode rows =====
set_option maxHeartbeats 4000000 in
set_option maxRecDepth 100000 in
/-- Order(..) -/
theorem c_X0_init (l : Launch) (G : GG) (h : Nat) (kd en wh to : Int32) (fr un md : Int64) : WrV l yX0_init wsX0_init (rmX 1 40 0 0) G [.ref h, .int kd, .int en, .int wh, .int to, .long fr, .long un, .long md] [(h, .inr (1, [.int 0, .int 0, .int 0, .int 0, .long 0, .long 0, .long 0, .long 0, .int 0]))] (fun u : Unit => True) (fun u : Unit => [(h, .inr (1, fl (kd, en, wh, to, fr, md, un, 20001, 0)))]) 0 0 := by
  refine wr_of_v (cc := cX0_init) (maxL := 11) (by decide +kernel) rfl (Nat.le_of_ble_eq_true rfl) ?_
  intro p e s m args below meth c Q A hx hb hml hown hts hK hZ hA hin hret ls hl hP hD hS
  have hown : s.vm.findClass RX0 = some m.cls := hown
  have hl : lv_has ls 11 [(0, .ref h), (1, .int kd), (2, .int en), (3, .int wh), (4, .int to), (5, .long fr), (7, .long un), (9, .long md)] := hl
  have hP : va_P G.1 vwCl [(h, .inr (1, [.int 0, .int 0, .int 0, .int 0, .long 0, .long 0, .long 0, .long 0, .int 0]))] s.heap := hP
  have hD : va_D A [(h, .inr (1, [.int 0, .int 0, .int 0, .int 0, .long 0, .long 0, .long 0, .long 0, .int 0]))] := hD
  have hin : meth.name = "<init>" := hin
  have hiX0 := (show ∀ w ∈ u_ws RX0 TX0 9, w ∈ wsX0_init by decide +kernel)
  have lf9 := hts (.fieldLink RX0 9 "OrderRows2$Order" "kind" "I") (by decide +kernel)
  have lf15 := hts (.fieldLink RX0 15 "OrderRows2$Order" "entry" "I") (by decide +kernel)
  have lf18 := hts (.fieldLink RX0 18 "OrderRows2$Order" "who" "I") (by decide +kernel)
  have lf21 := hts (.fieldLink RX0 21 "OrderRows2$Order" "to" "I") (by decide +kernel)
  have lf24 := hts (.fieldLink RX0 24 "OrderRows2$Order" "from" "J") (by decide +kernel)
  have lf28 := hts (.fieldLink RX0 28 "OrderRows2$Order" "until" "J") (by decide +kernel)
  have lf31 := hts (.fieldLink RX0 31 "OrderRows2$Order" "made" "J") (by decide +kernel)
  have kl34 := hts (.constantLong RX0 34 (20001)) (by decide +kernel)
  have lf36 := hts (.fieldLink RX0 36 "OrderRows2$Order" "overFrom" "J") (by decide +kernel)
  have lf39 := hts (.fieldLink RX0 39 "OrderRows2$Order" "isProved" "Z") (by decide +kernel)
  refine lv_aload_n hx hb dX0_init_0 rfl (lv_at hl 0 rfl) ?_
  refine W.objInit hx hb hown (hts (.methodLink RX0 3 objectInit) (by decide +kernel)) (hts (.instanceMethod objectInit) (by decide +kernel)) (hts (.code objectInit ⟨#[0xb1]⟩ 1 none) (by decide +kernel)) rfl (by rw [hml]; exact hl.1) rfl dX0_init_1 (Nat.le_of_ble_eq_true rfl) (Nat.le_of_ble_eq_true rfl) ?_
  refine W.eq (g2 := F0 m 4 ls []) rfl ?_
  refine lv_aload_n hx hb dX0_init_4 rfl (lv_at hl 0 rfl) ?_
  refine lv_iload_n hx hb dX0_init_5 rfl (lv_at hl 1 rfl) ?_
  refine va_putF (D := G.1) (ci := 1) (v := .int kd) (ty := .int) (own := RX0) (C := RX0) (T := TX0) (N := 9) hx hb hts hiX0 tyX0 tyX0_ok nmX0 hown hK.1 hP hD hS 0 rfl rfl 0 (by decide) lf9 (fun _ h9 => h9) rfl hin rfl (by decide +kernel) rfl rfl (Nat.le_of_ble_eq_true rfl) dX0_init_6 (fun H locs hP hD hS => ?_)
  have hP : va_P G.1 vwCl [(h, .inr (1, [.int kd, .int 0, .int 0, .int 0, .long 0, .long 0, .long 0, .long 0, .int 0]))] H := hP
  have hD : va_D A [(h, .inr (1, [.int kd, .int 0, .int 0, .int 0, .long 0, .long 0, .long 0, .long 0, .int 0]))] := hD
  refine lv_aload_n hx hb dX0_init_9 rfl (lv_at hl 0 rfl) ?_
  refine lv_iload_n hx hb dX0_init_10 rfl (lv_at hl 2 rfl) ?_
  refine va_putF (D := G.1) (ci := 1) (v := .int en) (ty := .int) (own := RX0) (C := RX0) (T := TX0) (N := 9) hx hb hts hiX0 tyX0 tyX0_ok nmX0 hown hK.1 hP hD hS 0 rfl rfl 1 (by decide) lf15 (fun _ h9 => h9) rfl hin rfl (by decide +kernel) rfl rfl (Nat.le_of_ble_eq_true rfl) dX0_init_11 (fun H locs hP hD hS => ?_)
  have hP : va_P G.1 vwCl [(h, .inr (1, [.int kd, .int en, .int 0, .int 0, .long 0, .long 0, .long 0, .long 0, .int 0]))] H := hP
  have hD : va_D A [(h, .inr (1, [.int kd, .int en, .int 0, .int 0, .long 0, .long 0, .long 0, .long 0, .int 0]))] := hD
  refine lv_aload_n hx hb dX0_init_14 rfl (lv_at hl 0 rfl) ?_
  refine lv_iload_n hx hb dX0_init_15 rfl (lv_at hl 3 rfl) ?_
  refine va_putF (D := G.1) (ci := 1) (v := .int wh) (ty := .int) (own := RX0) (C := RX0) (T := TX0) (N := 9) hx hb hts hiX0 tyX0 tyX0_ok nmX0 hown hK.1 hP hD hS 0 rfl rfl 2 (by decide) lf18 (fun _ h9 => h9) rfl hin rfl (by decide +kernel) rfl rfl (Nat.le_of_ble_eq_true rfl) dX0_init_16 (fun H locs hP hD hS => ?_)
  have hP : va_P G.1 vwCl [(h, .inr (1, [.int kd, .int en, .int wh, .int 0, .long 0, .long 0, .long 0, .long 0, .int 0]))] H := hP
  have hD : va_D A [(h, .inr (1, [.int kd, .int en, .int wh, .int 0, .long 0, .long 0, .long 0, .long 0, .int 0]))] := hD
  refine lv_aload_n hx hb dX0_init_19 rfl (lv_at hl 0 rfl) ?_
  refine lv_iload hx hb dX0_init_20 (lv_at hl 4 rfl) ?_
  refine va_putF (D := G.1) (ci := 1) (v := .int to) (ty := .int) (own := RX0) (C := RX0) (T := TX0) (N := 9) hx hb hts hiX0 tyX0 tyX0_ok nmX0 hown hK.1 hP hD hS 0 rfl rfl 3 (by decide) lf21 (fun _ h9 => h9) rfl hin rfl (by decide +kernel) rfl rfl (Nat.le_of_ble_eq_true rfl) dX0_init_22 (fun H locs hP hD hS => ?_)
  have hP : va_P G.1 vwCl [(h, .inr (1, [.int kd, .int en, .int wh, .int to, .long 0, .long 0, .long 0, .long 0, .int 0]))] H := hP
  have hD : va_D A [(h, .inr (1, [.int kd, .int en, .int wh, .int to, .long 0, .long 0, .long 0, .long 0, .int 0]))] := hD
  refine lv_aload_n hx hb dX0_init_25 rfl (lv_at hl 0 rfl) ?_
  refine lv_lload hx hb dX0_init_26 (lv_at hl 5 rfl) ?_
  refine va_putF (D := G.1) (ci := 1) (v := .long fr) (ty := .long) (own := RX0) (C := RX0) (T := TX0) (N := 9) hx hb hts hiX0 tyX0 tyX0_ok nmX0 hown hK.1 hP hD hS 0 rfl rfl 4 (by decide) lf24 (fun _ h9 => h9) rfl hin rfl (by decide +kernel) rfl rfl (Nat.le_of_ble_eq_true rfl) dX0_init_28 (fun H locs hP hD hS => ?_)
  have hP : va_P G.1 vwCl [(h, .inr (1, [.int kd, .int en, .int wh, .int to, .long fr, .long 0, .long 0, .long 0, .int 0]))] H := hP
  have hD : va_D A [(h, .inr (1, [.int kd, .int en, .int wh, .int to, .long fr, .long 0, .long 0, .long 0, .int 0]))] := hD
  refine lv_aload_n hx hb dX0_init_31 rfl (lv_at hl 0 rfl) ?_
  refine lv_lload hx hb dX0_init_32 (lv_at hl 6 rfl) ?_
  refine va_put (D := G.1) (ci := 1) (v := .long un) (ty := .long) (own := RX0) (C := RX0) (T := TX0) (N := 9) hx hb hts hiX0 tyX0 tyX0_ok nmX0 hown hK.1 hP hD hS 0 rfl rfl 6 (by decide) lf28 (fun _ h9 => h9) rfl (by decide +kernel) rfl rfl (Nat.le_of_ble_eq_true rfl) dX0_init_34 (fun H locs hP hD hS => ?_)
  have hP : va_P G.1 vwCl [(h, .inr (1, [.int kd, .int en, .int wh, .int to, .long fr, .long 0, .long un, .long 0, .int 0]))] H := hP
  have hD : va_D A [(h, .inr (1, [.int kd, .int en, .int wh, .int to, .long fr, .long 0, .long un, .long 0, .int 0]))] := hD
  refine lv_aload_n hx hb dX0_init_37 rfl (lv_at hl 0 rfl) ?_
  refine lv_lload hx hb dX0_init_38 (lv_at hl 7 rfl) ?_
  refine va_putF (D := G.1) (ci := 1) (v := .long md) (ty := .long) (own := RX0) (C := RX0) (T := TX0) (N := 9) hx hb hts hiX0 tyX0 tyX0_ok nmX0 hown hK.1 hP hD hS 0 rfl rfl 5 (by decide) lf31 (fun _ h9 => h9) rfl hin rfl (by decide +kernel) rfl rfl (Nat.le_of_ble_eq_true rfl) dX0_init_40 (fun H locs hP hD hS => ?_)
  have hP : va_P G.1 vwCl [(h, .inr (1, [.int kd, .int en, .int wh, .int to, .long fr, .long md, .long un, .long 0, .int 0]))] H := hP
  have hD : va_D A [(h, .inr (1, [.int kd, .int en, .int wh, .int to, .long fr, .long md, .long un, .long 0, .int 0]))] := hD
  refine lv_aload_n hx hb dX0_init_43 rfl (lv_at hl 0 rfl) ?_
  refine lv_ldc2 (v := 20001) hx hb hown kl34 dX0_init_44 ?_
  refine va_put (D := G.1) (ci := 1) (v := .long 20001) (ty := .long) (own := RX0) (C := RX0) (T := TX0) (N := 9) hx hb hts hiX0 tyX0 tyX0_ok nmX0 hown hK.1 hP hD hS 0 rfl rfl 7 (by decide) lf36 (fun _ h9 => h9) rfl (by decide +kernel) rfl rfl (Nat.le_of_ble_eq_true rfl) dX0_init_47 (fun H locs hP hD hS => ?_)
  have hP : va_P G.1 vwCl [(h, .inr (1, [.int kd, .int en, .int wh, .int to, .long fr, .long md, .long un, .long 20001, .int 0]))] H := hP
  have hD : va_D A [(h, .inr (1, [.int kd, .int en, .int wh, .int to, .long fr, .long md, .long un, .long 20001, .int 0]))] := hD
  refine lv_aload_n hx hb dX0_init_50 rfl (lv_at hl 0 rfl) ?_
  refine lv_iconst (v := 0) hx hb dX0_init_51 (by decide) ?_
  refine va_put (D := G.1) (ci := 1) (v := .int 0) (ty := .boolean) (own := RX0) (C := RX0) (T := TX0) (N := 9) hx hb hts hiX0 tyX0 tyX0_ok nmX0 hown hK.1 hP hD hS 0 rfl rfl 8 (by decide) lf39 (fun _ h9 => h9) rfl (by decide +kernel) rfl rfl (Nat.le_of_ble_eq_true rfl) dX0_init_52 (fun H locs hP hD hS => ?_)
  have hP : va_P G.1 vwCl [(h, .inr (1, [.int kd, .int en, .int wh, .int to, .long fr, .long md, .long un, .long 20001, .int 0]))] H := hP
  have hD : va_D A [(h, .inr (1, [.int kd, .int en, .int wh, .int to, .long fr, .long md, .long un, .long 20001, .int 0]))] := hD
  exact hret _ _ _ _ _ _ () dX0_init_55 trivial hP hD hS (Nat.le_refl _) (Nat.le_refl _)

set_option maxHeartbeats 4000000 in
set_option maxRecDepth 100000 in
/-- order -/
theorem c_X1_order (l : Launch) (G : GG) (a : AD) (κ : KP) (σ : St) (hI : SI σ) (hC : CI κ σ) (kd en wh to : Int32) (fr un : Int64) : WrI l yX1_order wsX1_order (rmX 7 280 2 409) G [.ref a.1, .int kd, .int en, .int wh, .int to, .long fr, .long un] (WC G a κ σ) (fun (r : Int32) (u : KP) => r = (fOrder σ kd en wh to fr un).1 ∧ CI u (fOrder σ kd en wh to fr un).2) (fun u : KP => WC G a u (fOrder σ kd en wh to fr un).2) 2 409 := by
  refine wr_of_i (cc := cX1_order) (maxL := 10) (t := .int) (by decide +kernel) rfl (Nat.le_of_ble_eq_true rfl) nar_int ?_
  intro p e s m args below meth c Q A hx hb hml hown hts hK hZ hA hret ls hl hP hD hS
  have hown : s.vm.findClass RX1 = some m.cls := hown
  have hl : lv_has ls 10 [(0, .ref a.1), (1, .int kd), (2, .int en), (3, .int wh), (4, .int to), (5, .long fr), (7, .long un)] := hl
  have hP : va_P G.1 vwCl (CW G a (nI (sG σ).length) (sT σ) (sR σ) κ.2.2.2.2.2.1 κ.2.2.2.2.2.2 (pO κ.2.2.2.2.1 (sO σ) (sN σ)) (LW G a.2.1 κ.1 κ.2.1 κ.2.2.1 κ.2.2.2.1 (sN σ))) s.heap := hP
  have hD : va_D A (CW G a (nI (sG σ).length) (sT σ) (sR σ) κ.2.2.2.2.2.1 κ.2.2.2.2.2.2 (pO κ.2.2.2.2.1 (sO σ) (sN σ)) (LW G a.2.1 κ.1 κ.2.1 κ.2.2.1 κ.2.2.2.1 (sN σ))) := hD
  obtain ⟨hI1, hI2, hI3, hI4, hI5⟩ := id hI
  have cw34 := va_cwS (R := (rmX 7 280 2 409)) (s := s) (args := args) (rm := (rmX 0 0 0 0)) (mc := 0) (ms := 0) 1 hts gX1_order_X1_isKind rfl rfl rfl (by decide +kernel) ⟨Nat.le_of_ble_eq_true rfl, Nat.le_of_ble_eq_true rfl⟩
  have cw42 := va_cwS (R := (rmX 7 280 2 409)) (s := s) (args := args) (rm := (rmX 0 0 0 0)) (mc := 0) (ms := 0) 1 hts gX1_order_X1_isAddress rfl rfl rfl (by decide +kernel) ⟨Nat.le_of_ble_eq_true rfl, Nat.le_of_ble_eq_true rfl⟩
  have cw48 := va_cwS (R := (rmX 7 280 2 409)) (s := s) (args := args) (rm := (rmX 0 0 0 0)) (mc := 0) (ms := 0) 1 hts gX1_order_X1_isDay rfl rfl rfl (by decide +kernel) ⟨Nat.le_of_ble_eq_true rfl, Nat.le_of_ble_eq_true rfl⟩
  have hiX1 := (show ∀ w ∈ u_ws RX1 TX1 6, w ∈ wsX1_order by decide +kernel)
  have lf10 := hts (.fieldLink RX1 10 "OrderRows2" "orders" "Ljava/util/ArrayList;") (by decide +kernel)
  have cw52 := cwV (R := (rmX 7 280 2 409)) (s := s) (args := args) (rm := (rmX 0 0 0 0)) (mc := 0) (ms := 0) 0 hts gX1_order_Jx4a65c_size_8abf5 rfl rfl rfl (by decide +kernel) ⟨Nat.le_of_ble_eq_true rfl, Nat.le_of_ble_eq_true rfl⟩
  have hiX0 := (show ∀ w ∈ u_ws RX0 TX0 9, w ∈ wsX1_order by decide +kernel)
  have lf30 := hts (.fieldLink RX1 30 "OrderRows2" "clock" "J") (by decide +kernel)
  have cw58 := cwI (R := (rmX 7 280 2 409)) (s := s) (args := args) (rm := (rmX 1 40 0 0)) (mc := 0) (ms := 0) (own := RX1) (index := 58) 7 hts gX1_order_X0_init rfl rfl rfl (hts (.initialized RX0) (by decide +kernel)) (hts (.methodLink RX1 58 yX0_init) (by decide +kernel)) (hts (.instanceMethod yX0_init) (by decide +kernel)) rfl (by decide +kernel) ⟨Nat.le_of_ble_eq_true rfl, Nat.le_of_ble_eq_true rfl⟩
  have cw61 := cwV (R := (rmX 7 280 2 409)) (s := s) (args := args) (rm := (rmX 6 240 1 400)) (mc := 1) (ms := 400) 1 hts gX1_order_Jx4a65c_add_9ea2d rfl rfl rfl (by decide +kernel) ⟨Nat.le_of_ble_eq_true rfl, Nat.le_of_ble_eq_true rfl⟩
  have cw45 := va_cwS (R := (rmX 7 280 2 409)) (s := s) (args := args) (rm := (rmX 0 0 0 0)) (mc := 0) (ms := 0) 1 hts gX1_order_X1_isPerson rfl rfl rfl (by decide +kernel) ⟨Nat.le_of_ble_eq_true rfl, Nat.le_of_ble_eq_true rfl⟩
  have cw38 := va_cwS (R := (rmX 7 280 2 409)) (s := s) (args := args) (rm := (rmX 0 0 0 0)) (mc := 0) (ms := 0) 1 hts gX1_order_X1_doneBy rfl rfl rfl (by decide +kernel) ⟨Nat.le_of_ble_eq_true rfl, Nat.le_of_ble_eq_true rfl⟩
  refine lv_iload_n hx hb dX1_order_0 rfl (lv_at hl 1 rfl) ?_
  refine rdS_i (As := [.int kd]) (rest := []) ⟨hx, hb, hml, hown, hts⟩ (c_X1_isKind l G kd) cw34 hK va_P.nil rfl hl.1 rfl (Nat.le_of_ble_eq_true rfl) dX1_order_1 ⟨Nat.zero_le _, Nat.zero_le _⟩ (fun r1_1 w1_1 => ?_)
  have w1_1 : ((r1_1.toInt = 1 ∧ (0 ≤ (kd).toInt ∧ (kd).toInt < 9)) ∨ (r1_1.toInt = 0 ∧ ¬ (0 ≤ (kd).toInt ∧ (kd).toInt < 9))) := w1_1
  refine lv_if_eq (tgt := 18) hx hb dX1_order_4 (by decide) (fun c4_2 => ?_) (fun c4_2 => ?_)
  · have c4_2 : (r1_1).toInt = 0 := (ti_eq (x := r1_1) (y := 0) (a := (r1_1).toInt) (b := 0) rfl rfl).mp c4_2
    refine lv_iconst (v := 0) hx hb dX1_order_18 (by decide) ?_
    refine lv_istore (lv' := [(9, .int 0), (0, .ref a.1), (1, .int kd), (2, .int en), (3, .int wh), (4, .int to), (5, .long fr), (7, .long un)]) hx hb dX1_order_19 hl (by decide) rfl (fun ls hl => ?_)
    refine lv_iload_n hx hb dX1_order_21 rfl (lv_at hl 3 rfl) ?_
    refine rdS_i (As := [.int en]) (rest := []) ⟨hx, hb, hml, hown, hts⟩ (c_X1_isAddress l G en) cw42 hK va_P.nil rfl hl.1 rfl (Nat.le_of_ble_eq_true rfl) dX1_order_22 ⟨Nat.zero_le _, Nat.zero_le _⟩ (fun r22_3 w22_3 => ?_)
    have w22_3 : ((r22_3.toInt = 1 ∧ (1 ≤ (en).toInt ∧ (en).toInt ≤ 99)) ∨ (r22_3.toInt = 0 ∧ ¬ (1 ≤ (en).toInt ∧ (en).toInt ≤ 99))) := w22_3
    refine lv_if_eq (tgt := 53) hx hb dX1_order_25 (by decide) (fun c25_4 => ?_) (fun c25_4 => ?_)
    · have c25_4 : (r22_3).toInt = 0 := (ti_eq (x := r22_3) (y := 0) (a := (r22_3).toInt) (b := 0) rfl rfl).mp c25_4
      refine lv_bipush (v := (-101)) hx hb dX1_order_53 (by decide) ?_
      have hF : fOrder σ kd en wh to fr un = ((-101), σ) := if_pos (by omega)
      exact hret _ _ _ _ _ _ _ κ dX1_order_55 (Or.inr (Or.inr rfl)) (by rw [hF]; exact ⟨rfl, hC⟩) (by rw [hF]; exact hP) (by rw [hF]; exact hD) hS (Nat.zero_le _) (Nat.zero_le _)
    · have c25_4 : ¬ ((r22_3).toInt = 0) := mt (ti_eq (x := r22_3) (y := 0) (a := (r22_3).toInt) (b := 0) rfl rfl).mpr c25_4
      refine lv_iload_n hx hb dX1_order_28 rfl (lv_at hl 4 rfl) ?_
      refine lv_iconst (v := (-1)) hx hb dX1_order_29 (by decide) ?_
      refine lv_icmp_eq (tgt := 40) hx hb dX1_order_30 (by decide) (fun c30_5 => ?_) (fun c30_5 => ?_)
      · have c30_5 : (wh).toInt = (-1) := (ti_eq (x := wh) (y := (-1)) (a := (wh).toInt) (b := (-1)) rfl rfl).mp c30_5
        refine lv_iload hx hb dX1_order_40 (lv_at hl 0 rfl) ?_
        refine lv_if_eq (tgt := 56) hx hb dX1_order_42 (by decide) (fun _ => ?_) (fun c42_6 => absurd (by decide) c42_6)
        refine lv_iload_n hx hb dX1_order_56 rfl (lv_at hl 2 rfl) ?_
        refine rdS_i (As := [.int kd]) (rest := []) ⟨hx, hb, hml, hown, hts⟩ (c_X1_isKind l G kd) cw34 hK va_P.nil rfl hl.1 rfl (Nat.le_of_ble_eq_true rfl) dX1_order_57 ⟨Nat.zero_le _, Nat.zero_le _⟩ (fun r57_7 w57_7 => ?_)
        have w57_7 : ((r57_7.toInt = 1 ∧ (0 ≤ (kd).toInt ∧ (kd).toInt < 9)) ∨ (r57_7.toInt = 0 ∧ ¬ (0 ≤ (kd).toInt ∧ (kd).toInt < 9))) := w57_7
        refine lv_if_eq (tgt := 98) hx hb dX1_order_60 (by decide) (fun c60_8 => ?_) (fun c60_8 => ?_)
        · have c60_8 : (r57_7).toInt = 0 := (ti_eq (x := r57_7) (y := 0) (a := (r57_7).toInt) (b := 0) rfl rfl).mp c60_8
          refine lv_bipush (v := (-102)) hx hb dX1_order_98 (by decide) ?_
          have hF : fOrder σ kd en wh to fr un = ((-102), σ) := (if_neg (by omega)).trans (if_pos (by omega))
          exact hret _ _ _ _ _ _ _ κ dX1_order_100 (Or.inr (Or.inr rfl)) (by rw [hF]; exact ⟨rfl, hC⟩) (by rw [hF]; exact hP) (by rw [hF]; exact hD) hS (Nat.zero_le _) (Nat.zero_le _)
        · have c60_8 : ¬ ((r57_7).toInt = 0) := mt (ti_eq (x := r57_7) (y := 0) (a := (r57_7).toInt) (b := 0) rfl rfl).mpr c60_8
          refine lv_lload hx hb dX1_order_63 (lv_at hl 6 rfl) ?_
          refine rdS_i (As := [.long fr]) (rest := []) ⟨hx, hb, hml, hown, hts⟩ (c_X1_isDay l G fr) cw48 hK va_P.nil rfl hl.1 rfl (Nat.le_of_ble_eq_true rfl) dX1_order_65 ⟨Nat.zero_le _, Nat.zero_le _⟩ (fun r65_9 w65_9 => ?_)
          have w65_9 : ((r65_9.toInt = 1 ∧ (0 ≤ (fr).toInt ∧ (fr).toInt ≤ 20000)) ∨ (r65_9.toInt = 0 ∧ ¬ (0 ≤ (fr).toInt ∧ (fr).toInt ≤ 20000))) := w65_9
          refine lv_if_eq (tgt := 98) hx hb dX1_order_68 (by decide) (fun c68_10 => ?_) (fun c68_10 => ?_)
          · have c68_10 : (r65_9).toInt = 0 := (ti_eq (x := r65_9) (y := 0) (a := (r65_9).toInt) (b := 0) rfl rfl).mp c68_10
            refine lv_bipush (v := (-102)) hx hb dX1_order_98 (by decide) ?_
            have hF : fOrder σ kd en wh to fr un = ((-102), σ) := (if_neg (by omega)).trans (if_pos (by omega))
            exact hret _ _ _ _ _ _ _ κ dX1_order_100 (Or.inr (Or.inr rfl)) (by rw [hF]; exact ⟨rfl, hC⟩) (by rw [hF]; exact hP) (by rw [hF]; exact hD) hS (Nat.zero_le _) (Nat.zero_le _)
          · have c68_10 : ¬ ((r65_9).toInt = 0) := mt (ti_eq (x := r65_9) (y := 0) (a := (r65_9).toInt) (b := 0) rfl rfl).mpr c68_10
            refine lv_lload hx hb dX1_order_71 (lv_at hl 7 rfl) ?_
            refine rdS_i (As := [.long un]) (rest := []) ⟨hx, hb, hml, hown, hts⟩ (c_X1_isDay l G un) cw48 hK va_P.nil rfl hl.1 rfl (Nat.le_of_ble_eq_true rfl) dX1_order_73 ⟨Nat.zero_le _, Nat.zero_le _⟩ (fun r73_11 w73_11 => ?_)
            have w73_11 : ((r73_11.toInt = 1 ∧ (0 ≤ (un).toInt ∧ (un).toInt ≤ 20000)) ∨ (r73_11.toInt = 0 ∧ ¬ (0 ≤ (un).toInt ∧ (un).toInt ≤ 20000))) := w73_11
            refine lv_if_eq (tgt := 98) hx hb dX1_order_76 (by decide) (fun c76_12 => ?_) (fun c76_12 => ?_)
            · have c76_12 : (r73_11).toInt = 0 := (ti_eq (x := r73_11) (y := 0) (a := (r73_11).toInt) (b := 0) rfl rfl).mp c76_12
              refine lv_bipush (v := (-102)) hx hb dX1_order_98 (by decide) ?_
              have hF : fOrder σ kd en wh to fr un = ((-102), σ) := (if_neg (by omega)).trans (if_pos (by omega))
              exact hret _ _ _ _ _ _ _ κ dX1_order_100 (Or.inr (Or.inr rfl)) (by rw [hF]; exact ⟨rfl, hC⟩) (by rw [hF]; exact hP) (by rw [hF]; exact hD) hS (Nat.zero_le _) (Nat.zero_le _)
            · have c76_12 : ¬ ((r73_11).toInt = 0) := mt (ti_eq (x := r73_11) (y := 0) (a := (r73_11).toInt) (b := 0) rfl rfl).mpr c76_12
              refine lv_lload hx hb dX1_order_79 (lv_at hl 7 rfl) ?_
              refine lv_lload hx hb dX1_order_81 (lv_at hl 6 rfl) ?_
              refine lc_lt (tgt := 98) hx hb dX1_order_83 dX1_order_84 (by decide) (fun c83_13 => ?_) (fun c83_13 => ?_)
              · have c83_13 : (un).toInt < (fr).toInt := (tl_lt (x := un) (y := fr) (a := (un).toInt) (b := (fr).toInt) rfl rfl).mp c83_13
                refine lv_bipush (v := (-102)) hx hb dX1_order_98 (by decide) ?_
                have hF : fOrder σ kd en wh to fr un = ((-102), σ) := (if_neg (by omega)).trans (if_pos (by omega))
                exact hret _ _ _ _ _ _ _ κ dX1_order_100 (Or.inr (Or.inr rfl)) (by rw [hF]; exact ⟨rfl, hC⟩) (by rw [hF]; exact hP) (by rw [hF]; exact hD) hS (Nat.zero_le _) (Nat.zero_le _)
              · have c83_13 : ¬ ((un).toInt < (fr).toInt) := mt (tl_lt (x := un) (y := fr) (a := (un).toInt) (b := (fr).toInt) rfl rfl).mpr c83_13
                refine lv_iload hx hb dX1_order_87 (lv_at hl 0 rfl) ?_
                refine lv_if_eq (tgt := 101) hx hb dX1_order_89 (by decide) (fun _ => ?_) (fun c89_14 => absurd (by decide) c89_14)
                refine lv_aload_n hx hb dX1_order_101 rfl (lv_at hl 1 rfl) ?_
                refine va_get (D := G.1) (ci := 2) (v := .ref a.2.1) (own := RX1) (C := RX1) (T := TX1) (N := 6) hx hb hts hiX1 hown hK.1 hP 0 rfl rfl 0 (by decide) lf10 (fun _ h9 => h9) rfl dX1_order_102 ?_
                refine rdV_i (b := a.2.1) (As := []) (rest := []) ⟨hx, hb, hml, hown, hts⟩ (c_Jx4a65c_size_8abf5 l G a.2.1 κ.1 (nI (sN σ)) _) cw52 hK (LW_one (CW_list hP)) 0 rfl rfl rfl rfl hl.1 rfl (Nat.le_of_ble_eq_true rfl) dX1_order_105 ⟨Nat.zero_le _, Nat.zero_le _⟩ (fun r15 w15 => ?_)
                have w15 : r15.toInt = (((sN σ) : Nat) : Int) := by rw [w15]; exact ti_nI (by omega)
                refine lv_sipush (v := 200) hx hb dX1_order_108 (by decide) ?_
                refine lv_icmp_lt (tgt := 117) hx hb dX1_order_111 (by decide) (fun c111_16 => ?_) (fun c111_16 => ?_)
                · have c111_16 : (((sN σ) : Nat) : Int) < 200 := (ti_lt (x := r15) (y := 200) (a := (((sN σ) : Nat) : Int)) (b := 200) w15 rfl).mp c111_16
                  refine lv_aload_n hx hb dX1_order_117 rfl (lv_at hl 1 rfl) ?_
                  refine va_get (D := G.1) (ci := 2) (v := .ref a.2.1) (own := RX1) (C := RX1) (T := TX1) (N := 6) hx hb hts hiX1 hown hK.1 hP 0 rfl rfl 0 (by decide) lf10 (fun _ h9 => h9) rfl dX1_order_118 ?_
                  refine va_new (ci := 1) (fs := [.int 0, .int 0, .int 0, .int 0, .long 0, .long 0, .long 0, .long 0, .int 0]) (own := RX1) (C := RX0) (T := TX0) (N := 9) hx hb hts hiX0 tyX0 tyX0_ok hown (hts (.classLink RX1 56 RX0) (by decide +kernel)) (hts (.instantiable RX0 9) (by decide +kernel)) (hts (.initialized RX0) (by decide +kernel)) hK.1 hP hD hS hA rfl (fun j hj => by rcases (show j = 0 ∨ j = 1 ∨ j = 2 ∨ j = 3 ∨ j = 4 ∨ j = 5 ∨ j = 6 ∨ j = 7 ∨ j = 8 by omega) with rfl | rfl | rfl | rfl | rfl | rfl | rfl | rfl | rfl <;> rfl) (Nat.le_of_ble_eq_true rfl) (Nat.le_of_ble_eq_true rfl) dX1_order_121 (fun qn H hP hD hS => ?_)
                  have hP : va_P G.1 vwCl ((CW G a (nI (sG σ).length) (sT σ) (sR σ) κ.2.2.2.2.2.1 κ.2.2.2.2.2.2 (pO κ.2.2.2.2.1 (sO σ) (sN σ)) (LW G a.2.1 κ.1 κ.2.1 κ.2.2.1 κ.2.2.2.1 (sN σ))) ++ [(qn, .inr (1, [.int 0, .int 0, .int 0, .int 0, .long 0, .long 0, .long 0, .long 0, .int 0]))]) H := hP
                  have hD : va_D A ((CW G a (nI (sG σ).length) (sT σ) (sR σ) κ.2.2.2.2.2.1 κ.2.2.2.2.2.2 (pO κ.2.2.2.2.1 (sO σ) (sN σ)) (LW G a.2.1 κ.1 κ.2.1 κ.2.2.1 κ.2.2.2.1 (sN σ))) ++ [(qn, .inr (1, [.int 0, .int 0, .int 0, .int 0, .long 0, .long 0, .long 0, .long 0, .int 0]))]) := hD
                  refine lv_dup hx hb dX1_order_124 rfl ?_
                  refine lv_iload_n hx hb dX1_order_125 rfl (lv_at hl 2 rfl) ?_
                  refine lv_iload_n hx hb dX1_order_126 rfl (lv_at hl 3 rfl) ?_
                  refine lv_iload_n hx hb dX1_order_127 rfl (lv_at hl 4 rfl) ?_
                  refine lv_iload hx hb dX1_order_128 (lv_at hl 5 rfl) ?_
                  refine lv_lload hx hb dX1_order_130 (lv_at hl 6 rfl) ?_
                  refine lv_lload hx hb dX1_order_132 (lv_at hl 7 rfl) ?_
                  refine lv_aload_n hx hb dX1_order_134 rfl (lv_at hl 1 rfl) ?_
                  refine va_get (D := G.1) (ci := 2) (v := .long (sT σ)) (own := RX1) (C := RX1) (T := TX1) (N := 6) hx hb hts hiX1 hown hK.1 hP 0 rfl rfl 5 (by decide) lf30 (fun _ h9 => h9) rfl dX1_order_135 ?_
                  refine wrI_v (wr := (CW G a (nI (sG σ).length) (sT σ) (sR σ) κ.2.2.2.2.2.1 κ.2.2.2.2.2.2 (pO κ.2.2.2.2.1 (sO σ) (sN σ)) (LW G a.2.1 κ.1 κ.2.1 κ.2.2.1 κ.2.2.2.1 (sN σ)))) (b := qn) (As := [.int kd, .int en, .int wh, .int to, .long fr, .long un, .long (sT σ)]) (rest := [.ref qn, .ref a.2.1]) ⟨hx, hb, hml, hown, hts⟩ (c_X0_init l G qn kd en wh to fr un (sT σ)) cw58 hK hZ hP hD hS hA rfl hl.1 rfl (Nat.le_of_ble_eq_true rfl) dX1_order_138 ⟨(Nat.le_of_ble_eq_true rfl), (Nat.le_of_ble_eq_true rfl)⟩ (fun _ H locs _ hP hD hS => ?_)
                  have hP : va_P G.1 vwCl ((CW G a (nI (sG σ).length) (sT σ) (sR σ) κ.2.2.2.2.2.1 κ.2.2.2.2.2.2 (pO κ.2.2.2.2.1 (sO σ) (sN σ)) (LW G a.2.1 κ.1 κ.2.1 κ.2.2.1 κ.2.2.2.1 (sN σ))) ++ [(qn, .inr (1, fl (kd, en, wh, to, fr, sT σ, un, 20001, 0)))]) H := hP
                  have hD : va_D A ((CW G a (nI (sG σ).length) (sT σ) (sR σ) κ.2.2.2.2.2.1 κ.2.2.2.2.2.2 (pO κ.2.2.2.2.1 (sO σ) (sN σ)) (LW G a.2.1 κ.1 κ.2.1 κ.2.2.1 κ.2.2.2.1 (sN σ))) ++ [(qn, .inr (1, fl (kd, en, wh, to, fr, sT σ, un, 20001, 0)))]) := hD
                  have tail : ∀ (ux : Int32 × Nat × Nat × (Nat → Option Nat)) (r : Int32) (H : Heap) (locs : List Loc), sN σ + 1 ≤ ux.2.2.1 → ux.2.2.1 ≤ 400 → ux.2.2.2 (sN σ) = some qn → (∀ i, i < sN σ → ux.2.2.2 i = some (κ.2.2.2.2.1 i)) → va_P G.1 vwCl ((CX G a (nI (sG σ).length) (sT σ) (sR σ) κ.2.2.2.2.2.1 κ.2.2.2.2.2.2) ++ ([(a.2.1, .inr (0, [.int ux.1, .ref ux.2.1, .int (nI (sN σ + 1))])), aO G ux.2.1 ux.2.2.1 ux.2.2.2] ++ ((pO κ.2.2.2.2.1 (sO σ) (sN σ)) ++ [(qn, Sum.inr (1, fl (kd, en, wh, to, fr, sT σ, un, 20001, 0)))] : va_W))) H → va_D A ((CX G a (nI (sG σ).length) (sT σ) (sR σ) κ.2.2.2.2.2.1 κ.2.2.2.2.2.2) ++ ([(a.2.1, .inr (0, [.int ux.1, .ref ux.2.1, .int (nI (sN σ + 1))])), aO G ux.2.1 ux.2.2.1 ux.2.2.2] ++ ((pO κ.2.2.2.2.1 (sO σ) (sN σ)) ++ [(qn, Sum.inr (1, fl (kd, en, wh, to, fr, sT σ, un, 20001, 0)))] : va_W))) → va_S A s.heap H locs → W p l e (rmX 7 280 2 409) s m args below meth c H locs (0 + 1 + 0 + 1) (0 + 9 + 0 + 400) Q (F0 m 144 ls [.int r]) := by
                    intro ux r H locs g1 g2 g3 g4 hP hD hS
                    have hP := back_P hP
                    have hD := back_D hD
                    rw [pO_push, ← LW_pos (G := G) (h := a.2.1) (md := ux.1) (a2 := ux.2.1) (N := ux.2.2.1) (f := ux.2.2.2) (n := sN σ + 1) (by omega)] at hP hD
                    have hP : va_P G.1 vwCl (CW G a (nI (sG σ).length) (sT σ) (sR σ) κ.2.2.2.2.2.1 κ.2.2.2.2.2.2 (pO (kNew κ ux (sN σ) qn).2.2.2.2.1 (va_up (sO σ) (sN σ) (kd, en, wh, to, fr, sT σ, un, 20001, 0)) (sN σ + 1)) (LW G a.2.1 (kNew κ ux (sN σ) qn).1 (kNew κ ux (sN σ) qn).2.1 (kNew κ ux (sN σ) qn).2.2.1 (kNew κ ux (sN σ) qn).2.2.2.1 (sN σ + 1))) H := hP
                    have hD : va_D A (CW G a (nI (sG σ).length) (sT σ) (sR σ) κ.2.2.2.2.2.1 κ.2.2.2.2.2.2 (pO (kNew κ ux (sN σ) qn).2.2.2.2.1 (va_up (sO σ) (sN σ) (kd, en, wh, to, fr, sT σ, un, 20001, 0)) (sN σ + 1)) (LW G a.2.1 (kNew κ ux (sN σ) qn).1 (kNew κ ux (sN σ) qn).2.1 (kNew κ ux (sN σ) qn).2.2.1 (kNew κ ux (sN σ) qn).2.2.2.1 (sN σ + 1))) := hD
                    refine lv_pop hx hb dX1_order_144 rfl ?_
                    refine lv_aload_n hx hb dX1_order_145 rfl (lv_at hl 1 rfl) ?_
                    refine va_get (D := G.1) (ci := 2) (v := .ref a.2.1) (own := RX1) (C := RX1) (T := TX1) (N := 6) hx hb hts hiX1 hown hK.1 hP 0 rfl rfl 0 (by decide) lf10 (fun _ h9 => h9) rfl dX1_order_146 ?_
                    refine rdV_i (b := a.2.1) (As := []) (rest := []) ⟨hx, hb, hml, hown, hts⟩ (c_Jx4a65c_size_8abf5 l G a.2.1 (kNew κ ux (sN σ) qn).1 (nI (sN σ + 1)) _) cw52 hK (LW_one (CW_list hP)) 0 rfl rfl rfl rfl hl.1 rfl (Nat.le_of_ble_eq_true rfl) dX1_order_149 ⟨Nat.le_of_ble_eq_true rfl, Nat.le_of_ble_eq_true rfl⟩ (fun r17 w17 => ?_)
                    have w17 : r17.toInt = (((sN σ + 1) : Nat) : Int) := by rw [w17]; exact ti_nI (by omega)
                    have hF : fOrder σ kd en wh to fr un = (nI (sN σ + 1), (sN σ + 1, va_up (sO σ) (sN σ) (kd, en, wh, to, fr, sT σ, un, 20001, 0), sT σ, sR σ, sG σ)) := (if_neg (by omega)).trans ((if_neg (by omega)).trans (if_neg (by omega)))
                    obtain rfl : r17 = nI (sN σ + 1) := nI_ofI w17
                    exact hret _ _ _ _ _ _ _ (kNew κ ux (sN σ) qn) dX1_order_152 (Or.inr (Or.inr rfl)) (by rw [hF]; exact ⟨rfl, CI_new hC g1 g2 g3 g4⟩) (by rw [hF]; exact hP) (by rw [hF]; exact hD) hS (Nat.le_of_ble_eq_true rfl) (Nat.le_of_ble_eq_true rfl)
                  have hP := ord_P (x := (CX G a (nI (sG σ).length) (sT σ) (sR σ) κ.2.2.2.2.2.1 κ.2.2.2.2.2.2)) hP
                  have hD := ord_D (x := (CX G a (nI (sG σ).length) (sT σ) (sR σ) κ.2.2.2.2.2.1 κ.2.2.2.2.2.2)) hD
                  rcases Nat.eq_zero_or_pos (sN σ) with hz | hz
                  · rw [LW_zero hz] at hP hD
                    refine wrV_i (wr := (CX G a (nI (sG σ).length) (sT σ) (sR σ) κ.2.2.2.2.2.1 κ.2.2.2.2.2.2)) (b := a.2.1) (As := [.ref qn]) (rest := []) ⟨hx, hb, hml, hown, hts⟩ (c_Jx4a65c_add_9ea2d_0 l G a.2.1 qn κ.1 ((pO κ.2.2.2.2.1 (sO σ) (sN σ)) ++ [(qn, Sum.inr (1, fl (kd, en, wh, to, fr, sT σ, un, 20001, 0)))] : va_W) (sN σ) (fl (kd, en, wh, to, fr, sT σ, un, 20001, 0)) tl_new) cw61 hK hZ hP hD hS hA 0 rfl rfl rfl rfl hl.1 rfl (Nat.le_of_ble_eq_true rfl) dX1_order_141 ⟨(Nat.le_of_ble_eq_true rfl), (Nat.le_of_ble_eq_true rfl)⟩ (fun r u H locs wu hP hD hS => ?_)
                    obtain ⟨g1, g2, g3⟩ := wu
                    exact tail u r H locs (by rw [hz]; exact g1) g2 (by rw [hz]; exact g3) (fun i hi => absurd hi (by omega)) (by rw [hz] at hP ⊢; exact hP) (by rw [hz] at hD ⊢; exact hD) hS
                  · obtain ⟨k1, k2, k3⟩ := hC.1 hz
                    rw [LW_pos (show sN σ ≠ 0 by omega)] at hP hD
                    rcases Nat.lt_or_ge (sN σ) κ.2.2.1 with hnN | hnN
                    · refine wrV_i (wr := (CX G a (nI (sG σ).length) (sT σ) (sR σ) κ.2.2.2.2.2.1 κ.2.2.2.2.2.2)) (b := a.2.1) (As := [.ref qn]) (rest := []) ⟨hx, hb, hml, hown, hts⟩ (c_Jx4a65c_add_9ea2d_s l G a.2.1 qn κ.1 κ.2.1 (sN σ) κ.2.2.1 κ.2.2.2.1 hz hnN k2 hI1 ((pO κ.2.2.2.2.1 (sO σ) (sN σ)) ++ [(qn, Sum.inr (1, fl (kd, en, wh, to, fr, sT σ, un, 20001, 0)))] : va_W) (sN σ) (fl (kd, en, wh, to, fr, sT σ, un, 20001, 0)) tl_new) cw61 hK hZ hP hD hS hA 0 rfl rfl rfl rfl hl.1 rfl (Nat.le_of_ble_eq_true rfl) dX1_order_141 ⟨(Nat.le_of_ble_eq_true rfl), (Nat.le_of_ble_eq_true rfl)⟩ (fun r u H locs wu hP hD hS => ?_)
                      obtain ⟨g1, g2, g3, g4⟩ := wu
                      exact tail u r H locs g1 g2 g3 (fun i hi => (g4 i hi).trans (k3 i hi)) hP hD hS
                    · have eN : κ.2.2.1 = sN σ := by omega
                      rw [eN] at hP hD
                      refine wrV_i (wr := (CX G a (nI (sG σ).length) (sT σ) (sR σ) κ.2.2.2.2.2.1 κ.2.2.2.2.2.2)) (b := a.2.1) (As := [.ref qn]) (rest := []) ⟨hx, hb, hml, hown, hts⟩ (c_Jx4a65c_add_9ea2d_g l G a.2.1 qn κ.1 κ.2.1 (sN σ) κ.2.2.2.1 hz hI1 ((pO κ.2.2.2.2.1 (sO σ) (sN σ)) ++ [(qn, Sum.inr (1, fl (kd, en, wh, to, fr, sT σ, un, 20001, 0)))] : va_W) (fun i hi => ⟨_, i, _, k3 i hi, tl_get hi⟩) (sN σ) (fl (kd, en, wh, to, fr, sT σ, un, 20001, 0)) tl_new) cw61 hK hZ hP hD hS hA 0 rfl rfl rfl rfl hl.1 rfl (Nat.le_of_ble_eq_true rfl) dX1_order_141 ⟨(Nat.le_of_ble_eq_true rfl), (Nat.le_of_ble_eq_true rfl)⟩ (fun r u H locs wu hP hD hS => ?_)
                      obtain ⟨g1, g2, g3, g4⟩ := wu
                      exact tail u r H locs g1 g2 g3 (fun i hi => (g4 i hi).trans (k3 i hi)) hP hD hS
                · have c111_16 : ¬ ((((sN σ) : Nat) : Int) < 200) := mt (ti_lt (x := r15) (y := 200) (a := (((sN σ) : Nat) : Int)) (b := 200) w15 rfl).mpr c111_16
                  refine lv_bipush (v := (-104)) hx hb dX1_order_114 (by decide) ?_
                  have hF : fOrder σ kd en wh to fr un = ((-104), σ) := (if_neg (by omega)).trans ((if_neg (by omega)).trans (if_pos (by omega)))
                  exact hret _ _ _ _ _ _ _ κ dX1_order_116 (Or.inr (Or.inr rfl)) (by rw [hF]; exact ⟨rfl, hC⟩) (by rw [hF]; exact hP) (by rw [hF]; exact hD) hS (Nat.zero_le _) (Nat.zero_le _)
      · have c30_5 : ¬ ((wh).toInt = (-1)) := mt (ti_eq (x := wh) (y := (-1)) (a := (wh).toInt) (b := (-1)) rfl rfl).mpr c30_5
        refine lv_iload_n hx hb dX1_order_33 rfl (lv_at hl 4 rfl) ?_
        refine rdS_i (As := [.int wh]) (rest := []) ⟨hx, hb, hml, hown, hts⟩ (c_X1_isPerson l G wh) cw45 hK va_P.nil rfl hl.1 rfl (Nat.le_of_ble_eq_true rfl) dX1_order_34 ⟨Nat.zero_le _, Nat.zero_le _⟩ (fun r34_18 w34_18 => ?_)
        have w34_18 : ((r34_18.toInt = 1 ∧ (0 ≤ (wh).toInt ∧ (wh).toInt ≤ 49)) ∨ (r34_18.toInt = 0 ∧ ¬ (0 ≤ (wh).toInt ∧ (wh).toInt ≤ 49))) := w34_18
        refine lv_if_eq (tgt := 53) hx hb dX1_order_37 (by decide) (fun c37_19 => ?_) (fun c37_19 => ?_)
        · have c37_19 : (r34_18).toInt = 0 := (ti_eq (x := r34_18) (y := 0) (a := (r34_18).toInt) (b := 0) rfl rfl).mp c37_19
          refine lv_bipush (v := (-101)) hx hb dX1_order_53 (by decide) ?_
          have hF : fOrder σ kd en wh to fr un = ((-101), σ) := if_pos (by omega)
          exact hret _ _ _ _ _ _ _ κ dX1_order_55 (Or.inr (Or.inr rfl)) (by rw [hF]; exact ⟨rfl, hC⟩) (by rw [hF]; exact hP) (by rw [hF]; exact hD) hS (Nat.zero_le _) (Nat.zero_le _)
        · have c37_19 : ¬ ((r34_18).toInt = 0) := mt (ti_eq (x := r34_18) (y := 0) (a := (r34_18).toInt) (b := 0) rfl rfl).mpr c37_19
          refine lv_iload hx hb dX1_order_40 (lv_at hl 0 rfl) ?_
          refine lv_if_eq (tgt := 56) hx hb dX1_order_42 (by decide) (fun _ => ?_) (fun c42_20 => absurd (by decide) c42_20)
          refine lv_iload_n hx hb dX1_order_56 rfl (lv_at hl 2 rfl) ?_
          refine rdS_i (As := [.int kd]) (rest := []) ⟨hx, hb, hml, hown, hts⟩ (c_X1_isKind l G kd) cw34 hK va_P.nil rfl hl.1 rfl (Nat.le_of_ble_eq_true rfl) dX1_order_57 ⟨Nat.zero_le _, Nat.zero_le _⟩ (fun r57_21 w57_21 => ?_)
          have w57_21 : ((r57_21.toInt = 1 ∧ (0 ≤ (kd).toInt ∧ (kd).toInt < 9)) ∨ (r57_21.toInt = 0 ∧ ¬ (0 ≤ (kd).toInt ∧ (kd).toInt < 9))) := w57_21
          refine lv_if_eq (tgt := 98) hx hb dX1_order_60 (by decide) (fun c60_22 => ?_) (fun c60_22 => ?_)
          · have c60_22 : (r57_21).toInt = 0 := (ti_eq (x := r57_21) (y := 0) (a := (r57_21).toInt) (b := 0) rfl rfl).mp c60_22
            refine lv_bipush (v := (-102)) hx hb dX1_order_98 (by decide) ?_
            have hF : fOrder σ kd en wh to fr un = ((-102), σ) := (if_neg (by omega)).trans (if_pos (by omega))
            exact hret _ _ _ _ _ _ _ κ dX1_order_100 (Or.inr (Or.inr rfl)) (by rw [hF]; exact ⟨rfl, hC⟩) (by rw [hF]; exact hP) (by rw [hF]; exact hD) hS (Nat.zero_le _) (Nat.zero_le _)
          · have c60_22 : ¬ ((r57_21).toInt = 0) := mt (ti_eq (x := r57_21) (y := 0) (a := (r57_21).toInt) (b := 0) rfl rfl).mpr c60_22
            refine lv_lload hx hb dX1_order_63 (lv_at hl 6 rfl) ?_
            refine rdS_i (As := [.long fr]) (rest := []) ⟨hx, hb, hml, hown, hts⟩ (c_X1_isDay l G fr) cw48 hK va_P.nil rfl hl.1 rfl (Nat.le_of_ble_eq_true rfl) dX1_order_65 ⟨Nat.zero_le _, Nat.zero_le _⟩ (fun r65_23 w65_23 => ?_)
            have w65_23 : ((r65_23.toInt = 1 ∧ (0 ≤ (fr).toInt ∧ (fr).toInt ≤ 20000)) ∨ (r65_23.toInt = 0 ∧ ¬ (0 ≤ (fr).toInt ∧ (fr).toInt ≤ 20000))) := w65_23
            refine lv_if_eq (tgt := 98) hx hb dX1_order_68 (by decide) (fun c68_24 => ?_) (fun c68_24 => ?_)
            · have c68_24 : (r65_23).toInt = 0 := (ti_eq (x := r65_23) (y := 0) (a := (r65_23).toInt) (b := 0) rfl rfl).mp c68_24
              refine lv_bipush (v := (-102)) hx hb dX1_order_98 (by decide) ?_
              have hF : fOrder σ kd en wh to fr un = ((-102), σ) := (if_neg (by omega)).trans (if_pos (by omega))
              exact hret _ _ _ _ _ _ _ κ dX1_order_100 (Or.inr (Or.inr rfl)) (by rw [hF]; exact ⟨rfl, hC⟩) (by rw [hF]; exact hP) (by rw [hF]; exact hD) hS (Nat.zero_le _) (Nat.zero_le _)
            · have c68_24 : ¬ ((r65_23).toInt = 0) := mt (ti_eq (x := r65_23) (y := 0) (a := (r65_23).toInt) (b := 0) rfl rfl).mpr c68_24
              refine lv_lload hx hb dX1_order_71 (lv_at hl 7 rfl) ?_
              refine rdS_i (As := [.long un]) (rest := []) ⟨hx, hb, hml, hown, hts⟩ (c_X1_isDay l G un) cw48 hK va_P.nil rfl hl.1 rfl (Nat.le_of_ble_eq_true rfl) dX1_order_73 ⟨Nat.zero_le _, Nat.zero_le _⟩ (fun r73_25 w73_25 => ?_)
              have w73_25 : ((r73_25.toInt = 1 ∧ (0 ≤ (un).toInt ∧ (un).toInt ≤ 20000)) ∨ (r73_25.toInt = 0 ∧ ¬ (0 ≤ (un).toInt ∧ (un).toInt ≤ 20000))) := w73_25
              refine lv_if_eq (tgt := 98) hx hb dX1_order_76 (by decide) (fun c76_26 => ?_) (fun c76_26 => ?_)
              · have c76_26 : (r73_25).toInt = 0 := (ti_eq (x := r73_25) (y := 0) (a := (r73_25).toInt) (b := 0) rfl rfl).mp c76_26
                refine lv_bipush (v := (-102)) hx hb dX1_order_98 (by decide) ?_
                have hF : fOrder σ kd en wh to fr un = ((-102), σ) := (if_neg (by omega)).trans (if_pos (by omega))
                exact hret _ _ _ _ _ _ _ κ dX1_order_100 (Or.inr (Or.inr rfl)) (by rw [hF]; exact ⟨rfl, hC⟩) (by rw [hF]; exact hP) (by rw [hF]; exact hD) hS (Nat.zero_le _) (Nat.zero_le _)
              · have c76_26 : ¬ ((r73_25).toInt = 0) := mt (ti_eq (x := r73_25) (y := 0) (a := (r73_25).toInt) (b := 0) rfl rfl).mpr c76_26
                refine lv_lload hx hb dX1_order_79 (lv_at hl 7 rfl) ?_
                refine lv_lload hx hb dX1_order_81 (lv_at hl 6 rfl) ?_
                refine lc_lt (tgt := 98) hx hb dX1_order_83 dX1_order_84 (by decide) (fun c83_27 => ?_) (fun c83_27 => ?_)
                · have c83_27 : (un).toInt < (fr).toInt := (tl_lt (x := un) (y := fr) (a := (un).toInt) (b := (fr).toInt) rfl rfl).mp c83_27
                  refine lv_bipush (v := (-102)) hx hb dX1_order_98 (by decide) ?_
                  have hF : fOrder σ kd en wh to fr un = ((-102), σ) := (if_neg (by omega)).trans (if_pos (by omega))
                  exact hret _ _ _ _ _ _ _ κ dX1_order_100 (Or.inr (Or.inr rfl)) (by rw [hF]; exact ⟨rfl, hC⟩) (by rw [hF]; exact hP) (by rw [hF]; exact hD) hS (Nat.zero_le _) (Nat.zero_le _)
                · have c83_27 : ¬ ((un).toInt < (fr).toInt) := mt (tl_lt (x := un) (y := fr) (a := (un).toInt) (b := (fr).toInt) rfl rfl).mpr c83_27
                  refine lv_iload hx hb dX1_order_87 (lv_at hl 0 rfl) ?_
                  refine lv_if_eq (tgt := 101) hx hb dX1_order_89 (by decide) (fun _ => ?_) (fun c89_28 => absurd (by decide) c89_28)
                  refine lv_aload_n hx hb dX1_order_101 rfl (lv_at hl 1 rfl) ?_
                  refine va_get (D := G.1) (ci := 2) (v := .ref a.2.1) (own := RX1) (C := RX1) (T := TX1) (N := 6) hx hb hts hiX1 hown hK.1 hP 0 rfl rfl 0 (by decide) lf10 (fun _ h9 => h9) rfl dX1_order_102 ?_
                  refine rdV_i (b := a.2.1) (As := []) (rest := []) ⟨hx, hb, hml, hown, hts⟩ (c_Jx4a65c_size_8abf5 l G a.2.1 κ.1 (nI (sN σ)) _) cw52 hK (LW_one (CW_list hP)) 0 rfl rfl rfl rfl hl.1 rfl (Nat.le_of_ble_eq_true rfl) dX1_order_105 ⟨Nat.zero_le _, Nat.zero_le _⟩ (fun r29 w29 => ?_)
                  have w29 : r29.toInt = (((sN σ) : Nat) : Int) := by rw [w29]; exact ti_nI (by omega)
                  refine lv_sipush (v := 200) hx hb dX1_order_108 (by decide) ?_
                  refine lv_icmp_lt (tgt := 117) hx hb dX1_order_111 (by decide) (fun c111_30 => ?_) (fun c111_30 => ?_)
                  · have c111_30 : (((sN σ) : Nat) : Int) < 200 := (ti_lt (x := r29) (y := 200) (a := (((sN σ) : Nat) : Int)) (b := 200) w29 rfl).mp c111_30
                    refine lv_aload_n hx hb dX1_order_117 rfl (lv_at hl 1 rfl) ?_
                    refine va_get (D := G.1) (ci := 2) (v := .ref a.2.1) (own := RX1) (C := RX1) (T := TX1) (N := 6) hx hb hts hiX1 hown hK.1 hP 0 rfl rfl 0 (by decide) lf10 (fun _ h9 => h9) rfl dX1_order_118 ?_
                    refine va_new (ci := 1) (fs := [.int 0, .int 0, .int 0, .int 0, .long 0, .long 0, .long 0, .long 0, .int 0]) (own := RX1) (C := RX0) (T := TX0) (N := 9) hx hb hts hiX0 tyX0 tyX0_ok hown (hts (.classLink RX1 56 RX0) (by decide +kernel)) (hts (.instantiable RX0 9) (by decide +kernel)) (hts (.initialized RX0) (by decide +kernel)) hK.1 hP hD hS hA rfl (fun j hj => by rcases (show j = 0 ∨ j = 1 ∨ j = 2 ∨ j = 3 ∨ j = 4 ∨ j = 5 ∨ j = 6 ∨ j = 7 ∨ j = 8 by omega) with rfl | rfl | rfl | rfl | rfl | rfl | rfl | rfl | rfl <;> rfl) (Nat.le_of_ble_eq_true rfl) (Nat.le_of_ble_eq_true rfl) dX1_order_121 (fun qn H hP hD hS => ?_)
                    have hP : va_P G.1 vwCl ((CW G a (nI (sG σ).length) (sT σ) (sR σ) κ.2.2.2.2.2.1 κ.2.2.2.2.2.2 (pO κ.2.2.2.2.1 (sO σ) (sN σ)) (LW G a.2.1 κ.1 κ.2.1 κ.2.2.1 κ.2.2.2.1 (sN σ))) ++ [(qn, .inr (1, [.int 0, .int 0, .int 0, .int 0, .long 0, .long 0, .long 0, .long 0, .int 0]))]) H := hP
                    have hD : va_D A ((CW G a (nI (sG σ).length) (sT σ) (sR σ) κ.2.2.2.2.2.1 κ.2.2.2.2.2.2 (pO κ.2.2.2.2.1 (sO σ) (sN σ)) (LW G a.2.1 κ.1 κ.2.1 κ.2.2.1 κ.2.2.2.1 (sN σ))) ++ [(qn, .inr (1, [.int 0, .int 0, .int 0, .int 0, .long 0, .long 0, .long 0, .long 0, .int 0]))]) := hD
                    refine lv_dup hx hb dX1_order_124 rfl ?_
                    refine lv_iload_n hx hb dX1_order_125 rfl (lv_at hl 2 rfl) ?_
                    refine lv_iload_n hx hb dX1_order_126 rfl (lv_at hl 3 rfl) ?_
                    refine lv_iload_n hx hb dX1_order_127 rfl (lv_at hl 4 rfl) ?_
                    refine lv_iload hx hb dX1_order_128 (lv_at hl 5 rfl) ?_
                    refine lv_lload hx hb dX1_order_130 (lv_at hl 6 rfl) ?_
                    refine lv_lload hx hb dX1_order_132 (lv_at hl 7 rfl) ?_
                    refine lv_aload_n hx hb dX1_order_134 rfl (lv_at hl 1 rfl) ?_
                    refine va_get (D := G.1) (ci := 2) (v := .long (sT σ)) (own := RX1) (C := RX1) (T := TX1) (N := 6) hx hb hts hiX1 hown hK.1 hP 0 rfl rfl 5 (by decide) lf30 (fun _ h9 => h9) rfl dX1_order_135 ?_
                    refine wrI_v (wr := (CW G a (nI (sG σ).length) (sT σ) (sR σ) κ.2.2.2.2.2.1 κ.2.2.2.2.2.2 (pO κ.2.2.2.2.1 (sO σ) (sN σ)) (LW G a.2.1 κ.1 κ.2.1 κ.2.2.1 κ.2.2.2.1 (sN σ)))) (b := qn) (As := [.int kd, .int en, .int wh, .int to, .long fr, .long un, .long (sT σ)]) (rest := [.ref qn, .ref a.2.1]) ⟨hx, hb, hml, hown, hts⟩ (c_X0_init l G qn kd en wh to fr un (sT σ)) cw58 hK hZ hP hD hS hA rfl hl.1 rfl (Nat.le_of_ble_eq_true rfl) dX1_order_138 ⟨(Nat.le_of_ble_eq_true rfl), (Nat.le_of_ble_eq_true rfl)⟩ (fun _ H locs _ hP hD hS => ?_)
                    have hP : va_P G.1 vwCl ((CW G a (nI (sG σ).length) (sT σ) (sR σ) κ.2.2.2.2.2.1 κ.2.2.2.2.2.2 (pO κ.2.2.2.2.1 (sO σ) (sN σ)) (LW G a.2.1 κ.1 κ.2.1 κ.2.2.1 κ.2.2.2.1 (sN σ))) ++ [(qn, .inr (1, fl (kd, en, wh, to, fr, sT σ, un, 20001, 0)))]) H := hP
                    have hD : va_D A ((CW G a (nI (sG σ).length) (sT σ) (sR σ) κ.2.2.2.2.2.1 κ.2.2.2.2.2.2 (pO κ.2.2.2.2.1 (sO σ) (sN σ)) (LW G a.2.1 κ.1 κ.2.1 κ.2.2.1 κ.2.2.2.1 (sN σ))) ++ [(qn, .inr (1, fl (kd, en, wh, to, fr, sT σ, un, 20001, 0)))]) := hD
                    have tail : ∀ (ux : Int32 × Nat × Nat × (Nat → Option Nat)) (r : Int32) (H : Heap) (locs : List Loc), sN σ + 1 ≤ ux.2.2.1 → ux.2.2.1 ≤ 400 → ux.2.2.2 (sN σ) = some qn → (∀ i, i < sN σ → ux.2.2.2 i = some (κ.2.2.2.2.1 i)) → va_P G.1 vwCl ((CX G a (nI (sG σ).length) (sT σ) (sR σ) κ.2.2.2.2.2.1 κ.2.2.2.2.2.2) ++ ([(a.2.1, .inr (0, [.int ux.1, .ref ux.2.1, .int (nI (sN σ + 1))])), aO G ux.2.1 ux.2.2.1 ux.2.2.2] ++ ((pO κ.2.2.2.2.1 (sO σ) (sN σ)) ++ [(qn, Sum.inr (1, fl (kd, en, wh, to, fr, sT σ, un, 20001, 0)))] : va_W))) H → va_D A ((CX G a (nI (sG σ).length) (sT σ) (sR σ) κ.2.2.2.2.2.1 κ.2.2.2.2.2.2) ++ ([(a.2.1, .inr (0, [.int ux.1, .ref ux.2.1, .int (nI (sN σ + 1))])), aO G ux.2.1 ux.2.2.1 ux.2.2.2] ++ ((pO κ.2.2.2.2.1 (sO σ) (sN σ)) ++ [(qn, Sum.inr (1, fl (kd, en, wh, to, fr, sT σ, un, 20001, 0)))] : va_W))) → va_S A s.heap H locs → W p l e (rmX 7 280 2 409) s m args below meth c H locs (0 + 1 + 0 + 1) (0 + 9 + 0 + 400) Q (F0 m 144 ls [.int r]) := by
                      intro ux r H locs g1 g2 g3 g4 hP hD hS
                      have hP := back_P hP
                      have hD := back_D hD
                      rw [pO_push, ← LW_pos (G := G) (h := a.2.1) (md := ux.1) (a2 := ux.2.1) (N := ux.2.2.1) (f := ux.2.2.2) (n := sN σ + 1) (by omega)] at hP hD
                      have hP : va_P G.1 vwCl (CW G a (nI (sG σ).length) (sT σ) (sR σ) κ.2.2.2.2.2.1 κ.2.2.2.2.2.2 (pO (kNew κ ux (sN σ) qn).2.2.2.2.1 (va_up (sO σ) (sN σ) (kd, en, wh, to, fr, sT σ, un, 20001, 0)) (sN σ + 1)) (LW G a.2.1 (kNew κ ux (sN σ) qn).1 (kNew κ ux (sN σ) qn).2.1 (kNew κ ux (sN σ) qn).2.2.1 (kNew κ ux (sN σ) qn).2.2.2.1 (sN σ + 1))) H := hP
                      have hD : va_D A (CW G a (nI (sG σ).length) (sT σ) (sR σ) κ.2.2.2.2.2.1 κ.2.2.2.2.2.2 (pO (kNew κ ux (sN σ) qn).2.2.2.2.1 (va_up (sO σ) (sN σ) (kd, en, wh, to, fr, sT σ, un, 20001, 0)) (sN σ + 1)) (LW G a.2.1 (kNew κ ux (sN σ) qn).1 (kNew κ ux (sN σ) qn).2.1 (kNew κ ux (sN σ) qn).2.2.1 (kNew κ ux (sN σ) qn).2.2.2.1 (sN σ + 1))) := hD
                      refine lv_pop hx hb dX1_order_144 rfl ?_
                      refine lv_aload_n hx hb dX1_order_145 rfl (lv_at hl 1 rfl) ?_
                      refine va_get (D := G.1) (ci := 2) (v := .ref a.2.1) (own := RX1) (C := RX1) (T := TX1) (N := 6) hx hb hts hiX1 hown hK.1 hP 0 rfl rfl 0 (by decide) lf10 (fun _ h9 => h9) rfl dX1_order_146 ?_
                      refine rdV_i (b := a.2.1) (As := []) (rest := []) ⟨hx, hb, hml, hown, hts⟩ (c_Jx4a65c_size_8abf5 l G a.2.1 (kNew κ ux (sN σ) qn).1 (nI (sN σ + 1)) _) cw52 hK (LW_one (CW_list hP)) 0 rfl rfl rfl rfl hl.1 rfl (Nat.le_of_ble_eq_true rfl) dX1_order_149 ⟨Nat.le_of_ble_eq_true rfl, Nat.le_of_ble_eq_true rfl⟩ (fun r31 w31 => ?_)
                      have w31 : r31.toInt = (((sN σ + 1) : Nat) : Int) := by rw [w31]; exact ti_nI (by omega)
                      have hF : fOrder σ kd en wh to fr un = (nI (sN σ + 1), (sN σ + 1, va_up (sO σ) (sN σ) (kd, en, wh, to, fr, sT σ, un, 20001, 0), sT σ, sR σ, sG σ)) := (if_neg (by omega)).trans ((if_neg (by omega)).trans (if_neg (by omega)))
                      obtain rfl : r31 = nI (sN σ + 1) := nI_ofI w31
                      exact hret _ _ _ _ _ _ _ (kNew κ ux (sN σ) qn) dX1_order_152 (Or.inr (Or.inr rfl)) (by rw [hF]; exact ⟨rfl, CI_new hC g1 g2 g3 g4⟩) (by rw [hF]; exact hP) (by rw [hF]; exact hD) hS (Nat.le_of_ble_eq_true rfl) (Nat.le_of_ble_eq_true rfl)
                    have hP := ord_P (x := (CX G a (nI (sG σ).length) (sT σ) (sR σ) κ.2.2.2.2.2.1 κ.2.2.2.2.2.2)) hP
                    have hD := ord_D (x := (CX G a (nI (sG σ).length) (sT σ) (sR σ) κ.2.2.2.2.2.1 κ.2.2.2.2.2.2)) hD
                    rcases Nat.eq_zero_or_pos (sN σ) with hz | hz
                    · rw [LW_zero hz] at hP hD
                      refine wrV_i (wr := (CX G a (nI (sG σ).length) (sT σ) (sR σ) κ.2.2.2.2.2.1 κ.2.2.2.2.2.2)) (b := a.2.1) (As := [.ref qn]) (rest := []) ⟨hx, hb, hml, hown, hts⟩ (c_Jx4a65c_add_9ea2d_0 l G a.2.1 qn κ.1 ((pO κ.2.2.2.2.1 (sO σ) (sN σ)) ++ [(qn, Sum.inr (1, fl (kd, en, wh, to, fr, sT σ, un, 20001, 0)))] : va_W) (sN σ) (fl (kd, en, wh, to, fr, sT σ, un, 20001, 0)) tl_new) cw61 hK hZ hP hD hS hA 0 rfl rfl rfl rfl hl.1 rfl (Nat.le_of_ble_eq_true rfl) dX1_order_141 ⟨(Nat.le_of_ble_eq_true rfl), (Nat.le_of_ble_eq_true rfl)⟩ (fun r u H locs wu hP hD hS => ?_)
                      obtain ⟨g1, g2, g3⟩ := wu
                      exact tail u r H locs (by rw [hz]; exact g1) g2 (by rw [hz]; exact g3) (fun i hi => absurd hi (by omega)) (by rw [hz] at hP ⊢; exact hP) (by rw [hz] at hD ⊢; exact hD) hS
                    · obtain ⟨k1, k2, k3⟩ := hC.1 hz
                      rw [LW_pos (show sN σ ≠ 0 by omega)] at hP hD
                      rcases Nat.lt_or_ge (sN σ) κ.2.2.1 with hnN | hnN
                      · refine wrV_i (wr := (CX G a (nI (sG σ).length) (sT σ) (sR σ) κ.2.2.2.2.2.1 κ.2.2.2.2.2.2)) (b := a.2.1) (As := [.ref qn]) (rest := []) ⟨hx, hb, hml, hown, hts⟩ (c_Jx4a65c_add_9ea2d_s l G a.2.1 qn κ.1 κ.2.1 (sN σ) κ.2.2.1 κ.2.2.2.1 hz hnN k2 hI1 ((pO κ.2.2.2.2.1 (sO σ) (sN σ)) ++ [(qn, Sum.inr (1, fl (kd, en, wh, to, fr, sT σ, un, 20001, 0)))] : va_W) (sN σ) (fl (kd, en, wh, to, fr, sT σ, un, 20001, 0)) tl_new) cw61 hK hZ hP hD hS hA 0 rfl rfl rfl rfl hl.1 rfl (Nat.le_of_ble_eq_true rfl) dX1_order_141 ⟨(Nat.le_of_ble_eq_true rfl), (Nat.le_of_ble_eq_true rfl)⟩ (fun r u H locs wu hP hD hS => ?_)
                        obtain ⟨g1, g2, g3, g4⟩ := wu
                        exact tail u r H locs g1 g2 g3 (fun i hi => (g4 i hi).trans (k3 i hi)) hP hD hS
                      · have eN : κ.2.2.1 = sN σ := by omega
                        rw [eN] at hP hD
                        refine wrV_i (wr := (CX G a (nI (sG σ).length) (sT σ) (sR σ) κ.2.2.2.2.2.1 κ.2.2.2.2.2.2)) (b := a.2.1) (As := [.ref qn]) (rest := []) ⟨hx, hb, hml, hown, hts⟩ (c_Jx4a65c_add_9ea2d_g l G a.2.1 qn κ.1 κ.2.1 (sN σ) κ.2.2.2.1 hz hI1 ((pO κ.2.2.2.2.1 (sO σ) (sN σ)) ++ [(qn, Sum.inr (1, fl (kd, en, wh, to, fr, sT σ, un, 20001, 0)))] : va_W) (fun i hi => ⟨_, i, _, k3 i hi, tl_get hi⟩) (sN σ) (fl (kd, en, wh, to, fr, sT σ, un, 20001, 0)) tl_new) cw61 hK hZ hP hD hS hA 0 rfl rfl rfl rfl hl.1 rfl (Nat.le_of_ble_eq_true rfl) dX1_order_141 ⟨(Nat.le_of_ble_eq_true rfl), (Nat.le_of_ble_eq_true rfl)⟩ (fun r u H locs wu hP hD hS => ?_)
                        obtain ⟨g1, g2, g3, g4⟩ := wu
                        exact tail u r H locs g1 g2 g3 (fun i hi => (g4 i hi).trans (k3 i hi)) hP hD hS
                  · have c111_30 : ¬ ((((sN σ) : Nat) : Int) < 200) := mt (ti_lt (x := r29) (y := 200) (a := (((sN σ) : Nat) : Int)) (b := 200) w29 rfl).mpr c111_30
                    refine lv_bipush (v := (-104)) hx hb dX1_order_114 (by decide) ?_
                    have hF : fOrder σ kd en wh to fr un = ((-104), σ) := (if_neg (by omega)).trans ((if_neg (by omega)).trans (if_pos (by omega)))
                    exact hret _ _ _ _ _ _ _ κ dX1_order_116 (Or.inr (Or.inr rfl)) (by rw [hF]; exact ⟨rfl, hC⟩) (by rw [hF]; exact hP) (by rw [hF]; exact hD) hS (Nat.zero_le _) (Nat.zero_le _)
  · have c4_2 : ¬ ((r1_1).toInt = 0) := mt (ti_eq (x := r1_1) (y := 0) (a := (r1_1).toInt) (b := 0) rfl rfl).mpr c4_2
    refine lv_iload_n hx hb dX1_order_7 rfl (lv_at hl 1 rfl) ?_
    refine rdS_i (As := [.int kd]) (rest := []) ⟨hx, hb, hml, hown, hts⟩ (c_X1_doneBy l G kd (by omega)) cw38 hK va_P.nil rfl hl.1 rfl (Nat.le_of_ble_eq_true rfl) dX1_order_8 ⟨Nat.zero_le _, Nat.zero_le _⟩ (fun r8_32 w8_32 => ?_)
    have w8_32 : r8_32.toInt = (kd).toInt / 3 := w8_32
    refine lv_if_ne (tgt := 18) hx hb dX1_order_11 (by decide) (fun c11_33 => ?_) (fun c11_33 => ?_)
    · have c11_33 : ¬ ((r8_32).toInt = 0) := mt (ti_eq (x := r8_32) (y := 0) (a := (r8_32).toInt) (b := 0) rfl rfl).mpr c11_33
      refine lv_iconst (v := 0) hx hb dX1_order_18 (by decide) ?_
      refine lv_istore (lv' := [(9, .int 0), (0, .ref a.1), (1, .int kd), (2, .int en), (3, .int wh), (4, .int to), (5, .long fr), (7, .long un)]) hx hb dX1_order_19 hl (by decide) rfl (fun ls hl => ?_)
      refine lv_iload_n hx hb dX1_order_21 rfl (lv_at hl 3 rfl) ?_
      refine rdS_i (As := [.int en]) (rest := []) ⟨hx, hb, hml, hown, hts⟩ (c_X1_isAddress l G en) cw42 hK va_P.nil rfl hl.1 rfl (Nat.le_of_ble_eq_true rfl) dX1_order_22 ⟨Nat.zero_le _, Nat.zero_le _⟩ (fun r22_34 w22_34 => ?_)
      have w22_34 : ((r22_34.toInt = 1 ∧ (1 ≤ (en).toInt ∧ (en).toInt ≤ 99)) ∨ (r22_34.toInt = 0 ∧ ¬ (1 ≤ (en).toInt ∧ (en).toInt ≤ 99))) := w22_34
      refine lv_if_eq (tgt := 53) hx hb dX1_order_25 (by decide) (fun c25_35 => ?_) (fun c25_35 => ?_)
      · have c25_35 : (r22_34).toInt = 0 := (ti_eq (x := r22_34) (y := 0) (a := (r22_34).toInt) (b := 0) rfl rfl).mp c25_35
        refine lv_bipush (v := (-101)) hx hb dX1_order_53 (by decide) ?_
        have hF : fOrder σ kd en wh to fr un = ((-101), σ) := if_pos (by omega)
        exact hret _ _ _ _ _ _ _ κ dX1_order_55 (Or.inr (Or.inr rfl)) (by rw [hF]; exact ⟨rfl, hC⟩) (by rw [hF]; exact hP) (by rw [hF]; exact hD) hS (Nat.zero_le _) (Nat.zero_le _)
      · have c25_35 : ¬ ((r22_34).toInt = 0) := mt (ti_eq (x := r22_34) (y := 0) (a := (r22_34).toInt) (b := 0) rfl rfl).mpr c25_35
        refine lv_iload_n hx hb dX1_order_28 rfl (lv_at hl 4 rfl) ?_
        refine lv_iconst (v := (-1)) hx hb dX1_order_29 (by decide) ?_
        refine lv_icmp_eq (tgt := 40) hx hb dX1_order_30 (by decide) (fun c30_36 => ?_) (fun c30_36 => ?_)
        · have c30_36 : (wh).toInt = (-1) := (ti_eq (x := wh) (y := (-1)) (a := (wh).toInt) (b := (-1)) rfl rfl).mp c30_36
          refine lv_iload hx hb dX1_order_40 (lv_at hl 0 rfl) ?_
          refine lv_if_eq (tgt := 56) hx hb dX1_order_42 (by decide) (fun _ => ?_) (fun c42_37 => absurd (by decide) c42_37)
          refine lv_iload_n hx hb dX1_order_56 rfl (lv_at hl 2 rfl) ?_
          refine rdS_i (As := [.int kd]) (rest := []) ⟨hx, hb, hml, hown, hts⟩ (c_X1_isKind l G kd) cw34 hK va_P.nil rfl hl.1 rfl (Nat.le_of_ble_eq_true rfl) dX1_order_57 ⟨Nat.zero_le _, Nat.zero_le _⟩ (fun r57_38 w57_38 => ?_)
          have w57_38 : ((r57_38.toInt = 1 ∧ (0 ≤ (kd).toInt ∧ (kd).toInt < 9)) ∨ (r57_38.toInt = 0 ∧ ¬ (0 ≤ (kd).toInt ∧ (kd).toInt < 9))) := w57_38
          refine lv_if_eq (tgt := 98) hx hb dX1_order_60 (by decide) (fun c60_39 => ?_) (fun c60_39 => ?_)
          · have c60_39 : (r57_38).toInt = 0 := (ti_eq (x := r57_38) (y := 0) (a := (r57_38).toInt) (b := 0) rfl rfl).mp c60_39
            refine lv_bipush (v := (-102)) hx hb dX1_order_98 (by decide) ?_
            have hF : fOrder σ kd en wh to fr un = ((-102), σ) := (if_neg (by omega)).trans (if_pos (by omega))
            exact hret _ _ _ _ _ _ _ κ dX1_order_100 (Or.inr (Or.inr rfl)) (by rw [hF]; exact ⟨rfl, hC⟩) (by rw [hF]; exact hP) (by rw [hF]; exact hD) hS (Nat.zero_le _) (Nat.zero_le _)
          · have c60_39 : ¬ ((r57_38).toInt = 0) := mt (ti_eq (x := r57_38) (y := 0) (a := (r57_38).toInt) (b := 0) rfl rfl).mpr c60_39
            refine lv_lload hx hb dX1_order_63 (lv_at hl 6 rfl) ?_
            refine rdS_i (As := [.long fr]) (rest := []) ⟨hx, hb, hml, hown, hts⟩ (c_X1_isDay l G fr) cw48 hK va_P.nil rfl hl.1 rfl (Nat.le_of_ble_eq_true rfl) dX1_order_65 ⟨Nat.zero_le _, Nat.zero_le _⟩ (fun r65_40 w65_40 => ?_)
            have w65_40 : ((r65_40.toInt = 1 ∧ (0 ≤ (fr).toInt ∧ (fr).toInt ≤ 20000)) ∨ (r65_40.toInt = 0 ∧ ¬ (0 ≤ (fr).toInt ∧ (fr).toInt ≤ 20000))) := w65_40
            refine lv_if_eq (tgt := 98) hx hb dX1_order_68 (by decide) (fun c68_41 => ?_) (fun c68_41 => ?_)
            · have c68_41 : (r65_40).toInt = 0 := (ti_eq (x := r65_40) (y := 0) (a := (r65_40).toInt) (b := 0) rfl rfl).mp c68_41
              refine lv_bipush (v := (-102)) hx hb dX1_order_98 (by decide) ?_
              have hF : fOrder σ kd en wh to fr un = ((-102), σ) := (if_neg (by omega)).trans (if_pos (by omega))
              exact hret _ _ _ _ _ _ _ κ dX1_order_100 (Or.inr (Or.inr rfl)) (by rw [hF]; exact ⟨rfl, hC⟩) (by rw [hF]; exact hP) (by rw [hF]; exact hD) hS (Nat.zero_le _) (Nat.zero_le _)
            · have c68_41 : ¬ ((r65_40).toInt = 0) := mt (ti_eq (x := r65_40) (y := 0) (a := (r65_40).toInt) (b := 0) rfl rfl).mpr c68_41
              refine lv_lload hx hb dX1_order_71 (lv_at hl 7 rfl) ?_
              refine rdS_i (As := [.long un]) (rest := []) ⟨hx, hb, hml, hown, hts⟩ (c_X1_isDay l G un) cw48 hK va_P.nil rfl hl.1 rfl (Nat.le_of_ble_eq_true rfl) dX1_order_73 ⟨Nat.zero_le _, Nat.zero_le _⟩ (fun r73_42 w73_42 => ?_)
              have w73_42 : ((r73_42.toInt = 1 ∧ (0 ≤ (un).toInt ∧ (un).toInt ≤ 20000)) ∨ (r73_42.toInt = 0 ∧ ¬ (0 ≤ (un).toInt ∧ (un).toInt ≤ 20000))) := w73_42
              refine lv_if_eq (tgt := 98) hx hb dX1_order_76 (by decide) (fun c76_43 => ?_) (fun c76_43 => ?_)
              · have c76_43 : (r73_42).toInt = 0 := (ti_eq (x := r73_42) (y := 0) (a := (r73_42).toInt) (b := 0) rfl rfl).mp c76_43
                refine lv_bipush (v := (-102)) hx hb dX1_order_98 (by decide) ?_
                have hF : fOrder σ kd en wh to fr un = ((-102), σ) := (if_neg (by omega)).trans (if_pos (by omega))
                exact hret _ _ _ _ _ _ _ κ dX1_order_100 (Or.inr (Or.inr rfl)) (by rw [hF]; exact ⟨rfl, hC⟩) (by rw [hF]; exact hP) (by rw [hF]; exact hD) hS (Nat.zero_le _) (Nat.zero_le _)
              · have c76_43 : ¬ ((r73_42).toInt = 0) := mt (ti_eq (x := r73_42) (y := 0) (a := (r73_42).toInt) (b := 0) rfl rfl).mpr c76_43
                refine lv_lload hx hb dX1_order_79 (lv_at hl 7 rfl) ?_
                refine lv_lload hx hb dX1_order_81 (lv_at hl 6 rfl) ?_
                refine lc_lt (tgt := 98) hx hb dX1_order_83 dX1_order_84 (by decide) (fun c83_44 => ?_) (fun c83_44 => ?_)
                · have c83_44 : (un).toInt < (fr).toInt := (tl_lt (x := un) (y := fr) (a := (un).toInt) (b := (fr).toInt) rfl rfl).mp c83_44
                  refine lv_bipush (v := (-102)) hx hb dX1_order_98 (by decide) ?_
                  have hF : fOrder σ kd en wh to fr un = ((-102), σ) := (if_neg (by omega)).trans (if_pos (by omega))
                  exact hret _ _ _ _ _ _ _ κ dX1_order_100 (Or.inr (Or.inr rfl)) (by rw [hF]; exact ⟨rfl, hC⟩) (by rw [hF]; exact hP) (by rw [hF]; exact hD) hS (Nat.zero_le _) (Nat.zero_le _)
                · have c83_44 : ¬ ((un).toInt < (fr).toInt) := mt (tl_lt (x := un) (y := fr) (a := (un).toInt) (b := (fr).toInt) rfl rfl).mpr c83_44
                  refine lv_iload hx hb dX1_order_87 (lv_at hl 0 rfl) ?_
                  refine lv_if_eq (tgt := 101) hx hb dX1_order_89 (by decide) (fun _ => ?_) (fun c89_45 => absurd (by decide) c89_45)
                  refine lv_aload_n hx hb dX1_order_101 rfl (lv_at hl 1 rfl) ?_
                  refine va_get (D := G.1) (ci := 2) (v := .ref a.2.1) (own := RX1) (C := RX1) (T := TX1) (N := 6) hx hb hts hiX1 hown hK.1 hP 0 rfl rfl 0 (by decide) lf10 (fun _ h9 => h9) rfl dX1_order_102 ?_
                  refine rdV_i (b := a.2.1) (As := []) (rest := []) ⟨hx, hb, hml, hown, hts⟩ (c_Jx4a65c_size_8abf5 l G a.2.1 κ.1 (nI (sN σ)) _) cw52 hK (LW_one (CW_list hP)) 0 rfl rfl rfl rfl hl.1 rfl (Nat.le_of_ble_eq_true rfl) dX1_order_105 ⟨Nat.zero_le _, Nat.zero_le _⟩ (fun r46 w46 => ?_)
                  have w46 : r46.toInt = (((sN σ) : Nat) : Int) := by rw [w46]; exact ti_nI (by omega)
                  refine lv_sipush (v := 200) hx hb dX1_order_108 (by decide) ?_
                  refine lv_icmp_lt (tgt := 117) hx hb dX1_order_111 (by decide) (fun c111_47 => ?_) (fun c111_47 => ?_)
                  · have c111_47 : (((sN σ) : Nat) : Int) < 200 := (ti_lt (x := r46) (y := 200) (a := (((sN σ) : Nat) : Int)) (b := 200) w46 rfl).mp c111_47
                    refine lv_aload_n hx hb dX1_order_117 rfl (lv_at hl 1 rfl) ?_
                    refine va_get (D := G.1) (ci := 2) (v := .ref a.2.1) (own := RX1) (C := RX1) (T := TX1) (N := 6) hx hb hts hiX1 hown hK.1 hP 0 rfl rfl 0 (by decide) lf10 (fun _ h9 => h9) rfl dX1_order_118 ?_
                    refine va_new (ci := 1) (fs := [.int 0, .int 0, .int 0, .int 0, .long 0, .long 0, .long 0, .long 0, .int 0]) (own := RX1) (C := RX0) (T := TX0) (N := 9) hx hb hts hiX0 tyX0 tyX0_ok hown (hts (.classLink RX1 56 RX0) (by decide +kernel)) (hts (.instantiable RX0 9) (by decide +kernel)) (hts (.initialized RX0) (by decide +kernel)) hK.1 hP hD hS hA rfl (fun j hj => by rcases (show j = 0 ∨ j = 1 ∨ j = 2 ∨ j = 3 ∨ j = 4 ∨ j = 5 ∨ j = 6 ∨ j = 7 ∨ j = 8 by omega) with rfl | rfl | rfl | rfl | rfl | rfl | rfl | rfl | rfl <;> rfl) (Nat.le_of_ble_eq_true rfl) (Nat.le_of_ble_eq_true rfl) dX1_order_121 (fun qn H hP hD hS => ?_)
                    have hP : va_P G.1 vwCl ((CW G a (nI (sG σ).length) (sT σ) (sR σ) κ.2.2.2.2.2.1 κ.2.2.2.2.2.2 (pO κ.2.2.2.2.1 (sO σ) (sN σ)) (LW G a.2.1 κ.1 κ.2.1 κ.2.2.1 κ.2.2.2.1 (sN σ))) ++ [(qn, .inr (1, [.int 0, .int 0, .int 0, .int 0, .long 0, .long 0, .long 0, .long 0, .int 0]))]) H := hP
                    have hD : va_D A ((CW G a (nI (sG σ).length) (sT σ) (sR σ) κ.2.2.2.2.2.1 κ.2.2.2.2.2.2 (pO κ.2.2.2.2.1 (sO σ) (sN σ)) (LW G a.2.1 κ.1 κ.2.1 κ.2.2.1 κ.2.2.2.1 (sN σ))) ++ [(qn, .inr (1, [.int 0, .int 0, .int 0, .int 0, .long 0, .long 0, .long 0, .long 0, .int 0]))]) := hD
                    refine lv_dup hx hb dX1_order_124 rfl ?_
                    refine lv_iload_n hx hb dX1_order_125 rfl (lv_at hl 2 rfl) ?_
                    refine lv_iload_n hx hb dX1_order_126 rfl (lv_at hl 3 rfl) ?_
                    refine lv_iload_n hx hb dX1_order_127 rfl (lv_at hl 4 rfl) ?_
                    refine lv_iload hx hb dX1_order_128 (lv_at hl 5 rfl) ?_
                    refine lv_lload hx hb dX1_order_130 (lv_at hl 6 rfl) ?_
                    refine lv_lload hx hb dX1_order_132 (lv_at hl 7 rfl) ?_
                    refine lv_aload_n hx hb dX1_order_134 rfl (lv_at hl 1 rfl) ?_
                    refine va_get (D := G.1) (ci := 2) (v := .long (sT σ)) (own := RX1) (C := RX1) (T := TX1) (N := 6) hx hb hts hiX1 hown hK.1 hP 0 rfl rfl 5 (by decide) lf30 (fun _ h9 => h9) rfl dX1_order_135 ?_
                    refine wrI_v (wr := (CW G a (nI (sG σ).length) (sT σ) (sR σ) κ.2.2.2.2.2.1 κ.2.2.2.2.2.2 (pO κ.2.2.2.2.1 (sO σ) (sN σ)) (LW G a.2.1 κ.1 κ.2.1 κ.2.2.1 κ.2.2.2.1 (sN σ)))) (b := qn) (As := [.int kd, .int en, .int wh, .int to, .long fr, .long un, .long (sT σ)]) (rest := [.ref qn, .ref a.2.1]) ⟨hx, hb, hml, hown, hts⟩ (c_X0_init l G qn kd en wh to fr un (sT σ)) cw58 hK hZ hP hD hS hA rfl hl.1 rfl (Nat.le_of_ble_eq_true rfl) dX1_order_138 ⟨(Nat.le_of_ble_eq_true rfl), (Nat.le_of_ble_eq_true rfl)⟩ (fun _ H locs _ hP hD hS => ?_)
                    have hP : va_P G.1 vwCl ((CW G a (nI (sG σ).length) (sT σ) (sR σ) κ.2.2.2.2.2.1 κ.2.2.2.2.2.2 (pO κ.2.2.2.2.1 (sO σ) (sN σ)) (LW G a.2.1 κ.1 κ.2.1 κ.2.2.1 κ.2.2.2.1 (sN σ))) ++ [(qn, .inr (1, fl (kd, en, wh, to, fr, sT σ, un, 20001, 0)))]) H := hP
                    have hD : va_D A ((CW G a (nI (sG σ).length) (sT σ) (sR σ) κ.2.2.2.2.2.1 κ.2.2.2.2.2.2 (pO κ.2.2.2.2.1 (sO σ) (sN σ)) (LW G a.2.1 κ.1 κ.2.1 κ.2.2.1 κ.2.2.2.1 (sN σ))) ++ [(qn, .inr (1, fl (kd, en, wh, to, fr, sT σ, un, 20001, 0)))]) := hD
                    have tail : ∀ (ux : Int32 × Nat × Nat × (Nat → Option Nat)) (r : Int32) (H : Heap) (locs : List Loc), sN σ + 1 ≤ ux.2.2.1 → ux.2.2.1 ≤ 400 → ux.2.2.2 (sN σ) = some qn → (∀ i, i < sN σ → ux.2.2.2 i = some (κ.2.2.2.2.1 i)) → va_P G.1 vwCl ((CX G a (nI (sG σ).length) (sT σ) (sR σ) κ.2.2.2.2.2.1 κ.2.2.2.2.2.2) ++ ([(a.2.1, .inr (0, [.int ux.1, .ref ux.2.1, .int (nI (sN σ + 1))])), aO G ux.2.1 ux.2.2.1 ux.2.2.2] ++ ((pO κ.2.2.2.2.1 (sO σ) (sN σ)) ++ [(qn, Sum.inr (1, fl (kd, en, wh, to, fr, sT σ, un, 20001, 0)))] : va_W))) H → va_D A ((CX G a (nI (sG σ).length) (sT σ) (sR σ) κ.2.2.2.2.2.1 κ.2.2.2.2.2.2) ++ ([(a.2.1, .inr (0, [.int ux.1, .ref ux.2.1, .int (nI (sN σ + 1))])), aO G ux.2.1 ux.2.2.1 ux.2.2.2] ++ ((pO κ.2.2.2.2.1 (sO σ) (sN σ)) ++ [(qn, Sum.inr (1, fl (kd, en, wh, to, fr, sT σ, un, 20001, 0)))] : va_W))) → va_S A s.heap H locs → W p l e (rmX 7 280 2 409) s m args below meth c H locs (0 + 1 + 0 + 1) (0 + 9 + 0 + 400) Q (F0 m 144 ls [.int r]) := by
                      intro ux r H locs g1 g2 g3 g4 hP hD hS
                      have hP := back_P hP
                      have hD := back_D hD
                      rw [pO_push, ← LW_pos (G := G) (h := a.2.1) (md := ux.1) (a2 := ux.2.1) (N := ux.2.2.1) (f := ux.2.2.2) (n := sN σ + 1) (by omega)] at hP hD
                      have hP : va_P G.1 vwCl (CW G a (nI (sG σ).length) (sT σ) (sR σ) κ.2.2.2.2.2.1 κ.2.2.2.2.2.2 (pO (kNew κ ux (sN σ) qn).2.2.2.2.1 (va_up (sO σ) (sN σ) (kd, en, wh, to, fr, sT σ, un, 20001, 0)) (sN σ + 1)) (LW G a.2.1 (kNew κ ux (sN σ) qn).1 (kNew κ ux (sN σ) qn).2.1 (kNew κ ux (sN σ) qn).2.2.1 (kNew κ ux (sN σ) qn).2.2.2.1 (sN σ + 1))) H := hP
                      have hD : va_D A (CW G a (nI (sG σ).length) (sT σ) (sR σ) κ.2.2.2.2.2.1 κ.2.2.2.2.2.2 (pO (kNew κ ux (sN σ) qn).2.2.2.2.1 (va_up (sO σ) (sN σ) (kd, en, wh, to, fr, sT σ, un, 20001, 0)) (sN σ + 1)) (LW G a.2.1 (kNew κ ux (sN σ) qn).1 (kNew κ ux (sN σ) qn).2.1 (kNew κ ux (sN σ) qn).2.2.1 (kNew κ ux (sN σ) qn).2.2.2.1 (sN σ + 1))) := hD
                      refine lv_pop hx hb dX1_order_144 rfl ?_
                      refine lv_aload_n hx hb dX1_order_145 rfl (lv_at hl 1 rfl) ?_
                      refine va_get (D := G.1) (ci := 2) (v := .ref a.2.1) (own := RX1) (C := RX1) (T := TX1) (N := 6) hx hb hts hiX1 hown hK.1 hP 0 rfl rfl 0 (by decide) lf10 (fun _ h9 => h9) rfl dX1_order_146 ?_
                      refine rdV_i (b := a.2.1) (As := []) (rest := []) ⟨hx, hb, hml, hown, hts⟩ (c_Jx4a65c_size_8abf5 l G a.2.1 (kNew κ ux (sN σ) qn).1 (nI (sN σ + 1)) _) cw52 hK (LW_one (CW_list hP)) 0 rfl rfl rfl rfl hl.1 rfl (Nat.le_of_ble_eq_true rfl) dX1_order_149 ⟨Nat.le_of_ble_eq_true rfl, Nat.le_of_ble_eq_true rfl⟩ (fun r48 w48 => ?_)
                      have w48 : r48.toInt = (((sN σ + 1) : Nat) : Int) := by rw [w48]; exact ti_nI (by omega)
                      have hF : fOrder σ kd en wh to fr un = (nI (sN σ + 1), (sN σ + 1, va_up (sO σ) (sN σ) (kd, en, wh, to, fr, sT σ, un, 20001, 0), sT σ, sR σ, sG σ)) := (if_neg (by omega)).trans ((if_neg (by omega)).trans (if_neg (by omega)))
                      obtain rfl : r48 = nI (sN σ + 1) := nI_ofI w48
                      exact hret _ _ _ _ _ _ _ (kNew κ ux (sN σ) qn) dX1_order_152 (Or.inr (Or.inr rfl)) (by rw [hF]; exact ⟨rfl, CI_new hC g1 g2 g3 g4⟩) (by rw [hF]; exact hP) (by rw [hF]; exact hD) hS (Nat.le_of_ble_eq_true rfl) (Nat.le_of_ble_eq_true rfl)
                    have hP := ord_P (x := (CX G a (nI (sG σ).length) (sT σ) (sR σ) κ.2.2.2.2.2.1 κ.2.2.2.2.2.2)) hP
                    have hD := ord_D (x := (CX G a (nI (sG σ).length) (sT σ) (sR σ) κ.2.2.2.2.2.1 κ.2.2.2.2.2.2)) hD
                    rcases Nat.eq_zero_or_pos (sN σ) with hz | hz
                    · rw [LW_zero hz] at hP hD
                      refine wrV_i (wr := (CX G a (nI (sG σ).length) (sT σ) (sR σ) κ.2.2.2.2.2.1 κ.2.2.2.2.2.2)) (b := a.2.1) (As := [.ref qn]) (rest := []) ⟨hx, hb, hml, hown, hts⟩ (c_Jx4a65c_add_9ea2d_0 l G a.2.1 qn κ.1 ((pO κ.2.2.2.2.1 (sO σ) (sN σ)) ++ [(qn, Sum.inr (1, fl (kd, en, wh, to, fr, sT σ, un, 20001, 0)))] : va_W) (sN σ) (fl (kd, en, wh, to, fr, sT σ, un, 20001, 0)) tl_new) cw61 hK hZ hP hD hS hA 0 rfl rfl rfl rfl hl.1 rfl (Nat.le_of_ble_eq_true rfl) dX1_order_141 ⟨(Nat.le_of_ble_eq_true rfl), (Nat.le_of_ble_eq_true rfl)⟩ (fun r u H locs wu hP hD hS => ?_)
                      obtain ⟨g1, g2, g3⟩ := wu
                      exact tail u r H locs (by rw [hz]; exact g1) g2 (by rw [hz]; exact g3) (fun i hi => absurd hi (by omega)) (by rw [hz] at hP ⊢; exact hP) (by rw [hz] at hD ⊢; exact hD) hS
                    · obtain ⟨k1, k2, k3⟩ := hC.1 hz
                      rw [LW_pos (show sN σ ≠ 0 by omega)] at hP hD
                      rcases Nat.lt_or_ge (sN σ) κ.2.2.1 with hnN | hnN
                      · refine wrV_i (wr := (CX G a (nI (sG σ).length) (sT σ) (sR σ) κ.2.2.2.2.2.1 κ.2.2.2.2.2.2)) (b := a.2.1) (As := [.ref qn]) (rest := []) ⟨hx, hb, hml, hown, hts⟩ (c_Jx4a65c_add_9ea2d_s l G a.2.1 qn κ.1 κ.2.1 (sN σ) κ.2.2.1 κ.2.2.2.1 hz hnN k2 hI1 ((pO κ.2.2.2.2.1 (sO σ) (sN σ)) ++ [(qn, Sum.inr (1, fl (kd, en, wh, to, fr, sT σ, un, 20001, 0)))] : va_W) (sN σ) (fl (kd, en, wh, to, fr, sT σ, un, 20001, 0)) tl_new) cw61 hK hZ hP hD hS hA 0 rfl rfl rfl rfl hl.1 rfl (Nat.le_of_ble_eq_true rfl) dX1_order_141 ⟨(Nat.le_of_ble_eq_true rfl), (Nat.le_of_ble_eq_true rfl)⟩ (fun r u H locs wu hP hD hS => ?_)
                        obtain ⟨g1, g2, g3, g4⟩ := wu
                        exact tail u r H locs g1 g2 g3 (fun i hi => (g4 i hi).trans (k3 i hi)) hP hD hS
                      · have eN : κ.2.2.1 = sN σ := by omega
                        rw [eN] at hP hD
                        refine wrV_i (wr := (CX G a (nI (sG σ).length) (sT σ) (sR σ) κ.2.2.2.2.2.1 κ.2.2.2.2.2.2)) (b := a.2.1) (As := [.ref qn]) (rest := []) ⟨hx, hb, hml, hown, hts⟩ (c_Jx4a65c_add_9ea2d_g l G a.2.1 qn κ.1 κ.2.1 (sN σ) κ.2.2.2.1 hz hI1 ((pO κ.2.2.2.2.1 (sO σ) (sN σ)) ++ [(qn, Sum.inr (1, fl (kd, en, wh, to, fr, sT σ, un, 20001, 0)))] : va_W) (fun i hi => ⟨_, i, _, k3 i hi, tl_get hi⟩) (sN σ) (fl (kd, en, wh, to, fr, sT σ, un, 20001, 0)) tl_new) cw61 hK hZ hP hD hS hA 0 rfl rfl rfl rfl hl.1 rfl (Nat.le_of_ble_eq_true rfl) dX1_order_141 ⟨(Nat.le_of_ble_eq_true rfl), (Nat.le_of_ble_eq_true rfl)⟩ (fun r u H locs wu hP hD hS => ?_)
                        obtain ⟨g1, g2, g3, g4⟩ := wu
                        exact tail u r H locs g1 g2 g3 (fun i hi => (g4 i hi).trans (k3 i hi)) hP hD hS
                  · have c111_47 : ¬ ((((sN σ) : Nat) : Int) < 200) := mt (ti_lt (x := r46) (y := 200) (a := (((sN σ) : Nat) : Int)) (b := 200) w46 rfl).mpr c111_47
                    refine lv_bipush (v := (-104)) hx hb dX1_order_114 (by decide) ?_
                    have hF : fOrder σ kd en wh to fr un = ((-104), σ) := (if_neg (by omega)).trans ((if_neg (by omega)).trans (if_pos (by omega)))
                    exact hret _ _ _ _ _ _ _ κ dX1_order_116 (Or.inr (Or.inr rfl)) (by rw [hF]; exact ⟨rfl, hC⟩) (by rw [hF]; exact hP) (by rw [hF]; exact hD) hS (Nat.zero_le _) (Nat.zero_le _)
        · have c30_36 : ¬ ((wh).toInt = (-1)) := mt (ti_eq (x := wh) (y := (-1)) (a := (wh).toInt) (b := (-1)) rfl rfl).mpr c30_36
          refine lv_iload_n hx hb dX1_order_33 rfl (lv_at hl 4 rfl) ?_
          refine rdS_i (As := [.int wh]) (rest := []) ⟨hx, hb, hml, hown, hts⟩ (c_X1_isPerson l G wh) cw45 hK va_P.nil rfl hl.1 rfl (Nat.le_of_ble_eq_true rfl) dX1_order_34 ⟨Nat.zero_le _, Nat.zero_le _⟩ (fun r34_49 w34_49 => ?_)
          have w34_49 : ((r34_49.toInt = 1 ∧ (0 ≤ (wh).toInt ∧ (wh).toInt ≤ 49)) ∨ (r34_49.toInt = 0 ∧ ¬ (0 ≤ (wh).toInt ∧ (wh).toInt ≤ 49))) := w34_49
          refine lv_if_eq (tgt := 53) hx hb dX1_order_37 (by decide) (fun c37_50 => ?_) (fun c37_50 => ?_)
          · have c37_50 : (r34_49).toInt = 0 := (ti_eq (x := r34_49) (y := 0) (a := (r34_49).toInt) (b := 0) rfl rfl).mp c37_50
            refine lv_bipush (v := (-101)) hx hb dX1_order_53 (by decide) ?_
            have hF : fOrder σ kd en wh to fr un = ((-101), σ) := if_pos (by omega)
            exact hret _ _ _ _ _ _ _ κ dX1_order_55 (Or.inr (Or.inr rfl)) (by rw [hF]; exact ⟨rfl, hC⟩) (by rw [hF]; exact hP) (by rw [hF]; exact hD) hS (Nat.zero_le _) (Nat.zero_le _)
          · have c37_50 : ¬ ((r34_49).toInt = 0) := mt (ti_eq (x := r34_49) (y := 0) (a := (r34_49).toInt) (b := 0) rfl rfl).mpr c37_50
            refine lv_iload hx hb dX1_order_40 (lv_at hl 0 rfl) ?_
            refine lv_if_eq (tgt := 56) hx hb dX1_order_42 (by decide) (fun _ => ?_) (fun c42_51 => absurd (by decide) c42_51)
            refine lv_iload_n hx hb dX1_order_56 rfl (lv_at hl 2 rfl) ?_
            refine rdS_i (As := [.int kd]) (rest := []) ⟨hx, hb, hml, hown, hts⟩ (c_X1_isKind l G kd) cw34 hK va_P.nil rfl hl.1 rfl (Nat.le_of_ble_eq_true rfl) dX1_order_57 ⟨Nat.zero_le _, Nat.zero_le _⟩ (fun r57_52 w57_52 => ?_)
            have w57_52 : ((r57_52.toInt = 1 ∧ (0 ≤ (kd).toInt ∧ (kd).toInt < 9)) ∨ (r57_52.toInt = 0 ∧ ¬ (0 ≤ (kd).toInt ∧ (kd).toInt < 9))) := w57_52
            refine lv_if_eq (tgt := 98) hx hb dX1_order_60 (by decide) (fun c60_53 => ?_) (fun c60_53 => ?_)
            · have c60_53 : (r57_52).toInt = 0 := (ti_eq (x := r57_52) (y := 0) (a := (r57_52).toInt) (b := 0) rfl rfl).mp c60_53
              refine lv_bipush (v := (-102)) hx hb dX1_order_98 (by decide) ?_
              have hF : fOrder σ kd en wh to fr un = ((-102), σ) := (if_neg (by omega)).trans (if_pos (by omega))
              exact hret _ _ _ _ _ _ _ κ dX1_order_100 (Or.inr (Or.inr rfl)) (by rw [hF]; exact ⟨rfl, hC⟩) (by rw [hF]; exact hP) (by rw [hF]; exact hD) hS (Nat.zero_le _) (Nat.zero_le _)
            · have c60_53 : ¬ ((r57_52).toInt = 0) := mt (ti_eq (x := r57_52) (y := 0) (a := (r57_52).toInt) (b := 0) rfl rfl).mpr c60_53
              refine lv_lload hx hb dX1_order_63 (lv_at hl 6 rfl) ?_
              refine rdS_i (As := [.long fr]) (rest := []) ⟨hx, hb, hml, hown, hts⟩ (c_X1_isDay l G fr) cw48 hK va_P.nil rfl hl.1 rfl (Nat.le_of_ble_eq_true rfl) dX1_order_65 ⟨Nat.zero_le _, Nat.zero_le _⟩ (fun r65_54 w65_54 => ?_)
              have w65_54 : ((r65_54.toInt = 1 ∧ (0 ≤ (fr).toInt ∧ (fr).toInt ≤ 20000)) ∨ (r65_54.toInt = 0 ∧ ¬ (0 ≤ (fr).toInt ∧ (fr).toInt ≤ 20000))) := w65_54
              refine lv_if_eq (tgt := 98) hx hb dX1_order_68 (by decide) (fun c68_55 => ?_) (fun c68_55 => ?_)
              · have c68_55 : (r65_54).toInt = 0 := (ti_eq (x := r65_54) (y := 0) (a := (r65_54).toInt) (b := 0) rfl rfl).mp c68_55
                refine lv_bipush (v := (-102)) hx hb dX1_order_98 (by decide) ?_
                have hF : fOrder σ kd en wh to fr un = ((-102), σ) := (if_neg (by omega)).trans (if_pos (by omega))
                exact hret _ _ _ _ _ _ _ κ dX1_order_100 (Or.inr (Or.inr rfl)) (by rw [hF]; exact ⟨rfl, hC⟩) (by rw [hF]; exact hP) (by rw [hF]; exact hD) hS (Nat.zero_le _) (Nat.zero_le _)
              · have c68_55 : ¬ ((r65_54).toInt = 0) := mt (ti_eq (x := r65_54) (y := 0) (a := (r65_54).toInt) (b := 0) rfl rfl).mpr c68_55
                refine lv_lload hx hb dX1_order_71 (lv_at hl 7 rfl) ?_
                refine rdS_i (As := [.long un]) (rest := []) ⟨hx, hb, hml, hown, hts⟩ (c_X1_isDay l G un) cw48 hK va_P.nil rfl hl.1 rfl (Nat.le_of_ble_eq_true rfl) dX1_order_73 ⟨Nat.zero_le _, Nat.zero_le _⟩ (fun r73_56 w73_56 => ?_)
                have w73_56 : ((r73_56.toInt = 1 ∧ (0 ≤ (un).toInt ∧ (un).toInt ≤ 20000)) ∨ (r73_56.toInt = 0 ∧ ¬ (0 ≤ (un).toInt ∧ (un).toInt ≤ 20000))) := w73_56
                refine lv_if_eq (tgt := 98) hx hb dX1_order_76 (by decide) (fun c76_57 => ?_) (fun c76_57 => ?_)
                · have c76_57 : (r73_56).toInt = 0 := (ti_eq (x := r73_56) (y := 0) (a := (r73_56).toInt) (b := 0) rfl rfl).mp c76_57
                  refine lv_bipush (v := (-102)) hx hb dX1_order_98 (by decide) ?_
                  have hF : fOrder σ kd en wh to fr un = ((-102), σ) := (if_neg (by omega)).trans (if_pos (by omega))
                  exact hret _ _ _ _ _ _ _ κ dX1_order_100 (Or.inr (Or.inr rfl)) (by rw [hF]; exact ⟨rfl, hC⟩) (by rw [hF]; exact hP) (by rw [hF]; exact hD) hS (Nat.zero_le _) (Nat.zero_le _)
                · have c76_57 : ¬ ((r73_56).toInt = 0) := mt (ti_eq (x := r73_56) (y := 0) (a := (r73_56).toInt) (b := 0) rfl rfl).mpr c76_57
                  refine lv_lload hx hb dX1_order_79 (lv_at hl 7 rfl) ?_
                  refine lv_lload hx hb dX1_order_81 (lv_at hl 6 rfl) ?_
                  refine lc_lt (tgt := 98) hx hb dX1_order_83 dX1_order_84 (by decide) (fun c83_58 => ?_) (fun c83_58 => ?_)
                  · have c83_58 : (un).toInt < (fr).toInt := (tl_lt (x := un) (y := fr) (a := (un).toInt) (b := (fr).toInt) rfl rfl).mp c83_58
                    refine lv_bipush (v := (-102)) hx hb dX1_order_98 (by decide) ?_
                    have hF : fOrder σ kd en wh to fr un = ((-102), σ) := (if_neg (by omega)).trans (if_pos (by omega))
                    exact hret _ _ _ _ _ _ _ κ dX1_order_100 (Or.inr (Or.inr rfl)) (by rw [hF]; exact ⟨rfl, hC⟩) (by rw [hF]; exact hP) (by rw [hF]; exact hD) hS (Nat.zero_le _) (Nat.zero_le _)
                  · have c83_58 : ¬ ((un).toInt < (fr).toInt) := mt (tl_lt (x := un) (y := fr) (a := (un).toInt) (b := (fr).toInt) rfl rfl).mpr c83_58
                    refine lv_iload hx hb dX1_order_87 (lv_at hl 0 rfl) ?_
                    refine lv_if_eq (tgt := 101) hx hb dX1_order_89 (by decide) (fun _ => ?_) (fun c89_59 => absurd (by decide) c89_59)
                    refine lv_aload_n hx hb dX1_order_101 rfl (lv_at hl 1 rfl) ?_
                    refine va_get (D := G.1) (ci := 2) (v := .ref a.2.1) (own := RX1) (C := RX1) (T := TX1) (N := 6) hx hb hts hiX1 hown hK.1 hP 0 rfl rfl 0 (by decide) lf10 (fun _ h9 => h9) rfl dX1_order_102 ?_
                    refine rdV_i (b := a.2.1) (As := []) (rest := []) ⟨hx, hb, hml, hown, hts⟩ (c_Jx4a65c_size_8abf5 l G a.2.1 κ.1 (nI (sN σ)) _) cw52 hK (LW_one (CW_list hP)) 0 rfl rfl rfl rfl hl.1 rfl (Nat.le_of_ble_eq_true rfl) dX1_order_105 ⟨Nat.zero_le _, Nat.zero_le _⟩ (fun r60 w60 => ?_)
                    have w60 : r60.toInt = (((sN σ) : Nat) : Int) := by rw [w60]; exact ti_nI (by omega)
                    refine lv_sipush (v := 200) hx hb dX1_order_108 (by decide) ?_
                    refine lv_icmp_lt (tgt := 117) hx hb dX1_order_111 (by decide) (fun c111_61 => ?_) (fun c111_61 => ?_)
                    · have c111_61 : (((sN σ) : Nat) : Int) < 200 := (ti_lt (x := r60) (y := 200) (a := (((sN σ) : Nat) : Int)) (b := 200) w60 rfl).mp c111_61
                      refine lv_aload_n hx hb dX1_order_117 rfl (lv_at hl 1 rfl) ?_
                      refine va_get (D := G.1) (ci := 2) (v := .ref a.2.1) (own := RX1) (C := RX1) (T := TX1) (N := 6) hx hb hts hiX1 hown hK.1 hP 0 rfl rfl 0 (by decide) lf10 (fun _ h9 => h9) rfl dX1_order_118 ?_
                      refine va_new (ci := 1) (fs := [.int 0, .int 0, .int 0, .int 0, .long 0, .long 0, .long 0, .long 0, .int 0]) (own := RX1) (C := RX0) (T := TX0) (N := 9) hx hb hts hiX0 tyX0 tyX0_ok hown (hts (.classLink RX1 56 RX0) (by decide +kernel)) (hts (.instantiable RX0 9) (by decide +kernel)) (hts (.initialized RX0) (by decide +kernel)) hK.1 hP hD hS hA rfl (fun j hj => by rcases (show j = 0 ∨ j = 1 ∨ j = 2 ∨ j = 3 ∨ j = 4 ∨ j = 5 ∨ j = 6 ∨ j = 7 ∨ j = 8 by omega) with rfl | rfl | rfl | rfl | rfl | rfl | rfl | rfl | rfl <;> rfl) (Nat.le_of_ble_eq_true rfl) (Nat.le_of_ble_eq_true rfl) dX1_order_121 (fun qn H hP hD hS => ?_)
                      have hP : va_P G.1 vwCl ((CW G a (nI (sG σ).length) (sT σ) (sR σ) κ.2.2.2.2.2.1 κ.2.2.2.2.2.2 (pO κ.2.2.2.2.1 (sO σ) (sN σ)) (LW G a.2.1 κ.1 κ.2.1 κ.2.2.1 κ.2.2.2.1 (sN σ))) ++ [(qn, .inr (1, [.int 0, .int 0, .int 0, .int 0, .long 0, .long 0, .long 0, .long 0, .int 0]))]) H := hP
                      have hD : va_D A ((CW G a (nI (sG σ).length) (sT σ) (sR σ) κ.2.2.2.2.2.1 κ.2.2.2.2.2.2 (pO κ.2.2.2.2.1 (sO σ) (sN σ)) (LW G a.2.1 κ.1 κ.2.1 κ.2.2.1 κ.2.2.2.1 (sN σ))) ++ [(qn, .inr (1, [.int 0, .int 0, .int 0, .int 0, .long 0, .long 0, .long 0, .long 0, .int 0]))]) := hD
                      refine lv_dup hx hb dX1_order_124 rfl ?_
                      refine lv_iload_n hx hb dX1_order_125 rfl (lv_at hl 2 rfl) ?_
                      refine lv_iload_n hx hb dX1_order_126 rfl (lv_at hl 3 rfl) ?_
                      refine lv_iload_n hx hb dX1_order_127 rfl (lv_at hl 4 rfl) ?_
                      refine lv_iload hx hb dX1_order_128 (lv_at hl 5 rfl) ?_
                      refine lv_lload hx hb dX1_order_130 (lv_at hl 6 rfl) ?_
                      refine lv_lload hx hb dX1_order_132 (lv_at hl 7 rfl) ?_
                      refine lv_aload_n hx hb dX1_order_134 rfl (lv_at hl 1 rfl) ?_
                      refine va_get (D := G.1) (ci := 2) (v := .long (sT σ)) (own := RX1) (C := RX1) (T := TX1) (N := 6) hx hb hts hiX1 hown hK.1 hP 0 rfl rfl 5 (by decide) lf30 (fun _ h9 => h9) rfl dX1_order_135 ?_
                      refine wrI_v (wr := (CW G a (nI (sG σ).length) (sT σ) (sR σ) κ.2.2.2.2.2.1 κ.2.2.2.2.2.2 (pO κ.2.2.2.2.1 (sO σ) (sN σ)) (LW G a.2.1 κ.1 κ.2.1 κ.2.2.1 κ.2.2.2.1 (sN σ)))) (b := qn) (As := [.int kd, .int en, .int wh, .int to, .long fr, .long un, .long (sT σ)]) (rest := [.ref qn, .ref a.2.1]) ⟨hx, hb, hml, hown, hts⟩ (c_X0_init l G qn kd en wh to fr un (sT σ)) cw58 hK hZ hP hD hS hA rfl hl.1 rfl (Nat.le_of_ble_eq_true rfl) dX1_order_138 ⟨(Nat.le_of_ble_eq_true rfl), (Nat.le_of_ble_eq_true rfl)⟩ (fun _ H locs _ hP hD hS => ?_)
                      have hP : va_P G.1 vwCl ((CW G a (nI (sG σ).length) (sT σ) (sR σ) κ.2.2.2.2.2.1 κ.2.2.2.2.2.2 (pO κ.2.2.2.2.1 (sO σ) (sN σ)) (LW G a.2.1 κ.1 κ.2.1 κ.2.2.1 κ.2.2.2.1 (sN σ))) ++ [(qn, .inr (1, fl (kd, en, wh, to, fr, sT σ, un, 20001, 0)))]) H := hP
                      have hD : va_D A ((CW G a (nI (sG σ).length) (sT σ) (sR σ) κ.2.2.2.2.2.1 κ.2.2.2.2.2.2 (pO κ.2.2.2.2.1 (sO σ) (sN σ)) (LW G a.2.1 κ.1 κ.2.1 κ.2.2.1 κ.2.2.2.1 (sN σ))) ++ [(qn, .inr (1, fl (kd, en, wh, to, fr, sT σ, un, 20001, 0)))]) := hD
                      have tail : ∀ (ux : Int32 × Nat × Nat × (Nat → Option Nat)) (r : Int32) (H : Heap) (locs : List Loc), sN σ + 1 ≤ ux.2.2.1 → ux.2.2.1 ≤ 400 → ux.2.2.2 (sN σ) = some qn → (∀ i, i < sN σ → ux.2.2.2 i = some (κ.2.2.2.2.1 i)) → va_P G.1 vwCl ((CX G a (nI (sG σ).length) (sT σ) (sR σ) κ.2.2.2.2.2.1 κ.2.2.2.2.2.2) ++ ([(a.2.1, .inr (0, [.int ux.1, .ref ux.2.1, .int (nI (sN σ + 1))])), aO G ux.2.1 ux.2.2.1 ux.2.2.2] ++ ((pO κ.2.2.2.2.1 (sO σ) (sN σ)) ++ [(qn, Sum.inr (1, fl (kd, en, wh, to, fr, sT σ, un, 20001, 0)))] : va_W))) H → va_D A ((CX G a (nI (sG σ).length) (sT σ) (sR σ) κ.2.2.2.2.2.1 κ.2.2.2.2.2.2) ++ ([(a.2.1, .inr (0, [.int ux.1, .ref ux.2.1, .int (nI (sN σ + 1))])), aO G ux.2.1 ux.2.2.1 ux.2.2.2] ++ ((pO κ.2.2.2.2.1 (sO σ) (sN σ)) ++ [(qn, Sum.inr (1, fl (kd, en, wh, to, fr, sT σ, un, 20001, 0)))] : va_W))) → va_S A s.heap H locs → W p l e (rmX 7 280 2 409) s m args below meth c H locs (0 + 1 + 0 + 1) (0 + 9 + 0 + 400) Q (F0 m 144 ls [.int r]) := by
                        intro ux r H locs g1 g2 g3 g4 hP hD hS
                        have hP := back_P hP
                        have hD := back_D hD
                        rw [pO_push, ← LW_pos (G := G) (h := a.2.1) (md := ux.1) (a2 := ux.2.1) (N := ux.2.2.1) (f := ux.2.2.2) (n := sN σ + 1) (by omega)] at hP hD
                        have hP : va_P G.1 vwCl (CW G a (nI (sG σ).length) (sT σ) (sR σ) κ.2.2.2.2.2.1 κ.2.2.2.2.2.2 (pO (kNew κ ux (sN σ) qn).2.2.2.2.1 (va_up (sO σ) (sN σ) (kd, en, wh, to, fr, sT σ, un, 20001, 0)) (sN σ + 1)) (LW G a.2.1 (kNew κ ux (sN σ) qn).1 (kNew κ ux (sN σ) qn).2.1 (kNew κ ux (sN σ) qn).2.2.1 (kNew κ ux (sN σ) qn).2.2.2.1 (sN σ + 1))) H := hP
                        have hD : va_D A (CW G a (nI (sG σ).length) (sT σ) (sR σ) κ.2.2.2.2.2.1 κ.2.2.2.2.2.2 (pO (kNew κ ux (sN σ) qn).2.2.2.2.1 (va_up (sO σ) (sN σ) (kd, en, wh, to, fr, sT σ, un, 20001, 0)) (sN σ + 1)) (LW G a.2.1 (kNew κ ux (sN σ) qn).1 (kNew κ ux (sN σ) qn).2.1 (kNew κ ux (sN σ) qn).2.2.1 (kNew κ ux (sN σ) qn).2.2.2.1 (sN σ + 1))) := hD
                        refine lv_pop hx hb dX1_order_144 rfl ?_
                        refine lv_aload_n hx hb dX1_order_145 rfl (lv_at hl 1 rfl) ?_
                        refine va_get (D := G.1) (ci := 2) (v := .ref a.2.1) (own := RX1) (C := RX1) (T := TX1) (N := 6) hx hb hts hiX1 hown hK.1 hP 0 rfl rfl 0 (by decide) lf10 (fun _ h9 => h9) rfl dX1_order_146 ?_
                        refine rdV_i (b := a.2.1) (As := []) (rest := []) ⟨hx, hb, hml, hown, hts⟩ (c_Jx4a65c_size_8abf5 l G a.2.1 (kNew κ ux (sN σ) qn).1 (nI (sN σ + 1)) _) cw52 hK (LW_one (CW_list hP)) 0 rfl rfl rfl rfl hl.1 rfl (Nat.le_of_ble_eq_true rfl) dX1_order_149 ⟨Nat.le_of_ble_eq_true rfl, Nat.le_of_ble_eq_true rfl⟩ (fun r62 w62 => ?_)
                        have w62 : r62.toInt = (((sN σ + 1) : Nat) : Int) := by rw [w62]; exact ti_nI (by omega)
                        have hF : fOrder σ kd en wh to fr un = (nI (sN σ + 1), (sN σ + 1, va_up (sO σ) (sN σ) (kd, en, wh, to, fr, sT σ, un, 20001, 0), sT σ, sR σ, sG σ)) := (if_neg (by omega)).trans ((if_neg (by omega)).trans (if_neg (by omega)))
                        obtain rfl : r62 = nI (sN σ + 1) := nI_ofI w62
                        exact hret _ _ _ _ _ _ _ (kNew κ ux (sN σ) qn) dX1_order_152 (Or.inr (Or.inr rfl)) (by rw [hF]; exact ⟨rfl, CI_new hC g1 g2 g3 g4⟩) (by rw [hF]; exact hP) (by rw [hF]; exact hD) hS (Nat.le_of_ble_eq_true rfl) (Nat.le_of_ble_eq_true rfl)
                      have hP := ord_P (x := (CX G a (nI (sG σ).length) (sT σ) (sR σ) κ.2.2.2.2.2.1 κ.2.2.2.2.2.2)) hP
                      have hD := ord_D (x := (CX G a (nI (sG σ).length) (sT σ) (sR σ) κ.2.2.2.2.2.1 κ.2.2.2.2.2.2)) hD
                      rcases Nat.eq_zero_or_pos (sN σ) with hz | hz
                      · rw [LW_zero hz] at hP hD
                        refine wrV_i (wr := (CX G a (nI (sG σ).length) (sT σ) (sR σ) κ.2.2.2.2.2.1 κ.2.2.2.2.2.2)) (b := a.2.1) (As := [.ref qn]) (rest := []) ⟨hx, hb, hml, hown, hts⟩ (c_Jx4a65c_add_9ea2d_0 l G a.2.1 qn κ.1 ((pO κ.2.2.2.2.1 (sO σ) (sN σ)) ++ [(qn, Sum.inr (1, fl (kd, en, wh, to, fr, sT σ, un, 20001, 0)))] : va_W) (sN σ) (fl (kd, en, wh, to, fr, sT σ, un, 20001, 0)) tl_new) cw61 hK hZ hP hD hS hA 0 rfl rfl rfl rfl hl.1 rfl (Nat.le_of_ble_eq_true rfl) dX1_order_141 ⟨(Nat.le_of_ble_eq_true rfl), (Nat.le_of_ble_eq_true rfl)⟩ (fun r u H locs wu hP hD hS => ?_)
                        obtain ⟨g1, g2, g3⟩ := wu
                        exact tail u r H locs (by rw [hz]; exact g1) g2 (by rw [hz]; exact g3) (fun i hi => absurd hi (by omega)) (by rw [hz] at hP ⊢; exact hP) (by rw [hz] at hD ⊢; exact hD) hS
                      · obtain ⟨k1, k2, k3⟩ := hC.1 hz
                        rw [LW_pos (show sN σ ≠ 0 by omega)] at hP hD
                        rcases Nat.lt_or_ge (sN σ) κ.2.2.1 with hnN | hnN
                        · refine wrV_i (wr := (CX G a (nI (sG σ).length) (sT σ) (sR σ) κ.2.2.2.2.2.1 κ.2.2.2.2.2.2)) (b := a.2.1) (As := [.ref qn]) (rest := []) ⟨hx, hb, hml, hown, hts⟩ (c_Jx4a65c_add_9ea2d_s l G a.2.1 qn κ.1 κ.2.1 (sN σ) κ.2.2.1 κ.2.2.2.1 hz hnN k2 hI1 ((pO κ.2.2.2.2.1 (sO σ) (sN σ)) ++ [(qn, Sum.inr (1, fl (kd, en, wh, to, fr, sT σ, un, 20001, 0)))] : va_W) (sN σ) (fl (kd, en, wh, to, fr, sT σ, un, 20001, 0)) tl_new) cw61 hK hZ hP hD hS hA 0 rfl rfl rfl rfl hl.1 rfl (Nat.le_of_ble_eq_true rfl) dX1_order_141 ⟨(Nat.le_of_ble_eq_true rfl), (Nat.le_of_ble_eq_true rfl)⟩ (fun r u H locs wu hP hD hS => ?_)
                          obtain ⟨g1, g2, g3, g4⟩ := wu
                          exact tail u r H locs g1 g2 g3 (fun i hi => (g4 i hi).trans (k3 i hi)) hP hD hS
                        · have eN : κ.2.2.1 = sN σ := by omega
                          rw [eN] at hP hD
                          refine wrV_i (wr := (CX G a (nI (sG σ).length) (sT σ) (sR σ) κ.2.2.2.2.2.1 κ.2.2.2.2.2.2)) (b := a.2.1) (As := [.ref qn]) (rest := []) ⟨hx, hb, hml, hown, hts⟩ (c_Jx4a65c_add_9ea2d_g l G a.2.1 qn κ.1 κ.2.1 (sN σ) κ.2.2.2.1 hz hI1 ((pO κ.2.2.2.2.1 (sO σ) (sN σ)) ++ [(qn, Sum.inr (1, fl (kd, en, wh, to, fr, sT σ, un, 20001, 0)))] : va_W) (fun i hi => ⟨_, i, _, k3 i hi, tl_get hi⟩) (sN σ) (fl (kd, en, wh, to, fr, sT σ, un, 20001, 0)) tl_new) cw61 hK hZ hP hD hS hA 0 rfl rfl rfl rfl hl.1 rfl (Nat.le_of_ble_eq_true rfl) dX1_order_141 ⟨(Nat.le_of_ble_eq_true rfl), (Nat.le_of_ble_eq_true rfl)⟩ (fun r u H locs wu hP hD hS => ?_)
                          obtain ⟨g1, g2, g3, g4⟩ := wu
                          exact tail u r H locs g1 g2 g3 (fun i hi => (g4 i hi).trans (k3 i hi)) hP hD hS
                    · have c111_61 : ¬ ((((sN σ) : Nat) : Int) < 200) := mt (ti_lt (x := r60) (y := 200) (a := (((sN σ) : Nat) : Int)) (b := 200) w60 rfl).mpr c111_61
                      refine lv_bipush (v := (-104)) hx hb dX1_order_114 (by decide) ?_
                      have hF : fOrder σ kd en wh to fr un = ((-104), σ) := (if_neg (by omega)).trans ((if_neg (by omega)).trans (if_pos (by omega)))
                      exact hret _ _ _ _ _ _ _ κ dX1_order_116 (Or.inr (Or.inr rfl)) (by rw [hF]; exact ⟨rfl, hC⟩) (by rw [hF]; exact hP) (by rw [hF]; exact hD) hS (Nat.zero_le _) (Nat.zero_le _)
    · have c11_33 : (r8_32).toInt = 0 := (ti_eq (x := r8_32) (y := 0) (a := (r8_32).toInt) (b := 0) rfl rfl).mp c11_33
      refine lv_iconst (v := 1) hx hb dX1_order_14 (by decide) ?_
      refine lv_goto (tgt := 19) hx hb dX1_order_15 (by decide) ?_
      refine lv_istore (lv' := [(9, .int 1), (0, .ref a.1), (1, .int kd), (2, .int en), (3, .int wh), (4, .int to), (5, .long fr), (7, .long un)]) hx hb dX1_order_19 hl (by decide) rfl (fun ls hl => ?_)
      refine lv_iload_n hx hb dX1_order_21 rfl (lv_at hl 3 rfl) ?_
      refine rdS_i (As := [.int en]) (rest := []) ⟨hx, hb, hml, hown, hts⟩ (c_X1_isAddress l G en) cw42 hK va_P.nil rfl hl.1 rfl (Nat.le_of_ble_eq_true rfl) dX1_order_22 ⟨Nat.zero_le _, Nat.zero_le _⟩ (fun r22_63 w22_63 => ?_)
      have w22_63 : ((r22_63.toInt = 1 ∧ (1 ≤ (en).toInt ∧ (en).toInt ≤ 99)) ∨ (r22_63.toInt = 0 ∧ ¬ (1 ≤ (en).toInt ∧ (en).toInt ≤ 99))) := w22_63
      refine lv_if_eq (tgt := 53) hx hb dX1_order_25 (by decide) (fun c25_64 => ?_) (fun c25_64 => ?_)
      · have c25_64 : (r22_63).toInt = 0 := (ti_eq (x := r22_63) (y := 0) (a := (r22_63).toInt) (b := 0) rfl rfl).mp c25_64
        refine lv_bipush (v := (-101)) hx hb dX1_order_53 (by decide) ?_
        have hF : fOrder σ kd en wh to fr un = ((-101), σ) := if_pos (by omega)
        exact hret _ _ _ _ _ _ _ κ dX1_order_55 (Or.inr (Or.inr rfl)) (by rw [hF]; exact ⟨rfl, hC⟩) (by rw [hF]; exact hP) (by rw [hF]; exact hD) hS (Nat.zero_le _) (Nat.zero_le _)
      · have c25_64 : ¬ ((r22_63).toInt = 0) := mt (ti_eq (x := r22_63) (y := 0) (a := (r22_63).toInt) (b := 0) rfl rfl).mpr c25_64
        refine lv_iload_n hx hb dX1_order_28 rfl (lv_at hl 4 rfl) ?_
        refine lv_iconst (v := (-1)) hx hb dX1_order_29 (by decide) ?_
        refine lv_icmp_eq (tgt := 40) hx hb dX1_order_30 (by decide) (fun c30_65 => ?_) (fun c30_65 => ?_)
        · have c30_65 : (wh).toInt = (-1) := (ti_eq (x := wh) (y := (-1)) (a := (wh).toInt) (b := (-1)) rfl rfl).mp c30_65
          refine lv_iload hx hb dX1_order_40 (lv_at hl 0 rfl) ?_
          refine lv_if_eq (tgt := 56) hx hb dX1_order_42 (by decide) (fun c42_66 => absurd c42_66 (by decide)) (fun _ => ?_)
          refine lv_iload hx hb dX1_order_45 (lv_at hl 5 rfl) ?_
          refine rdS_i (As := [.int to]) (rest := []) ⟨hx, hb, hml, hown, hts⟩ (c_X1_isAddress l G to) cw42 hK va_P.nil rfl hl.1 rfl (Nat.le_of_ble_eq_true rfl) dX1_order_47 ⟨Nat.zero_le _, Nat.zero_le _⟩ (fun r47_67 w47_67 => ?_)
          have w47_67 : ((r47_67.toInt = 1 ∧ (1 ≤ (to).toInt ∧ (to).toInt ≤ 99)) ∨ (r47_67.toInt = 0 ∧ ¬ (1 ≤ (to).toInt ∧ (to).toInt ≤ 99))) := w47_67
          refine lv_if_ne (tgt := 56) hx hb dX1_order_50 (by decide) (fun c50_68 => ?_) (fun c50_68 => ?_)
          · have c50_68 : ¬ ((r47_67).toInt = 0) := mt (ti_eq (x := r47_67) (y := 0) (a := (r47_67).toInt) (b := 0) rfl rfl).mpr c50_68
            refine lv_iload_n hx hb dX1_order_56 rfl (lv_at hl 2 rfl) ?_
            refine rdS_i (As := [.int kd]) (rest := []) ⟨hx, hb, hml, hown, hts⟩ (c_X1_isKind l G kd) cw34 hK va_P.nil rfl hl.1 rfl (Nat.le_of_ble_eq_true rfl) dX1_order_57 ⟨Nat.zero_le _, Nat.zero_le _⟩ (fun r57_69 w57_69 => ?_)
            have w57_69 : ((r57_69.toInt = 1 ∧ (0 ≤ (kd).toInt ∧ (kd).toInt < 9)) ∨ (r57_69.toInt = 0 ∧ ¬ (0 ≤ (kd).toInt ∧ (kd).toInt < 9))) := w57_69
            refine lv_if_eq (tgt := 98) hx hb dX1_order_60 (by decide) (fun c60_70 => ?_) (fun c60_70 => ?_)
            · have c60_70 : (r57_69).toInt = 0 := (ti_eq (x := r57_69) (y := 0) (a := (r57_69).toInt) (b := 0) rfl rfl).mp c60_70
              refine lv_bipush (v := (-102)) hx hb dX1_order_98 (by decide) ?_
              have hF : fOrder σ kd en wh to fr un = ((-102), σ) := (if_neg (by omega)).trans (if_pos (by omega))
              exact hret _ _ _ _ _ _ _ κ dX1_order_100 (Or.inr (Or.inr rfl)) (by rw [hF]; exact ⟨rfl, hC⟩) (by rw [hF]; exact hP) (by rw [hF]; exact hD) hS (Nat.zero_le _) (Nat.zero_le _)
            · have c60_70 : ¬ ((r57_69).toInt = 0) := mt (ti_eq (x := r57_69) (y := 0) (a := (r57_69).toInt) (b := 0) rfl rfl).mpr c60_70
              refine lv_lload hx hb dX1_order_63 (lv_at hl 6 rfl) ?_
              refine rdS_i (As := [.long fr]) (rest := []) ⟨hx, hb, hml, hown, hts⟩ (c_X1_isDay l G fr) cw48 hK va_P.nil rfl hl.1 rfl (Nat.le_of_ble_eq_true rfl) dX1_order_65 ⟨Nat.zero_le _, Nat.zero_le _⟩ (fun r65_71 w65_71 => ?_)
              have w65_71 : ((r65_71.toInt = 1 ∧ (0 ≤ (fr).toInt ∧ (fr).toInt ≤ 20000)) ∨ (r65_71.toInt = 0 ∧ ¬ (0 ≤ (fr).toInt ∧ (fr).toInt ≤ 20000))) := w65_71
              refine lv_if_eq (tgt := 98) hx hb dX1_order_68 (by decide) (fun c68_72 => ?_) (fun c68_72 => ?_)
              · have c68_72 : (r65_71).toInt = 0 := (ti_eq (x := r65_71) (y := 0) (a := (r65_71).toInt) (b := 0) rfl rfl).mp c68_72
                refine lv_bipush (v := (-102)) hx hb dX1_order_98 (by decide) ?_
                have hF : fOrder σ kd en wh to fr un = ((-102), σ) := (if_neg (by omega)).trans (if_pos (by omega))
                exact hret _ _ _ _ _ _ _ κ dX1_order_100 (Or.inr (Or.inr rfl)) (by rw [hF]; exact ⟨rfl, hC⟩) (by rw [hF]; exact hP) (by rw [hF]; exact hD) hS (Nat.zero_le _) (Nat.zero_le _)
              · have c68_72 : ¬ ((r65_71).toInt = 0) := mt (ti_eq (x := r65_71) (y := 0) (a := (r65_71).toInt) (b := 0) rfl rfl).mpr c68_72
                refine lv_lload hx hb dX1_order_71 (lv_at hl 7 rfl) ?_
                refine rdS_i (As := [.long un]) (rest := []) ⟨hx, hb, hml, hown, hts⟩ (c_X1_isDay l G un) cw48 hK va_P.nil rfl hl.1 rfl (Nat.le_of_ble_eq_true rfl) dX1_order_73 ⟨Nat.zero_le _, Nat.zero_le _⟩ (fun r73_73 w73_73 => ?_)
                have w73_73 : ((r73_73.toInt = 1 ∧ (0 ≤ (un).toInt ∧ (un).toInt ≤ 20000)) ∨ (r73_73.toInt = 0 ∧ ¬ (0 ≤ (un).toInt ∧ (un).toInt ≤ 20000))) := w73_73
                refine lv_if_eq (tgt := 98) hx hb dX1_order_76 (by decide) (fun c76_74 => ?_) (fun c76_74 => ?_)
                · have c76_74 : (r73_73).toInt = 0 := (ti_eq (x := r73_73) (y := 0) (a := (r73_73).toInt) (b := 0) rfl rfl).mp c76_74
                  refine lv_bipush (v := (-102)) hx hb dX1_order_98 (by decide) ?_
                  have hF : fOrder σ kd en wh to fr un = ((-102), σ) := (if_neg (by omega)).trans (if_pos (by omega))
                  exact hret _ _ _ _ _ _ _ κ dX1_order_100 (Or.inr (Or.inr rfl)) (by rw [hF]; exact ⟨rfl, hC⟩) (by rw [hF]; exact hP) (by rw [hF]; exact hD) hS (Nat.zero_le _) (Nat.zero_le _)
                · have c76_74 : ¬ ((r73_73).toInt = 0) := mt (ti_eq (x := r73_73) (y := 0) (a := (r73_73).toInt) (b := 0) rfl rfl).mpr c76_74
                  refine lv_lload hx hb dX1_order_79 (lv_at hl 7 rfl) ?_
                  refine lv_lload hx hb dX1_order_81 (lv_at hl 6 rfl) ?_
                  refine lc_lt (tgt := 98) hx hb dX1_order_83 dX1_order_84 (by decide) (fun c83_75 => ?_) (fun c83_75 => ?_)
                  · have c83_75 : (un).toInt < (fr).toInt := (tl_lt (x := un) (y := fr) (a := (un).toInt) (b := (fr).toInt) rfl rfl).mp c83_75
                    refine lv_bipush (v := (-102)) hx hb dX1_order_98 (by decide) ?_
                    have hF : fOrder σ kd en wh to fr un = ((-102), σ) := (if_neg (by omega)).trans (if_pos (by omega))
                    exact hret _ _ _ _ _ _ _ κ dX1_order_100 (Or.inr (Or.inr rfl)) (by rw [hF]; exact ⟨rfl, hC⟩) (by rw [hF]; exact hP) (by rw [hF]; exact hD) hS (Nat.zero_le _) (Nat.zero_le _)
                  · have c83_75 : ¬ ((un).toInt < (fr).toInt) := mt (tl_lt (x := un) (y := fr) (a := (un).toInt) (b := (fr).toInt) rfl rfl).mpr c83_75
                    refine lv_iload hx hb dX1_order_87 (lv_at hl 0 rfl) ?_
                    refine lv_if_eq (tgt := 101) hx hb dX1_order_89 (by decide) (fun c89_76 => absurd c89_76 (by decide)) (fun _ => ?_)
                    refine lv_iload hx hb dX1_order_92 (lv_at hl 5 rfl) ?_
                    refine lv_iload_n hx hb dX1_order_94 rfl (lv_at hl 3 rfl) ?_
                    refine lv_icmp_ne (tgt := 101) hx hb dX1_order_95 (by decide) (fun c95_77 => ?_) (fun c95_77 => ?_)
                    · have c95_77 : ¬ ((to).toInt = (en).toInt) := mt (ti_eq (x := to) (y := en) (a := (to).toInt) (b := (en).toInt) rfl rfl).mpr c95_77
                      refine lv_aload_n hx hb dX1_order_101 rfl (lv_at hl 1 rfl) ?_
                      refine va_get (D := G.1) (ci := 2) (v := .ref a.2.1) (own := RX1) (C := RX1) (T := TX1) (N := 6) hx hb hts hiX1 hown hK.1 hP 0 rfl rfl 0 (by decide) lf10 (fun _ h9 => h9) rfl dX1_order_102 ?_
                      refine rdV_i (b := a.2.1) (As := []) (rest := []) ⟨hx, hb, hml, hown, hts⟩ (c_Jx4a65c_size_8abf5 l G a.2.1 κ.1 (nI (sN σ)) _) cw52 hK (LW_one (CW_list hP)) 0 rfl rfl rfl rfl hl.1 rfl (Nat.le_of_ble_eq_true rfl) dX1_order_105 ⟨Nat.zero_le _, Nat.zero_le _⟩ (fun r78 w78 => ?_)
                      have w78 : r78.toInt = (((sN σ) : Nat) : Int) := by rw [w78]; exact ti_nI (by omega)
                      refine lv_sipush (v := 200) hx hb dX1_order_108 (by decide) ?_
                      refine lv_icmp_lt (tgt := 117) hx hb dX1_order_111 (by decide) (fun c111_79 => ?_) (fun c111_79 => ?_)
                      · have c111_79 : (((sN σ) : Nat) : Int) < 200 := (ti_lt (x := r78) (y := 200) (a := (((sN σ) : Nat) : Int)) (b := 200) w78 rfl).mp c111_79
                        refine lv_aload_n hx hb dX1_order_117 rfl (lv_at hl 1 rfl) ?_
                        refine va_get (D := G.1) (ci := 2) (v := .ref a.2.1) (own := RX1) (C := RX1) (T := TX1) (N := 6) hx hb hts hiX1 hown hK.1 hP 0 rfl rfl 0 (by decide) lf10 (fun _ h9 => h9) rfl dX1_order_118 ?_
                        refine va_new (ci := 1) (fs := [.int 0, .int 0, .int 0, .int 0, .long 0, .long 0, .long 0, .long 0, .int 0]) (own := RX1) (C := RX0) (T := TX0) (N := 9) hx hb hts hiX0 tyX0 tyX0_ok hown (hts (.classLink RX1 56 RX0) (by decide +kernel)) (hts (.instantiable RX0 9) (by decide +kernel)) (hts (.initialized RX0) (by decide +kernel)) hK.1 hP hD hS hA rfl (fun j hj => by rcases (show j = 0 ∨ j = 1 ∨ j = 2 ∨ j = 3 ∨ j = 4 ∨ j = 5 ∨ j = 6 ∨ j = 7 ∨ j = 8 by omega) with rfl | rfl | rfl | rfl | rfl | rfl | rfl | rfl | rfl <;> rfl) (Nat.le_of_ble_eq_true rfl) (Nat.le_of_ble_eq_true rfl) dX1_order_121 (fun qn H hP hD hS => ?_)
                        have hP : va_P G.1 vwCl ((CW G a (nI (sG σ).length) (sT σ) (sR σ) κ.2.2.2.2.2.1 κ.2.2.2.2.2.2 (pO κ.2.2.2.2.1 (sO σ) (sN σ)) (LW G a.2.1 κ.1 κ.2.1 κ.2.2.1 κ.2.2.2.1 (sN σ))) ++ [(qn, .inr (1, [.int 0, .int 0, .int 0, .int 0, .long 0, .long 0, .long 0, .long 0, .int 0]))]) H := hP
                        have hD : va_D A ((CW G a (nI (sG σ).length) (sT σ) (sR σ) κ.2.2.2.2.2.1 κ.2.2.2.2.2.2 (pO κ.2.2.2.2.1 (sO σ) (sN σ)) (LW G a.2.1 κ.1 κ.2.1 κ.2.2.1 κ.2.2.2.1 (sN σ))) ++ [(qn, .inr (1, [.int 0, .int 0, .int 0, .int 0, .long 0, .long 0, .long 0, .long 0, .int 0]))]) := hD
                        refine lv_dup hx hb dX1_order_124 rfl ?_
                        refine lv_iload_n hx hb dX1_order_125 rfl (lv_at hl 2 rfl) ?_
                        refine lv_iload_n hx hb dX1_order_126 rfl (lv_at hl 3 rfl) ?_
                        refine lv_iload_n hx hb dX1_order_127 rfl (lv_at hl 4 rfl) ?_
                        refine lv_iload hx hb dX1_order_128 (lv_at hl 5 rfl) ?_
                        refine lv_lload hx hb dX1_order_130 (lv_at hl 6 rfl) ?_
                        refine lv_lload hx hb dX1_order_132 (lv_at hl 7 rfl) ?_
                        refine lv_aload_n hx hb dX1_order_134 rfl (lv_at hl 1 rfl) ?_
                        refine va_get (D := G.1) (ci := 2) (v := .long (sT σ)) (own := RX1) (C := RX1) (T := TX1) (N := 6) hx hb hts hiX1 hown hK.1 hP 0 rfl rfl 5 (by decide) lf30 (fun _ h9 => h9) rfl dX1_order_135 ?_
                        refine wrI_v (wr := (CW G a (nI (sG σ).length) (sT σ) (sR σ) κ.2.2.2.2.2.1 κ.2.2.2.2.2.2 (pO κ.2.2.2.2.1 (sO σ) (sN σ)) (LW G a.2.1 κ.1 κ.2.1 κ.2.2.1 κ.2.2.2.1 (sN σ)))) (b := qn) (As := [.int kd, .int en, .int wh, .int to, .long fr, .long un, .long (sT σ)]) (rest := [.ref qn, .ref a.2.1]) ⟨hx, hb, hml, hown, hts⟩ (c_X0_init l G qn kd en wh to fr un (sT σ)) cw58 hK hZ hP hD hS hA rfl hl.1 rfl (Nat.le_of_ble_eq_true rfl) dX1_order_138 ⟨(Nat.le_of_ble_eq_true rfl), (Nat.le_of_ble_eq_true rfl)⟩ (fun _ H locs _ hP hD hS => ?_)
                        have hP : va_P G.1 vwCl ((CW G a (nI (sG σ).length) (sT σ) (sR σ) κ.2.2.2.2.2.1 κ.2.2.2.2.2.2 (pO κ.2.2.2.2.1 (sO σ) (sN σ)) (LW G a.2.1 κ.1 κ.2.1 κ.2.2.1 κ.2.2.2.1 (sN σ))) ++ [(qn, .inr (1, fl (kd, en, wh, to, fr, sT σ, un, 20001, 0)))]) H := hP
                        have hD : va_D A ((CW G a (nI (sG σ).length) (sT σ) (sR σ) κ.2.2.2.2.2.1 κ.2.2.2.2.2.2 (pO κ.2.2.2.2.1 (sO σ) (sN σ)) (LW G a.2.1 κ.1 κ.2.1 κ.2.2.1 κ.2.2.2.1 (sN σ))) ++ [(qn, .inr (1, fl (kd, en, wh, to, fr, sT σ, un, 20001, 0)))]) := hD
                        have tail : ∀ (ux : Int32 × Nat × Nat × (Nat → Option Nat)) (r : Int32) (H : Heap) (locs : List Loc), sN σ + 1 ≤ ux.2.2.1 → ux.2.2.1 ≤ 400 → ux.2.2.2 (sN σ) = some qn → (∀ i, i < sN σ → ux.2.2.2 i = some (κ.2.2.2.2.1 i)) → va_P G.1 vwCl ((CX G a (nI (sG σ).length) (sT σ) (sR σ) κ.2.2.2.2.2.1 κ.2.2.2.2.2.2) ++ ([(a.2.1, .inr (0, [.int ux.1, .ref ux.2.1, .int (nI (sN σ + 1))])), aO G ux.2.1 ux.2.2.1 ux.2.2.2] ++ ((pO κ.2.2.2.2.1 (sO σ) (sN σ)) ++ [(qn, Sum.inr (1, fl (kd, en, wh, to, fr, sT σ, un, 20001, 0)))] : va_W))) H → va_D A ((CX G a (nI (sG σ).length) (sT σ) (sR σ) κ.2.2.2.2.2.1 κ.2.2.2.2.2.2) ++ ([(a.2.1, .inr (0, [.int ux.1, .ref ux.2.1, .int (nI (sN σ + 1))])), aO G ux.2.1 ux.2.2.1 ux.2.2.2] ++ ((pO κ.2.2.2.2.1 (sO σ) (sN σ)) ++ [(qn, Sum.inr (1, fl (kd, en, wh, to, fr, sT σ, un, 20001, 0)))] : va_W))) → va_S A s.heap H locs → W p l e (rmX 7 280 2 409) s m args below meth c H locs (0 + 1 + 0 + 1) (0 + 9 + 0 + 400) Q (F0 m 144 ls [.int r]) := by
                          intro ux r H locs g1 g2 g3 g4 hP hD hS
                          have hP := back_P hP
                          have hD := back_D hD
                          rw [pO_push, ← LW_pos (G := G) (h := a.2.1) (md := ux.1) (a2 := ux.2.1) (N := ux.2.2.1) (f := ux.2.2.2) (n := sN σ + 1) (by omega)] at hP hD
                          have hP : va_P G.1 vwCl (CW G a (nI (sG σ).length) (sT σ) (sR σ) κ.2.2.2.2.2.1 κ.2.2.2.2.2.2 (pO (kNew κ ux (sN σ) qn).2.2.2.2.1 (va_up (sO σ) (sN σ) (kd, en, wh, to, fr, sT σ, un, 20001, 0)) (sN σ + 1)) (LW G a.2.1 (kNew κ ux (sN σ) qn).1 (kNew κ ux (sN σ) qn).2.1 (kNew κ ux (sN σ) qn).2.2.1 (kNew κ ux (sN σ) qn).2.2.2.1 (sN σ + 1))) H := hP
                          have hD : va_D A (CW G a (nI (sG σ).length) (sT σ) (sR σ) κ.2.2.2.2.2.1 κ.2.2.2.2.2.2 (pO (kNew κ ux (sN σ) qn).2.2.2.2.1 (va_up (sO σ) (sN σ) (kd, en, wh, to, fr, sT σ, un, 20001, 0)) (sN σ + 1)) (LW G a.2.1 (kNew κ ux (sN σ) qn).1 (kNew κ ux (sN σ) qn).2.1 (kNew κ ux (sN σ) qn).2.2.1 (kNew κ ux (sN σ) qn).2.2.2.1 (sN σ + 1))) := hD
                          refine lv_pop hx hb dX1_order_144 rfl ?_
                          refine lv_aload_n hx hb dX1_order_145 rfl (lv_at hl 1 rfl) ?_
                          refine va_get (D := G.1) (ci := 2) (v := .ref a.2.1) (own := RX1) (C := RX1) (T := TX1) (N := 6) hx hb hts hiX1 hown hK.1 hP 0 rfl rfl 0 (by decide) lf10 (fun _ h9 => h9) rfl dX1_order_146 ?_
                          refine rdV_i (b := a.2.1) (As := []) (rest := []) ⟨hx, hb, hml, hown, hts⟩ (c_Jx4a65c_size_8abf5 l G a.2.1 (kNew κ ux (sN σ) qn).1 (nI (sN σ + 1)) _) cw52 hK (LW_one (CW_list hP)) 0 rfl rfl rfl rfl hl.1 rfl (Nat.le_of_ble_eq_true rfl) dX1_order_149 ⟨Nat.le_of_ble_eq_true rfl, Nat.le_of_ble_eq_true rfl⟩ (fun r80 w80 => ?_)
                          have w80 : r80.toInt = (((sN σ + 1) : Nat) : Int) := by rw [w80]; exact ti_nI (by omega)
                          have hF : fOrder σ kd en wh to fr un = (nI (sN σ + 1), (sN σ + 1, va_up (sO σ) (sN σ) (kd, en, wh, to, fr, sT σ, un, 20001, 0), sT σ, sR σ, sG σ)) := (if_neg (by omega)).trans ((if_neg (by omega)).trans (if_neg (by omega)))
                          obtain rfl : r80 = nI (sN σ + 1) := nI_ofI w80
                          exact hret _ _ _ _ _ _ _ (kNew κ ux (sN σ) qn) dX1_order_152 (Or.inr (Or.inr rfl)) (by rw [hF]; exact ⟨rfl, CI_new hC g1 g2 g3 g4⟩) (by rw [hF]; exact hP) (by rw [hF]; exact hD) hS (Nat.le_of_ble_eq_true rfl) (Nat.le_of_ble_eq_true rfl)
                        have hP := ord_P (x := (CX G a (nI (sG σ).length) (sT σ) (sR σ) κ.2.2.2.2.2.1 κ.2.2.2.2.2.2)) hP
                        have hD := ord_D (x := (CX G a (nI (sG σ).length) (sT σ) (sR σ) κ.2.2.2.2.2.1 κ.2.2.2.2.2.2)) hD
                        rcases Nat.eq_zero_or_pos (sN σ) with hz | hz
                        · rw [LW_zero hz] at hP hD
                          refine wrV_i (wr := (CX G a (nI (sG σ).length) (sT σ) (sR σ) κ.2.2.2.2.2.1 κ.2.2.2.2.2.2)) (b := a.2.1) (As := [.ref qn]) (rest := []) ⟨hx, hb, hml, hown, hts⟩ (c_Jx4a65c_add_9ea2d_0 l G a.2.1 qn κ.1 ((pO κ.2.2.2.2.1 (sO σ) (sN σ)) ++ [(qn, Sum.inr (1, fl (kd, en, wh, to, fr, sT σ, un, 20001, 0)))] : va_W) (sN σ) (fl (kd, en, wh, to, fr, sT σ, un, 20001, 0)) tl_new) cw61 hK hZ hP hD hS hA 0 rfl rfl rfl rfl hl.1 rfl (Nat.le_of_ble_eq_true rfl) dX1_order_141 ⟨(Nat.le_of_ble_eq_true rfl), (Nat.le_of_ble_eq_true rfl)⟩ (fun r u H locs wu hP hD hS => ?_)
                          obtain ⟨g1, g2, g3⟩ := wu
                          exact tail u r H locs (by rw [hz]; exact g1) g2 (by rw [hz]; exact g3) (fun i hi => absurd hi (by omega)) (by rw [hz] at hP ⊢; exact hP) (by rw [hz] at hD ⊢; exact hD) hS
                        · obtain ⟨k1, k2, k3⟩ := hC.1 hz
                          rw [LW_pos (show sN σ ≠ 0 by omega)] at hP hD
                          rcases Nat.lt_or_ge (sN σ) κ.2.2.1 with hnN | hnN
                          · refine wrV_i (wr := (CX G a (nI (sG σ).length) (sT σ) (sR σ) κ.2.2.2.2.2.1 κ.2.2.2.2.2.2)) (b := a.2.1) (As := [.ref qn]) (rest := []) ⟨hx, hb, hml, hown, hts⟩ (c_Jx4a65c_add_9ea2d_s l G a.2.1 qn κ.1 κ.2.1 (sN σ) κ.2.2.1 κ.2.2.2.1 hz hnN k2 hI1 ((pO κ.2.2.2.2.1 (sO σ) (sN σ)) ++ [(qn, Sum.inr (1, fl (kd, en, wh, to, fr, sT σ, un, 20001, 0)))] : va_W) (sN σ) (fl (kd, en, wh, to, fr, sT σ, un, 20001, 0)) tl_new) cw61 hK hZ hP hD hS hA 0 rfl rfl rfl rfl hl.1 rfl (Nat.le_of_ble_eq_true rfl) dX1_order_141 ⟨(Nat.le_of_ble_eq_true rfl), (Nat.le_of_ble_eq_true rfl)⟩ (fun r u H locs wu hP hD hS => ?_)
                            obtain ⟨g1, g2, g3, g4⟩ := wu
                            exact tail u r H locs g1 g2 g3 (fun i hi => (g4 i hi).trans (k3 i hi)) hP hD hS
                          · have eN : κ.2.2.1 = sN σ := by omega
                            rw [eN] at hP hD
                            refine wrV_i (wr := (CX G a (nI (sG σ).length) (sT σ) (sR σ) κ.2.2.2.2.2.1 κ.2.2.2.2.2.2)) (b := a.2.1) (As := [.ref qn]) (rest := []) ⟨hx, hb, hml, hown, hts⟩ (c_Jx4a65c_add_9ea2d_g l G a.2.1 qn κ.1 κ.2.1 (sN σ) κ.2.2.2.1 hz hI1 ((pO κ.2.2.2.2.1 (sO σ) (sN σ)) ++ [(qn, Sum.inr (1, fl (kd, en, wh, to, fr, sT σ, un, 20001, 0)))] : va_W) (fun i hi => ⟨_, i, _, k3 i hi, tl_get hi⟩) (sN σ) (fl (kd, en, wh, to, fr, sT σ, un, 20001, 0)) tl_new) cw61 hK hZ hP hD hS hA 0 rfl rfl rfl rfl hl.1 rfl (Nat.le_of_ble_eq_true rfl) dX1_order_141 ⟨(Nat.le_of_ble_eq_true rfl), (Nat.le_of_ble_eq_true rfl)⟩ (fun r u H locs wu hP hD hS => ?_)
                            obtain ⟨g1, g2, g3, g4⟩ := wu
                            exact tail u r H locs g1 g2 g3 (fun i hi => (g4 i hi).trans (k3 i hi)) hP hD hS
                      · have c111_79 : ¬ ((((sN σ) : Nat) : Int) < 200) := mt (ti_lt (x := r78) (y := 200) (a := (((sN σ) : Nat) : Int)) (b := 200) w78 rfl).mpr c111_79
                        refine lv_bipush (v := (-104)) hx hb dX1_order_114 (by decide) ?_
                        have hF : fOrder σ kd en wh to fr un = ((-104), σ) := (if_neg (by omega)).trans ((if_neg (by omega)).trans (if_pos (by omega)))
                        exact hret _ _ _ _ _ _ _ κ dX1_order_116 (Or.inr (Or.inr rfl)) (by rw [hF]; exact ⟨rfl, hC⟩) (by rw [hF]; exact hP) (by rw [hF]; exact hD) hS (Nat.zero_le _) (Nat.zero_le _)
                    · have c95_77 : (to).toInt = (en).toInt := (ti_eq (x := to) (y := en) (a := (to).toInt) (b := (en).toInt) rfl rfl).mp c95_77
                      refine lv_bipush (v := (-102)) hx hb dX1_order_98 (by decide) ?_
                      have hF : fOrder σ kd en wh to fr un = ((-102), σ) := (if_neg (by omega)).trans (if_pos (by omega))
                      exact hret _ _ _ _ _ _ _ κ dX1_order_100 (Or.inr (Or.inr rfl)) (by rw [hF]; exact ⟨rfl, hC⟩) (by rw [hF]; exact hP) (by rw [hF]; exact hD) hS (Nat.zero_le _) (Nat.zero_le _)
          · have c50_68 : (r47_67).toInt = 0 := (ti_eq (x := r47_67) (y := 0) (a := (r47_67).toInt) (b := 0) rfl rfl).mp c50_68
            refine lv_bipush (v := (-101)) hx hb dX1_order_53 (by decide) ?_
            have hF : fOrder σ kd en wh to fr un = ((-101), σ) := if_pos (by omega)
            exact hret _ _ _ _ _ _ _ κ dX1_order_55 (Or.inr (Or.inr rfl)) (by rw [hF]; exact ⟨rfl, hC⟩) (by rw [hF]; exact hP) (by rw [hF]; exact hD) hS (Nat.zero_le _) (Nat.zero_le _)
        · have c30_65 : ¬ ((wh).toInt = (-1)) := mt (ti_eq (x := wh) (y := (-1)) (a := (wh).toInt) (b := (-1)) rfl rfl).mpr c30_65
          refine lv_iload_n hx hb dX1_order_33 rfl (lv_at hl 4 rfl) ?_
          refine rdS_i (As := [.int wh]) (rest := []) ⟨hx, hb, hml, hown, hts⟩ (c_X1_isPerson l G wh) cw45 hK va_P.nil rfl hl.1 rfl (Nat.le_of_ble_eq_true rfl) dX1_order_34 ⟨Nat.zero_le _, Nat.zero_le _⟩ (fun r34_81 w34_81 => ?_)
          have w34_81 : ((r34_81.toInt = 1 ∧ (0 ≤ (wh).toInt ∧ (wh).toInt ≤ 49)) ∨ (r34_81.toInt = 0 ∧ ¬ (0 ≤ (wh).toInt ∧ (wh).toInt ≤ 49))) := w34_81
          refine lv_if_eq (tgt := 53) hx hb dX1_order_37 (by decide) (fun c37_82 => ?_) (fun c37_82 => ?_)
          · have c37_82 : (r34_81).toInt = 0 := (ti_eq (x := r34_81) (y := 0) (a := (r34_81).toInt) (b := 0) rfl rfl).mp c37_82
            refine lv_bipush (v := (-101)) hx hb dX1_order_53 (by decide) ?_
            have hF : fOrder σ kd en wh to fr un = ((-101), σ) := if_pos (by omega)
            exact hret _ _ _ _ _ _ _ κ dX1_order_55 (Or.inr (Or.inr rfl)) (by rw [hF]; exact ⟨rfl, hC⟩) (by rw [hF]; exact hP) (by rw [hF]; exact hD) hS (Nat.zero_le _) (Nat.zero_le _)
          · have c37_82 : ¬ ((r34_81).toInt = 0) := mt (ti_eq (x := r34_81) (y := 0) (a := (r34_81).toInt) (b := 0) rfl rfl).mpr c37_82
            refine lv_iload hx hb dX1_order_40 (lv_at hl 0 rfl) ?_
            refine lv_if_eq (tgt := 56) hx hb dX1_order_42 (by decide) (fun c42_83 => absurd c42_83 (by decide)) (fun _ => ?_)
            refine lv_iload hx hb dX1_order_45 (lv_at hl 5 rfl) ?_
            refine rdS_i (As := [.int to]) (rest := []) ⟨hx, hb, hml, hown, hts⟩ (c_X1_isAddress l G to) cw42 hK va_P.nil rfl hl.1 rfl (Nat.le_of_ble_eq_true rfl) dX1_order_47 ⟨Nat.zero_le _, Nat.zero_le _⟩ (fun r47_84 w47_84 => ?_)
            have w47_84 : ((r47_84.toInt = 1 ∧ (1 ≤ (to).toInt ∧ (to).toInt ≤ 99)) ∨ (r47_84.toInt = 0 ∧ ¬ (1 ≤ (to).toInt ∧ (to).toInt ≤ 99))) := w47_84
            refine lv_if_ne (tgt := 56) hx hb dX1_order_50 (by decide) (fun c50_85 => ?_) (fun c50_85 => ?_)
            · have c50_85 : ¬ ((r47_84).toInt = 0) := mt (ti_eq (x := r47_84) (y := 0) (a := (r47_84).toInt) (b := 0) rfl rfl).mpr c50_85
              refine lv_iload_n hx hb dX1_order_56 rfl (lv_at hl 2 rfl) ?_
              refine rdS_i (As := [.int kd]) (rest := []) ⟨hx, hb, hml, hown, hts⟩ (c_X1_isKind l G kd) cw34 hK va_P.nil rfl hl.1 rfl (Nat.le_of_ble_eq_true rfl) dX1_order_57 ⟨Nat.zero_le _, Nat.zero_le _⟩ (fun r57_86 w57_86 => ?_)
              have w57_86 : ((r57_86.toInt = 1 ∧ (0 ≤ (kd).toInt ∧ (kd).toInt < 9)) ∨ (r57_86.toInt = 0 ∧ ¬ (0 ≤ (kd).toInt ∧ (kd).toInt < 9))) := w57_86
              refine lv_if_eq (tgt := 98) hx hb dX1_order_60 (by decide) (fun c60_87 => ?_) (fun c60_87 => ?_)
              · have c60_87 : (r57_86).toInt = 0 := (ti_eq (x := r57_86) (y := 0) (a := (r57_86).toInt) (b := 0) rfl rfl).mp c60_87
                refine lv_bipush (v := (-102)) hx hb dX1_order_98 (by decide) ?_
                have hF : fOrder σ kd en wh to fr un = ((-102), σ) := (if_neg (by omega)).trans (if_pos (by omega))
                exact hret _ _ _ _ _ _ _ κ dX1_order_100 (Or.inr (Or.inr rfl)) (by rw [hF]; exact ⟨rfl, hC⟩) (by rw [hF]; exact hP) (by rw [hF]; exact hD) hS (Nat.zero_le _) (Nat.zero_le _)
              · have c60_87 : ¬ ((r57_86).toInt = 0) := mt (ti_eq (x := r57_86) (y := 0) (a := (r57_86).toInt) (b := 0) rfl rfl).mpr c60_87
                refine lv_lload hx hb dX1_order_63 (lv_at hl 6 rfl) ?_
                refine rdS_i (As := [.long fr]) (rest := []) ⟨hx, hb, hml, hown, hts⟩ (c_X1_isDay l G fr) cw48 hK va_P.nil rfl hl.1 rfl (Nat.le_of_ble_eq_true rfl) dX1_order_65 ⟨Nat.zero_le _, Nat.zero_le _⟩ (fun r65_88 w65_88 => ?_)
                have w65_88 : ((r65_88.toInt = 1 ∧ (0 ≤ (fr).toInt ∧ (fr).toInt ≤ 20000)) ∨ (r65_88.toInt = 0 ∧ ¬ (0 ≤ (fr).toInt ∧ (fr).toInt ≤ 20000))) := w65_88
                refine lv_if_eq (tgt := 98) hx hb dX1_order_68 (by decide) (fun c68_89 => ?_) (fun c68_89 => ?_)
                · have c68_89 : (r65_88).toInt = 0 := (ti_eq (x := r65_88) (y := 0) (a := (r65_88).toInt) (b := 0) rfl rfl).mp c68_89
                  refine lv_bipush (v := (-102)) hx hb dX1_order_98 (by decide) ?_
                  have hF : fOrder σ kd en wh to fr un = ((-102), σ) := (if_neg (by omega)).trans (if_pos (by omega))
                  exact hret _ _ _ _ _ _ _ κ dX1_order_100 (Or.inr (Or.inr rfl)) (by rw [hF]; exact ⟨rfl, hC⟩) (by rw [hF]; exact hP) (by rw [hF]; exact hD) hS (Nat.zero_le _) (Nat.zero_le _)
                · have c68_89 : ¬ ((r65_88).toInt = 0) := mt (ti_eq (x := r65_88) (y := 0) (a := (r65_88).toInt) (b := 0) rfl rfl).mpr c68_89
                  refine lv_lload hx hb dX1_order_71 (lv_at hl 7 rfl) ?_
                  refine rdS_i (As := [.long un]) (rest := []) ⟨hx, hb, hml, hown, hts⟩ (c_X1_isDay l G un) cw48 hK va_P.nil rfl hl.1 rfl (Nat.le_of_ble_eq_true rfl) dX1_order_73 ⟨Nat.zero_le _, Nat.zero_le _⟩ (fun r73_90 w73_90 => ?_)
                  have w73_90 : ((r73_90.toInt = 1 ∧ (0 ≤ (un).toInt ∧ (un).toInt ≤ 20000)) ∨ (r73_90.toInt = 0 ∧ ¬ (0 ≤ (un).toInt ∧ (un).toInt ≤ 20000))) := w73_90
                  refine lv_if_eq (tgt := 98) hx hb dX1_order_76 (by decide) (fun c76_91 => ?_) (fun c76_91 => ?_)
                  · have c76_91 : (r73_90).toInt = 0 := (ti_eq (x := r73_90) (y := 0) (a := (r73_90).toInt) (b := 0) rfl rfl).mp c76_91
                    refine lv_bipush (v := (-102)) hx hb dX1_order_98 (by decide) ?_
                    have hF : fOrder σ kd en wh to fr un = ((-102), σ) := (if_neg (by omega)).trans (if_pos (by omega))
                    exact hret _ _ _ _ _ _ _ κ dX1_order_100 (Or.inr (Or.inr rfl)) (by rw [hF]; exact ⟨rfl, hC⟩) (by rw [hF]; exact hP) (by rw [hF]; exact hD) hS (Nat.zero_le _) (Nat.zero_le _)
                  · have c76_91 : ¬ ((r73_90).toInt = 0) := mt (ti_eq (x := r73_90) (y := 0) (a := (r73_90).toInt) (b := 0) rfl rfl).mpr c76_91
                    refine lv_lload hx hb dX1_order_79 (lv_at hl 7 rfl) ?_
                    refine lv_lload hx hb dX1_order_81 (lv_at hl 6 rfl) ?_
                    refine lc_lt (tgt := 98) hx hb dX1_order_83 dX1_order_84 (by decide) (fun c83_92 => ?_) (fun c83_92 => ?_)
                    · have c83_92 : (un).toInt < (fr).toInt := (tl_lt (x := un) (y := fr) (a := (un).toInt) (b := (fr).toInt) rfl rfl).mp c83_92
                      refine lv_bipush (v := (-102)) hx hb dX1_order_98 (by decide) ?_
                      have hF : fOrder σ kd en wh to fr un = ((-102), σ) := (if_neg (by omega)).trans (if_pos (by omega))
                      exact hret _ _ _ _ _ _ _ κ dX1_order_100 (Or.inr (Or.inr rfl)) (by rw [hF]; exact ⟨rfl, hC⟩) (by rw [hF]; exact hP) (by rw [hF]; exact hD) hS (Nat.zero_le _) (Nat.zero_le _)
                    · have c83_92 : ¬ ((un).toInt < (fr).toInt) := mt (tl_lt (x := un) (y := fr) (a := (un).toInt) (b := (fr).toInt) rfl rfl).mpr c83_92
                      refine lv_iload hx hb dX1_order_87 (lv_at hl 0 rfl) ?_
                      refine lv_if_eq (tgt := 101) hx hb dX1_order_89 (by decide) (fun c89_93 => absurd c89_93 (by decide)) (fun _ => ?_)
                      refine lv_iload hx hb dX1_order_92 (lv_at hl 5 rfl) ?_
                      refine lv_iload_n hx hb dX1_order_94 rfl (lv_at hl 3 rfl) ?_
                      refine lv_icmp_ne (tgt := 101) hx hb dX1_order_95 (by decide) (fun c95_94 => ?_) (fun c95_94 => ?_)
                      · have c95_94 : ¬ ((to).toInt = (en).toInt) := mt (ti_eq (x := to) (y := en) (a := (to).toInt) (b := (en).toInt) rfl rfl).mpr c95_94
                        refine lv_aload_n hx hb dX1_order_101 rfl (lv_at hl 1 rfl) ?_
                        refine va_get (D := G.1) (ci := 2) (v := .ref a.2.1) (own := RX1) (C := RX1) (T := TX1) (N := 6) hx hb hts hiX1 hown hK.1 hP 0 rfl rfl 0 (by decide) lf10 (fun _ h9 => h9) rfl dX1_order_102 ?_
                        refine rdV_i (b := a.2.1) (As := []) (rest := []) ⟨hx, hb, hml, hown, hts⟩ (c_Jx4a65c_size_8abf5 l G a.2.1 κ.1 (nI (sN σ)) _) cw52 hK (LW_one (CW_list hP)) 0 rfl rfl rfl rfl hl.1 rfl (Nat.le_of_ble_eq_true rfl) dX1_order_105 ⟨Nat.zero_le _, Nat.zero_le _⟩ (fun r95 w95 => ?_)
                        have w95 : r95.toInt = (((sN σ) : Nat) : Int) := by rw [w95]; exact ti_nI (by omega)
                        refine lv_sipush (v := 200) hx hb dX1_order_108 (by decide) ?_
                        refine lv_icmp_lt (tgt := 117) hx hb dX1_order_111 (by decide) (fun c111_96 => ?_) (fun c111_96 => ?_)
                        · have c111_96 : (((sN σ) : Nat) : Int) < 200 := (ti_lt (x := r95) (y := 200) (a := (((sN σ) : Nat) : Int)) (b := 200) w95 rfl).mp c111_96
                          refine lv_aload_n hx hb dX1_order_117 rfl (lv_at hl 1 rfl) ?_
                          refine va_get (D := G.1) (ci := 2) (v := .ref a.2.1) (own := RX1) (C := RX1) (T := TX1) (N := 6) hx hb hts hiX1 hown hK.1 hP 0 rfl rfl 0 (by decide) lf10 (fun _ h9 => h9) rfl dX1_order_118 ?_
                          refine va_new (ci := 1) (fs := [.int 0, .int 0, .int 0, .int 0, .long 0, .long 0, .long 0, .long 0, .int 0]) (own := RX1) (C := RX0) (T := TX0) (N := 9) hx hb hts hiX0 tyX0 tyX0_ok hown (hts (.classLink RX1 56 RX0) (by decide +kernel)) (hts (.instantiable RX0 9) (by decide +kernel)) (hts (.initialized RX0) (by decide +kernel)) hK.1 hP hD hS hA rfl (fun j hj => by rcases (show j = 0 ∨ j = 1 ∨ j = 2 ∨ j = 3 ∨ j = 4 ∨ j = 5 ∨ j = 6 ∨ j = 7 ∨ j = 8 by omega) with rfl | rfl | rfl | rfl | rfl | rfl | rfl | rfl | rfl <;> rfl) (Nat.le_of_ble_eq_true rfl) (Nat.le_of_ble_eq_true rfl) dX1_order_121 (fun qn H hP hD hS => ?_)
                          have hP : va_P G.1 vwCl ((CW G a (nI (sG σ).length) (sT σ) (sR σ) κ.2.2.2.2.2.1 κ.2.2.2.2.2.2 (pO κ.2.2.2.2.1 (sO σ) (sN σ)) (LW G a.2.1 κ.1 κ.2.1 κ.2.2.1 κ.2.2.2.1 (sN σ))) ++ [(qn, .inr (1, [.int 0, .int 0, .int 0, .int 0, .long 0, .long 0, .long 0, .long 0, .int 0]))]) H := hP
                          have hD : va_D A ((CW G a (nI (sG σ).length) (sT σ) (sR σ) κ.2.2.2.2.2.1 κ.2.2.2.2.2.2 (pO κ.2.2.2.2.1 (sO σ) (sN σ)) (LW G a.2.1 κ.1 κ.2.1 κ.2.2.1 κ.2.2.2.1 (sN σ))) ++ [(qn, .inr (1, [.int 0, .int 0, .int 0, .int 0, .long 0, .long 0, .long 0, .long 0, .int 0]))]) := hD
                          refine lv_dup hx hb dX1_order_124 rfl ?_
                          refine lv_iload_n hx hb dX1_order_125 rfl (lv_at hl 2 rfl) ?_
                          refine lv_iload_n hx hb dX1_order_126 rfl (lv_at hl 3 rfl) ?_
                          refine lv_iload_n hx hb dX1_order_127 rfl (lv_at hl 4 rfl) ?_
                          refine lv_iload hx hb dX1_order_128 (lv_at hl 5 rfl) ?_
                          refine lv_lload hx hb dX1_order_130 (lv_at hl 6 rfl) ?_
                          refine lv_lload hx hb dX1_order_132 (lv_at hl 7 rfl) ?_
                          refine lv_aload_n hx hb dX1_order_134 rfl (lv_at hl 1 rfl) ?_
                          refine va_get (D := G.1) (ci := 2) (v := .long (sT σ)) (own := RX1) (C := RX1) (T := TX1) (N := 6) hx hb hts hiX1 hown hK.1 hP 0 rfl rfl 5 (by decide) lf30 (fun _ h9 => h9) rfl dX1_order_135 ?_
                          refine wrI_v (wr := (CW G a (nI (sG σ).length) (sT σ) (sR σ) κ.2.2.2.2.2.1 κ.2.2.2.2.2.2 (pO κ.2.2.2.2.1 (sO σ) (sN σ)) (LW G a.2.1 κ.1 κ.2.1 κ.2.2.1 κ.2.2.2.1 (sN σ)))) (b := qn) (As := [.int kd, .int en, .int wh, .int to, .long fr, .long un, .long (sT σ)]) (rest := [.ref qn, .ref a.2.1]) ⟨hx, hb, hml, hown, hts⟩ (c_X0_init l G qn kd en wh to fr un (sT σ)) cw58 hK hZ hP hD hS hA rfl hl.1 rfl (Nat.le_of_ble_eq_true rfl) dX1_order_138 ⟨(Nat.le_of_ble_eq_true rfl), (Nat.le_of_ble_eq_true rfl)⟩ (fun _ H locs _ hP hD hS => ?_)
                          have hP : va_P G.1 vwCl ((CW G a (nI (sG σ).length) (sT σ) (sR σ) κ.2.2.2.2.2.1 κ.2.2.2.2.2.2 (pO κ.2.2.2.2.1 (sO σ) (sN σ)) (LW G a.2.1 κ.1 κ.2.1 κ.2.2.1 κ.2.2.2.1 (sN σ))) ++ [(qn, .inr (1, fl (kd, en, wh, to, fr, sT σ, un, 20001, 0)))]) H := hP
                          have hD : va_D A ((CW G a (nI (sG σ).length) (sT σ) (sR σ) κ.2.2.2.2.2.1 κ.2.2.2.2.2.2 (pO κ.2.2.2.2.1 (sO σ) (sN σ)) (LW G a.2.1 κ.1 κ.2.1 κ.2.2.1 κ.2.2.2.1 (sN σ))) ++ [(qn, .inr (1, fl (kd, en, wh, to, fr, sT σ, un, 20001, 0)))]) := hD
                          have tail : ∀ (ux : Int32 × Nat × Nat × (Nat → Option Nat)) (r : Int32) (H : Heap) (locs : List Loc), sN σ + 1 ≤ ux.2.2.1 → ux.2.2.1 ≤ 400 → ux.2.2.2 (sN σ) = some qn → (∀ i, i < sN σ → ux.2.2.2 i = some (κ.2.2.2.2.1 i)) → va_P G.1 vwCl ((CX G a (nI (sG σ).length) (sT σ) (sR σ) κ.2.2.2.2.2.1 κ.2.2.2.2.2.2) ++ ([(a.2.1, .inr (0, [.int ux.1, .ref ux.2.1, .int (nI (sN σ + 1))])), aO G ux.2.1 ux.2.2.1 ux.2.2.2] ++ ((pO κ.2.2.2.2.1 (sO σ) (sN σ)) ++ [(qn, Sum.inr (1, fl (kd, en, wh, to, fr, sT σ, un, 20001, 0)))] : va_W))) H → va_D A ((CX G a (nI (sG σ).length) (sT σ) (sR σ) κ.2.2.2.2.2.1 κ.2.2.2.2.2.2) ++ ([(a.2.1, .inr (0, [.int ux.1, .ref ux.2.1, .int (nI (sN σ + 1))])), aO G ux.2.1 ux.2.2.1 ux.2.2.2] ++ ((pO κ.2.2.2.2.1 (sO σ) (sN σ)) ++ [(qn, Sum.inr (1, fl (kd, en, wh, to, fr, sT σ, un, 20001, 0)))] : va_W))) → va_S A s.heap H locs → W p l e (rmX 7 280 2 409) s m args below meth c H locs (0 + 1 + 0 + 1) (0 + 9 + 0 + 400) Q (F0 m 144 ls [.int r]) := by
                            intro ux r H locs g1 g2 g3 g4 hP hD hS
                            have hP := back_P hP
                            have hD := back_D hD
                            rw [pO_push, ← LW_pos (G := G) (h := a.2.1) (md := ux.1) (a2 := ux.2.1) (N := ux.2.2.1) (f := ux.2.2.2) (n := sN σ + 1) (by omega)] at hP hD
                            have hP : va_P G.1 vwCl (CW G a (nI (sG σ).length) (sT σ) (sR σ) κ.2.2.2.2.2.1 κ.2.2.2.2.2.2 (pO (kNew κ ux (sN σ) qn).2.2.2.2.1 (va_up (sO σ) (sN σ) (kd, en, wh, to, fr, sT σ, un, 20001, 0)) (sN σ + 1)) (LW G a.2.1 (kNew κ ux (sN σ) qn).1 (kNew κ ux (sN σ) qn).2.1 (kNew κ ux (sN σ) qn).2.2.1 (kNew κ ux (sN σ) qn).2.2.2.1 (sN σ + 1))) H := hP
                            have hD : va_D A (CW G a (nI (sG σ).length) (sT σ) (sR σ) κ.2.2.2.2.2.1 κ.2.2.2.2.2.2 (pO (kNew κ ux (sN σ) qn).2.2.2.2.1 (va_up (sO σ) (sN σ) (kd, en, wh, to, fr, sT σ, un, 20001, 0)) (sN σ + 1)) (LW G a.2.1 (kNew κ ux (sN σ) qn).1 (kNew κ ux (sN σ) qn).2.1 (kNew κ ux (sN σ) qn).2.2.1 (kNew κ ux (sN σ) qn).2.2.2.1 (sN σ + 1))) := hD
                            refine lv_pop hx hb dX1_order_144 rfl ?_
                            refine lv_aload_n hx hb dX1_order_145 rfl (lv_at hl 1 rfl) ?_
                            refine va_get (D := G.1) (ci := 2) (v := .ref a.2.1) (own := RX1) (C := RX1) (T := TX1) (N := 6) hx hb hts hiX1 hown hK.1 hP 0 rfl rfl 0 (by decide) lf10 (fun _ h9 => h9) rfl dX1_order_146 ?_
                            refine rdV_i (b := a.2.1) (As := []) (rest := []) ⟨hx, hb, hml, hown, hts⟩ (c_Jx4a65c_size_8abf5 l G a.2.1 (kNew κ ux (sN σ) qn).1 (nI (sN σ + 1)) _) cw52 hK (LW_one (CW_list hP)) 0 rfl rfl rfl rfl hl.1 rfl (Nat.le_of_ble_eq_true rfl) dX1_order_149 ⟨Nat.le_of_ble_eq_true rfl, Nat.le_of_ble_eq_true rfl⟩ (fun r97 w97 => ?_)
                            have w97 : r97.toInt = (((sN σ + 1) : Nat) : Int) := by rw [w97]; exact ti_nI (by omega)
                            have hF : fOrder σ kd en wh to fr un = (nI (sN σ + 1), (sN σ + 1, va_up (sO σ) (sN σ) (kd, en, wh, to, fr, sT σ, un, 20001, 0), sT σ, sR σ, sG σ)) := (if_neg (by omega)).trans ((if_neg (by omega)).trans (if_neg (by omega)))
                            obtain rfl : r97 = nI (sN σ + 1) := nI_ofI w97
                            exact hret _ _ _ _ _ _ _ (kNew κ ux (sN σ) qn) dX1_order_152 (Or.inr (Or.inr rfl)) (by rw [hF]; exact ⟨rfl, CI_new hC g1 g2 g3 g4⟩) (by rw [hF]; exact hP) (by rw [hF]; exact hD) hS (Nat.le_of_ble_eq_true rfl) (Nat.le_of_ble_eq_true rfl)
                          have hP := ord_P (x := (CX G a (nI (sG σ).length) (sT σ) (sR σ) κ.2.2.2.2.2.1 κ.2.2.2.2.2.2)) hP
                          have hD := ord_D (x := (CX G a (nI (sG σ).length) (sT σ) (sR σ) κ.2.2.2.2.2.1 κ.2.2.2.2.2.2)) hD
                          rcases Nat.eq_zero_or_pos (sN σ) with hz | hz
                          · rw [LW_zero hz] at hP hD
                            refine wrV_i (wr := (CX G a (nI (sG σ).length) (sT σ) (sR σ) κ.2.2.2.2.2.1 κ.2.2.2.2.2.2)) (b := a.2.1) (As := [.ref qn]) (rest := []) ⟨hx, hb, hml, hown, hts⟩ (c_Jx4a65c_add_9ea2d_0 l G a.2.1 qn κ.1 ((pO κ.2.2.2.2.1 (sO σ) (sN σ)) ++ [(qn, Sum.inr (1, fl (kd, en, wh, to, fr, sT σ, un, 20001, 0)))] : va_W) (sN σ) (fl (kd, en, wh, to, fr, sT σ, un, 20001, 0)) tl_new) cw61 hK hZ hP hD hS hA 0 rfl rfl rfl rfl hl.1 rfl (Nat.le_of_ble_eq_true rfl) dX1_order_141 ⟨(Nat.le_of_ble_eq_true rfl), (Nat.le_of_ble_eq_true rfl)⟩ (fun r u H locs wu hP hD hS => ?_)
                            obtain ⟨g1, g2, g3⟩ := wu
                            exact tail u r H locs (by rw [hz]; exact g1) g2 (by rw [hz]; exact g3) (fun i hi => absurd hi (by omega)) (by rw [hz] at hP ⊢; exact hP) (by rw [hz] at hD ⊢; exact hD) hS
                          · obtain ⟨k1, k2, k3⟩ := hC.1 hz
                            rw [LW_pos (show sN σ ≠ 0 by omega)] at hP hD
                            rcases Nat.lt_or_ge (sN σ) κ.2.2.1 with hnN | hnN
                            · refine wrV_i (wr := (CX G a (nI (sG σ).length) (sT σ) (sR σ) κ.2.2.2.2.2.1 κ.2.2.2.2.2.2)) (b := a.2.1) (As := [.ref qn]) (rest := []) ⟨hx, hb, hml, hown, hts⟩ (c_Jx4a65c_add_9ea2d_s l G a.2.1 qn κ.1 κ.2.1 (sN σ) κ.2.2.1 κ.2.2.2.1 hz hnN k2 hI1 ((pO κ.2.2.2.2.1 (sO σ) (sN σ)) ++ [(qn, Sum.inr (1, fl (kd, en, wh, to, fr, sT σ, un, 20001, 0)))] : va_W) (sN σ) (fl (kd, en, wh, to, fr, sT σ, un, 20001, 0)) tl_new) cw61 hK hZ hP hD hS hA 0 rfl rfl rfl rfl hl.1 rfl (Nat.le_of_ble_eq_true rfl) dX1_order_141 ⟨(Nat.le_of_ble_eq_true rfl), (Nat.le_of_ble_eq_true rfl)⟩ (fun r u H locs wu hP hD hS => ?_)
                              obtain ⟨g1, g2, g3, g4⟩ := wu
                              exact tail u r H locs g1 g2 g3 (fun i hi => (g4 i hi).trans (k3 i hi)) hP hD hS
                            · have eN : κ.2.2.1 = sN σ := by omega
                              rw [eN] at hP hD
                              refine wrV_i (wr := (CX G a (nI (sG σ).length) (sT σ) (sR σ) κ.2.2.2.2.2.1 κ.2.2.2.2.2.2)) (b := a.2.1) (As := [.ref qn]) (rest := []) ⟨hx, hb, hml, hown, hts⟩ (c_Jx4a65c_add_9ea2d_g l G a.2.1 qn κ.1 κ.2.1 (sN σ) κ.2.2.2.1 hz hI1 ((pO κ.2.2.2.2.1 (sO σ) (sN σ)) ++ [(qn, Sum.inr (1, fl (kd, en, wh, to, fr, sT σ, un, 20001, 0)))] : va_W) (fun i hi => ⟨_, i, _, k3 i hi, tl_get hi⟩) (sN σ) (fl (kd, en, wh, to, fr, sT σ, un, 20001, 0)) tl_new) cw61 hK hZ hP hD hS hA 0 rfl rfl rfl rfl hl.1 rfl (Nat.le_of_ble_eq_true rfl) dX1_order_141 ⟨(Nat.le_of_ble_eq_true rfl), (Nat.le_of_ble_eq_true rfl)⟩ (fun r u H locs wu hP hD hS => ?_)
                              obtain ⟨g1, g2, g3, g4⟩ := wu
                              exact tail u r H locs g1 g2 g3 (fun i hi => (g4 i hi).trans (k3 i hi)) hP hD hS
                        · have c111_96 : ¬ ((((sN σ) : Nat) : Int) < 200) := mt (ti_lt (x := r95) (y := 200) (a := (((sN σ) : Nat) : Int)) (b := 200) w95 rfl).mpr c111_96
                          refine lv_bipush (v := (-104)) hx hb dX1_order_114 (by decide) ?_
                          have hF : fOrder σ kd en wh to fr un = ((-104), σ) := (if_neg (by omega)).trans ((if_neg (by omega)).trans (if_pos (by omega)))
                          exact hret _ _ _ _ _ _ _ κ dX1_order_116 (Or.inr (Or.inr rfl)) (by rw [hF]; exact ⟨rfl, hC⟩) (by rw [hF]; exact hP) (by rw [hF]; exact hD) hS (Nat.zero_le _) (Nat.zero_le _)
                      · have c95_94 : (to).toInt = (en).toInt := (ti_eq (x := to) (y := en) (a := (to).toInt) (b := (en).toInt) rfl rfl).mp c95_94
                        refine lv_bipush (v := (-102)) hx hb dX1_order_98 (by decide) ?_
                        have hF : fOrder σ kd en wh to fr un = ((-102), σ) := (if_neg (by omega)).trans (if_pos (by omega))
                        exact hret _ _ _ _ _ _ _ κ dX1_order_100 (Or.inr (Or.inr rfl)) (by rw [hF]; exact ⟨rfl, hC⟩) (by rw [hF]; exact hP) (by rw [hF]; exact hD) hS (Nat.zero_le _) (Nat.zero_le _)
            · have c50_85 : (r47_84).toInt = 0 := (ti_eq (x := r47_84) (y := 0) (a := (r47_84).toInt) (b := 0) rfl rfl).mp c50_85
              refine lv_bipush (v := (-101)) hx hb dX1_order_53 (by decide) ?_
              have hF : fOrder σ kd en wh to fr un = ((-101), σ) := if_pos (by omega)
              exact hret _ _ _ _ _ _ _ κ dX1_order_55 (Or.inr (Or.inr rfl)) (by rw [hF]; exact ⟨rfl, hC⟩) (by rw [hF]; exact hP) (by rw [hF]; exact hD) hS (Nat.zero_le _) (Nat.zero_le _)

set_option maxHeartbeats 4000000 in
set_option maxRecDepth 100000 in
/-- OrderRows2() -/
theorem c_X1_init (l : Launch) (G : GG) (h : Nat) : WrV l yX1_init wsX1_init (rmX 4 160 4 212) G [.ref h] [(h, .inr (2, [.null, .null, .null, .null, .int 0, .long 0]))] (fun u : AD => u.1 = h) (fun u : AD => WC G u κ0 σ0) 4 212 := by
  refine wr_of_v (cc := cX1_init) (maxL := 1) (by decide +kernel) rfl (Nat.le_of_ble_eq_true rfl) ?_
  intro p e s m args below meth c Q A hx hb hml hown hts hK hZ hA hin hret ls hl hP hD hS
  have hown : s.vm.findClass RX1 = some m.cls := hown
  have hl : lv_has ls 1 [(0, .ref h)] := hl
  have hP : va_P G.1 vwCl [(h, .inr (2, [.null, .null, .null, .null, .int 0, .long 0]))] s.heap := hP
  have hD : va_D A [(h, .inr (2, [.null, .null, .null, .null, .int 0, .long 0]))] := hD
  have hin : meth.name = "<init>" := hin
  have hiJx4a65c := (show ∀ w ∈ u_ws RJx4a65c TJx4a65c 3, w ∈ wsX1_init by decide +kernel)
  have cw9 := cwI (R := (rmX 4 160 4 212)) (s := s) (args := args) (rm := (rmX 3 120 0 0)) (mc := 0) (ms := 0) (own := RX1) (index := 9) 0 hts gX1_init_Jx4a65c_init_da8c8 rfl rfl rfl (hts (.initialized RJx4a65c) (by decide +kernel)) (hts (.methodLink RX1 9 yJx4a65c_init_da8c8) (by decide +kernel)) (hts (.instanceMethod yJx4a65c_init_da8c8) (by decide +kernel)) rfl (by decide +kernel) ⟨Nat.le_of_ble_eq_true rfl, Nat.le_of_ble_eq_true rfl⟩
  have hiX1 := (show ∀ w ∈ u_ws RX1 TX1 6, w ∈ wsX1_init by decide +kernel)
  have lf10 := hts (.fieldLink RX1 10 "OrderRows2" "orders" "Ljava/util/ArrayList;") (by decide +kernel)
  have lf16 := hts (.fieldLink RX1 16 "OrderRows2" "rankOfKind" "[I") (by decide +kernel)
  have lf20 := hts (.fieldLink RX1 20 "OrderRows2" "path" "[I") (by decide +kernel)
  have lf23 := hts (.fieldLink RX1 23 "OrderRows2" "ringTold" "[I") (by decide +kernel)
  have lf26 := hts (.fieldLink RX1 26 "OrderRows2" "ringLength" "I") (by decide +kernel)
  have lf30 := hts (.fieldLink RX1 30 "OrderRows2" "clock" "J") (by decide +kernel)
  refine lv_aload_n hx hb dX1_init_0 rfl (lv_at hl 0 rfl) ?_
  refine W.objInit hx hb hown (hts (.methodLink RX1 1 objectInit) (by decide +kernel)) (hts (.instanceMethod objectInit) (by decide +kernel)) (hts (.code objectInit ⟨#[0xb1]⟩ 1 none) (by decide +kernel)) rfl (by rw [hml]; exact hl.1) rfl dX1_init_1 (Nat.le_of_ble_eq_true rfl) (Nat.le_of_ble_eq_true rfl) ?_
  refine W.eq (g2 := F0 m 4 ls []) rfl ?_
  refine lv_aload_n hx hb dX1_init_4 rfl (lv_at hl 0 rfl) ?_
  refine va_new (ci := 0) (fs := [.int 0, .null, .int 0]) (own := RX1) (C := RJx4a65c) (T := TJx4a65c) (N := 3) hx hb hts hiJx4a65c tyJx4a65c tyJx4a65c_ok hown (hts (.classLink RX1 7 RJx4a65c) (by decide +kernel)) (hts (.instantiable RJx4a65c 3) (by decide +kernel)) (hts (.initialized RJx4a65c) (by decide +kernel)) hK.1 hP hD hS hA rfl (fun j hj => by rcases (show j = 0 ∨ j = 1 ∨ j = 2 by omega) with rfl | rfl | rfl <;> rfl) (Nat.le_of_ble_eq_true rfl) (Nat.le_of_ble_eq_true rfl) dX1_init_5 (fun ql H hP hD hS => ?_)
  have hP : va_P G.1 vwCl [(h, .inr (2, [.null, .null, .null, .null, .int 0, .long 0])), (ql, .inr (0, [.int 0, .null, .int 0]))] H := hP
  have hD : va_D A [(h, .inr (2, [.null, .null, .null, .null, .int 0, .long 0])), (ql, .inr (0, [.int 0, .null, .int 0]))] := hD
  refine lv_dup hx hb dX1_init_8 rfl ?_
  refine wrI_v (wr := [(h, .inr (2, [.null, .null, .null, .null, .int 0, .long 0]))]) (b := ql) (As := []) (rest := [.ref ql, .ref h]) ⟨hx, hb, hml, hown, hts⟩ (c_Jx4a65c_init_da8c8 l G ql) cw9 hK hZ hP hD hS hA rfl hl.1 rfl (Nat.le_of_ble_eq_true rfl) dX1_init_9 ⟨(Nat.le_of_ble_eq_true rfl), (Nat.le_of_ble_eq_true rfl)⟩ (fun _ H locs _ hP hD hS => ?_)
  have hP : va_P G.1 vwCl [(h, .inr (2, [.null, .null, .null, .null, .int 0, .long 0])), (ql, .inr (0, [.int 0, .ref (gS G), .int 0]))] H := hP
  have hD : va_D A [(h, .inr (2, [.null, .null, .null, .null, .int 0, .long 0])), (ql, .inr (0, [.int 0, .ref (gS G), .int 0]))] := hD
  refine va_putF (D := G.1) (ci := 2) (v := .ref ql) (ty := (.object "java/util/ArrayList")) (own := RX1) (C := RX1) (T := TX1) (N := 6) hx hb hts hiX1 tyX1 tyX1_ok nmX1 hown hK.1 hP hD hS 0 rfl rfl 0 (by decide) lf10 (fun _ h9 => h9) rfl hin rfl (by decide +kernel) rfl rfl (Nat.le_of_ble_eq_true rfl) dX1_init_12 (fun H locs hP hD hS => ?_)
  have hP : va_P G.1 vwCl [(h, .inr (2, [.ref ql, .null, .null, .null, .int 0, .long 0])), (ql, .inr (0, [.int 0, .ref (gS G), .int 0]))] H := hP
  have hD : va_D A [(h, .inr (2, [.ref ql, .null, .null, .null, .int 0, .long 0])), (ql, .inr (0, [.int 0, .ref (gS G), .int 0]))] := hD
  refine lv_aload_n hx hb dX1_init_15 rfl (lv_at hl 0 rfl) ?_
  refine lv_bipush (v := 9) hx hb dX1_init_16 (by decide) ?_
  refine va_newa (atype := .int) hx hb (hts (.arrayClass .int) (by decide +kernel)) rfl hK.1 hP hD hS hA (n := 9) (N' := 9) (a0 := (9, .inl (fun _ => 0))) (fun _ => rfl) (by decide) (by decide) (Nat.le_of_ble_eq_true rfl) (Nat.le_of_ble_eq_true rfl) (Nat.le_of_ble_eq_true rfl) dX1_init_18 (fun qr cA H hK2 hP hD hS => ?_)
  obtain rfl : cA = gI G := Option.some.inj ((va_nm_int (hK2.2 4 _ rfl).2).symm.trans (va_nm_int (hK.1.2 0 _ rfl).2))
  have hP : va_P G.1 vwCl [(h, .inr (2, [.ref ql, .null, .null, .null, .int 0, .long 0])), (ql, .inr (0, [.int 0, .ref (gS G), .int 0])), aI G qr 9 (fun _ => 0)] H := hP
  have hD : va_D A [(h, .inr (2, [.ref ql, .null, .null, .null, .int 0, .long 0])), (ql, .inr (0, [.int 0, .ref (gS G), .int 0])), aI G qr 9 (fun _ => 0)] := hD
  refine va_putF (D := G.1) (ci := 2) (v := .ref qr) (ty := (.array .int)) (own := RX1) (C := RX1) (T := TX1) (N := 6) hx hb hts hiX1 tyX1 tyX1_ok nmX1 hown hK.1 hP hD hS 0 rfl rfl 1 (by decide) lf16 (fun _ h9 => h9) rfl hin rfl (by decide +kernel) rfl rfl (Nat.le_of_ble_eq_true rfl) dX1_init_20 (fun H locs hP hD hS => ?_)
  have hP : va_P G.1 vwCl [(h, .inr (2, [.ref ql, .ref qr, .null, .null, .int 0, .long 0])), (ql, .inr (0, [.int 0, .ref (gS G), .int 0])), aI G qr 9 (fun _ => 0)] H := hP
  have hD : va_D A [(h, .inr (2, [.ref ql, .ref qr, .null, .null, .int 0, .long 0])), (ql, .inr (0, [.int 0, .ref (gS G), .int 0])), aI G qr 9 (fun _ => 0)] := hD
  refine lv_aload_n hx hb dX1_init_23 rfl (lv_at hl 0 rfl) ?_
  refine lv_bipush (v := 100) hx hb dX1_init_24 (by decide) ?_
  refine va_newa (atype := .int) hx hb (hts (.arrayClass .int) (by decide +kernel)) rfl hK.1 hP hD hS hA (n := 100) (N' := 100) (a0 := (100, .inl (fun _ => 0))) (fun _ => rfl) (by decide) (by decide) (Nat.le_of_ble_eq_true rfl) (Nat.le_of_ble_eq_true rfl) (Nat.le_of_ble_eq_true rfl) dX1_init_26 (fun qp cA H hK2 hP hD hS => ?_)
  obtain rfl : cA = gI G := Option.some.inj ((va_nm_int (hK2.2 4 _ rfl).2).symm.trans (va_nm_int (hK.1.2 0 _ rfl).2))
  have hP : va_P G.1 vwCl [(h, .inr (2, [.ref ql, .ref qr, .null, .null, .int 0, .long 0])), (ql, .inr (0, [.int 0, .ref (gS G), .int 0])), aI G qr 9 (fun _ => 0), aI G qp 100 (fun _ => 0)] H := hP
  have hD : va_D A [(h, .inr (2, [.ref ql, .ref qr, .null, .null, .int 0, .long 0])), (ql, .inr (0, [.int 0, .ref (gS G), .int 0])), aI G qr 9 (fun _ => 0), aI G qp 100 (fun _ => 0)] := hD
  refine va_putF (D := G.1) (ci := 2) (v := .ref qp) (ty := (.array .int)) (own := RX1) (C := RX1) (T := TX1) (N := 6) hx hb hts hiX1 tyX1 tyX1_ok nmX1 hown hK.1 hP hD hS 0 rfl rfl 2 (by decide) lf20 (fun _ h9 => h9) rfl hin rfl (by decide +kernel) rfl rfl (Nat.le_of_ble_eq_true rfl) dX1_init_28 (fun H locs hP hD hS => ?_)
  have hP : va_P G.1 vwCl [(h, .inr (2, [.ref ql, .ref qr, .ref qp, .null, .int 0, .long 0])), (ql, .inr (0, [.int 0, .ref (gS G), .int 0])), aI G qr 9 (fun _ => 0), aI G qp 100 (fun _ => 0)] H := hP
  have hD : va_D A [(h, .inr (2, [.ref ql, .ref qr, .ref qp, .null, .int 0, .long 0])), (ql, .inr (0, [.int 0, .ref (gS G), .int 0])), aI G qr 9 (fun _ => 0), aI G qp 100 (fun _ => 0)] := hD
  refine lv_aload_n hx hb dX1_init_31 rfl (lv_at hl 0 rfl) ?_
  refine lv_bipush (v := 99) hx hb dX1_init_32 (by decide) ?_
  refine va_newa (atype := .int) hx hb (hts (.arrayClass .int) (by decide +kernel)) rfl hK.1 hP hD hS hA (n := 99) (N' := 99) (a0 := (99, .inl (fun _ => 0))) (fun _ => rfl) (by decide) (by decide) (Nat.le_of_ble_eq_true rfl) (Nat.le_of_ble_eq_true rfl) (Nat.le_of_ble_eq_true rfl) dX1_init_34 (fun qt cA H hK2 hP hD hS => ?_)
  obtain rfl : cA = gI G := Option.some.inj ((va_nm_int (hK2.2 4 _ rfl).2).symm.trans (va_nm_int (hK.1.2 0 _ rfl).2))
  have hP : va_P G.1 vwCl [(h, .inr (2, [.ref ql, .ref qr, .ref qp, .null, .int 0, .long 0])), (ql, .inr (0, [.int 0, .ref (gS G), .int 0])), aI G qr 9 (fun _ => 0), aI G qp 100 (fun _ => 0), aI G qt 99 (fun _ => 0)] H := hP
  have hD : va_D A [(h, .inr (2, [.ref ql, .ref qr, .ref qp, .null, .int 0, .long 0])), (ql, .inr (0, [.int 0, .ref (gS G), .int 0])), aI G qr 9 (fun _ => 0), aI G qp 100 (fun _ => 0), aI G qt 99 (fun _ => 0)] := hD
  refine va_putF (D := G.1) (ci := 2) (v := .ref qt) (ty := (.array .int)) (own := RX1) (C := RX1) (T := TX1) (N := 6) hx hb hts hiX1 tyX1 tyX1_ok nmX1 hown hK.1 hP hD hS 0 rfl rfl 3 (by decide) lf23 (fun _ h9 => h9) rfl hin rfl (by decide +kernel) rfl rfl (Nat.le_of_ble_eq_true rfl) dX1_init_36 (fun H locs hP hD hS => ?_)
  have hP : va_P G.1 vwCl [(h, .inr (2, [.ref ql, .ref qr, .ref qp, .ref qt, .int 0, .long 0])), (ql, .inr (0, [.int 0, .ref (gS G), .int 0])), aI G qr 9 (fun _ => 0), aI G qp 100 (fun _ => 0), aI G qt 99 (fun _ => 0)] H := hP
  have hD : va_D A [(h, .inr (2, [.ref ql, .ref qr, .ref qp, .ref qt, .int 0, .long 0])), (ql, .inr (0, [.int 0, .ref (gS G), .int 0])), aI G qr 9 (fun _ => 0), aI G qp 100 (fun _ => 0), aI G qt 99 (fun _ => 0)] := hD
  refine lv_aload_n hx hb dX1_init_39 rfl (lv_at hl 0 rfl) ?_
  refine lv_iconst (v := 0) hx hb dX1_init_40 (by decide) ?_
  refine va_put (D := G.1) (ci := 2) (v := .int 0) (ty := .int) (own := RX1) (C := RX1) (T := TX1) (N := 6) hx hb hts hiX1 tyX1 tyX1_ok nmX1 hown hK.1 hP hD hS 0 rfl rfl 4 (by decide) lf26 (fun _ h9 => h9) rfl (by decide +kernel) rfl rfl (Nat.le_of_ble_eq_true rfl) dX1_init_41 (fun H locs hP hD hS => ?_)
  have hP : va_P G.1 vwCl [(h, .inr (2, [.ref ql, .ref qr, .ref qp, .ref qt, .int 0, .long 0])), (ql, .inr (0, [.int 0, .ref (gS G), .int 0])), aI G qr 9 (fun _ => 0), aI G qp 100 (fun _ => 0), aI G qt 99 (fun _ => 0)] H := hP
  have hD : va_D A [(h, .inr (2, [.ref ql, .ref qr, .ref qp, .ref qt, .int 0, .long 0])), (ql, .inr (0, [.int 0, .ref (gS G), .int 0])), aI G qr 9 (fun _ => 0), aI G qp 100 (fun _ => 0), aI G qt 99 (fun _ => 0)] := hD
  refine lv_aload_n hx hb dX1_init_44 rfl (lv_at hl 0 rfl) ?_
  refine lv_lconst (v := 0) hx hb dX1_init_45 rfl ?_
  refine va_put (D := G.1) (ci := 2) (v := .long 0) (ty := .long) (own := RX1) (C := RX1) (T := TX1) (N := 6) hx hb hts hiX1 tyX1 tyX1_ok nmX1 hown hK.1 hP hD hS 0 rfl rfl 5 (by decide) lf30 (fun _ h9 => h9) rfl (by decide +kernel) rfl rfl (Nat.le_of_ble_eq_true rfl) dX1_init_46 (fun H locs hP hD hS => ?_)
  have hP : va_P G.1 vwCl [(h, .inr (2, [.ref ql, .ref qr, .ref qp, .ref qt, .int 0, .long 0])), (ql, .inr (0, [.int 0, .ref (gS G), .int 0])), aI G qr 9 (fun _ => 0), aI G qp 100 (fun _ => 0), aI G qt 99 (fun _ => 0)] H := hP
  have hD : va_D A [(h, .inr (2, [.ref ql, .ref qr, .ref qp, .ref qt, .int 0, .long 0])), (ql, .inr (0, [.int 0, .ref (gS G), .int 0])), aI G qr 9 (fun _ => 0), aI G qp 100 (fun _ => 0), aI G qt 99 (fun _ => 0)] := hD
  have hP2 := hP.sub [0, 2, 3, 4, 1] rfl
  have hD2 := hD.sub (ws' := WC G (h, ql, qr, qp, qt) κ0 σ0) [0, 2, 3, 4, 1] (by decide) rfl
  exact hret _ _ _ _ _ _ (h, ql, qr, qp, qt) dX1_init_49 rfl hP2 hD2 hS (Nat.le_of_ble_eq_true rfl) (Nat.le_of_ble_eq_true rfl)
