-- ===== laid by wip/whole/gen.py out of the decode rows =====
abbrev rmX (f lo mc ms : Nat) : Room := { frames := f, cells := mc, slots := ms, locals := lo }
set_option maxHeartbeats 4000000 in
set_option maxRecDepth 100000 in
/-- X1_isAddress -/
theorem c_X1_isAddress (l : Launch) (G : GG) (x : Int32) : RdI l yX1_isAddress wsX1_isAddress (rmX 0 0 0 0) G [.int x] [] (fun r => ((r.toInt = 1 ∧ (1 ≤ (x).toInt ∧ (x).toInt ≤ 99)) ∨ (r.toInt = 0 ∧ ¬ (1 ≤ (x).toInt ∧ (x).toInt ≤ 99)))) := by
  refine rd_of_i (cc := cX1_isAddress) (maxL := 1) (t := .boolean) (by decide +kernel) rfl (Nat.le_of_ble_eq_true rfl) nar_bool ?_
  intro p e s m args below meth c Q hx hb hml hown hts hP hK hret ls hl
  have hown : s.vm.findClass RX1 = some m.cls := hown
  have hl : lv_has ls 1 [(0, .int x)] := hl
  refine lv_iload_n hx hb dX1_isAddress_0 rfl (lv_at hl 0 rfl) ?_
  refine lv_iconst (v := 1) hx hb dX1_isAddress_1 (by decide) ?_
  refine lv_icmp_lt (tgt := 15) hx hb dX1_isAddress_2 (by decide) (fun c2_1 => ?_) (fun c2_1 => ?_)
  · have c2_1 : (x).toInt < 1 := (ti_lt (x := x) (y := 1) (a := (x).toInt) (b := 1) rfl rfl).mp c2_1
    refine lv_iconst (v := 0) hx hb dX1_isAddress_15 (by decide) ?_
    exact hret _ _ _ dX1_isAddress_16 (Or.inl rfl) (Or.inr ⟨rfl, by omega⟩)
  · have c2_1 : ¬ ((x).toInt < 1) := mt (ti_lt (x := x) (y := 1) (a := (x).toInt) (b := 1) rfl rfl).mpr c2_1
    refine lv_iload_n hx hb dX1_isAddress_5 rfl (lv_at hl 0 rfl) ?_
    refine lv_bipush (v := 99) hx hb dX1_isAddress_6 (by decide) ?_
    refine lv_icmp_gt (tgt := 15) hx hb dX1_isAddress_8 (by decide) (fun c8_2 => ?_) (fun c8_2 => ?_)
    · have c8_2 : 99 < (x).toInt := (ti_lt (x := 99) (y := x) (a := 99) (b := (x).toInt) rfl rfl).mp c8_2
      refine lv_iconst (v := 0) hx hb dX1_isAddress_15 (by decide) ?_
      exact hret _ _ _ dX1_isAddress_16 (Or.inl rfl) (Or.inr ⟨rfl, by omega⟩)
    · have c8_2 : ¬ (99 < (x).toInt) := mt (ti_lt (x := 99) (y := x) (a := 99) (b := (x).toInt) rfl rfl).mpr c8_2
      refine lv_iconst (v := 1) hx hb dX1_isAddress_11 (by decide) ?_
      refine lv_goto (tgt := 16) hx hb dX1_isAddress_12 (by decide) ?_
      exact hret _ _ _ dX1_isAddress_16 (Or.inr (Or.inl rfl)) (Or.inl ⟨rfl, by omega⟩)

set_option maxHeartbeats 4000000 in
set_option maxRecDepth 100000 in
/-- X1_isPerson -/
theorem c_X1_isPerson (l : Launch) (G : GG) (x : Int32) : RdI l yX1_isPerson wsX1_isPerson (rmX 0 0 0 0) G [.int x] [] (fun r => ((r.toInt = 1 ∧ (0 ≤ (x).toInt ∧ (x).toInt ≤ 49)) ∨ (r.toInt = 0 ∧ ¬ (0 ≤ (x).toInt ∧ (x).toInt ≤ 49)))) := by
  refine rd_of_i (cc := cX1_isPerson) (maxL := 1) (t := .boolean) (by decide +kernel) rfl (Nat.le_of_ble_eq_true rfl) nar_bool ?_
  intro p e s m args below meth c Q hx hb hml hown hts hP hK hret ls hl
  have hown : s.vm.findClass RX1 = some m.cls := hown
  have hl : lv_has ls 1 [(0, .int x)] := hl
  refine lv_iload_n hx hb dX1_isPerson_0 rfl (lv_at hl 0 rfl) ?_
  refine lv_if_lt (tgt := 14) hx hb dX1_isPerson_1 (by decide) (fun c1_1 => ?_) (fun c1_1 => ?_)
  · have c1_1 : (x).toInt < 0 := (ti_lt (x := x) (y := 0) (a := (x).toInt) (b := 0) rfl rfl).mp c1_1
    refine lv_iconst (v := 0) hx hb dX1_isPerson_14 (by decide) ?_
    exact hret _ _ _ dX1_isPerson_15 (Or.inl rfl) (Or.inr ⟨rfl, by omega⟩)
  · have c1_1 : ¬ ((x).toInt < 0) := mt (ti_lt (x := x) (y := 0) (a := (x).toInt) (b := 0) rfl rfl).mpr c1_1
    refine lv_iload_n hx hb dX1_isPerson_4 rfl (lv_at hl 0 rfl) ?_
    refine lv_bipush (v := 49) hx hb dX1_isPerson_5 (by decide) ?_
    refine lv_icmp_gt (tgt := 14) hx hb dX1_isPerson_7 (by decide) (fun c7_2 => ?_) (fun c7_2 => ?_)
    · have c7_2 : 49 < (x).toInt := (ti_lt (x := 49) (y := x) (a := 49) (b := (x).toInt) rfl rfl).mp c7_2
      refine lv_iconst (v := 0) hx hb dX1_isPerson_14 (by decide) ?_
      exact hret _ _ _ dX1_isPerson_15 (Or.inl rfl) (Or.inr ⟨rfl, by omega⟩)
    · have c7_2 : ¬ (49 < (x).toInt) := mt (ti_lt (x := 49) (y := x) (a := 49) (b := (x).toInt) rfl rfl).mpr c7_2
      refine lv_iconst (v := 1) hx hb dX1_isPerson_10 (by decide) ?_
      refine lv_goto (tgt := 15) hx hb dX1_isPerson_11 (by decide) ?_
      exact hret _ _ _ dX1_isPerson_15 (Or.inr (Or.inl rfl)) (Or.inl ⟨rfl, by omega⟩)

set_option maxHeartbeats 4000000 in
set_option maxRecDepth 100000 in
/-- X1_isKind -/
theorem c_X1_isKind (l : Launch) (G : GG) (x : Int32) : RdI l yX1_isKind wsX1_isKind (rmX 0 0 0 0) G [.int x] [] (fun r => ((r.toInt = 1 ∧ (0 ≤ (x).toInt ∧ (x).toInt < 9)) ∨ (r.toInt = 0 ∧ ¬ (0 ≤ (x).toInt ∧ (x).toInt < 9)))) := by
  refine rd_of_i (cc := cX1_isKind) (maxL := 1) (t := .boolean) (by decide +kernel) rfl (Nat.le_of_ble_eq_true rfl) nar_bool ?_
  intro p e s m args below meth c Q hx hb hml hown hts hP hK hret ls hl
  have hown : s.vm.findClass RX1 = some m.cls := hown
  have hl : lv_has ls 1 [(0, .int x)] := hl
  refine lv_iload_n hx hb dX1_isKind_0 rfl (lv_at hl 0 rfl) ?_
  refine lv_if_lt (tgt := 14) hx hb dX1_isKind_1 (by decide) (fun c1_1 => ?_) (fun c1_1 => ?_)
  · have c1_1 : (x).toInt < 0 := (ti_lt (x := x) (y := 0) (a := (x).toInt) (b := 0) rfl rfl).mp c1_1
    refine lv_iconst (v := 0) hx hb dX1_isKind_14 (by decide) ?_
    exact hret _ _ _ dX1_isKind_15 (Or.inl rfl) (Or.inr ⟨rfl, by omega⟩)
  · have c1_1 : ¬ ((x).toInt < 0) := mt (ti_lt (x := x) (y := 0) (a := (x).toInt) (b := 0) rfl rfl).mpr c1_1
    refine lv_iload_n hx hb dX1_isKind_4 rfl (lv_at hl 0 rfl) ?_
    refine lv_bipush (v := 9) hx hb dX1_isKind_5 (by decide) ?_
    refine lv_icmp_ge (tgt := 14) hx hb dX1_isKind_7 (by decide) (fun c7_2 => ?_) (fun c7_2 => ?_)
    · have c7_2 : 9 ≤ (x).toInt := (ti_le (x := 9) (y := x) (a := 9) (b := (x).toInt) rfl rfl).mp c7_2
      refine lv_iconst (v := 0) hx hb dX1_isKind_14 (by decide) ?_
      exact hret _ _ _ dX1_isKind_15 (Or.inl rfl) (Or.inr ⟨rfl, by omega⟩)
    · have c7_2 : ¬ (9 ≤ (x).toInt) := mt (ti_le (x := 9) (y := x) (a := 9) (b := (x).toInt) rfl rfl).mpr c7_2
      refine lv_iconst (v := 1) hx hb dX1_isKind_10 (by decide) ?_
      refine lv_goto (tgt := 15) hx hb dX1_isKind_11 (by decide) ?_
      exact hret _ _ _ dX1_isKind_15 (Or.inr (Or.inl rfl)) (Or.inl ⟨rfl, by omega⟩)

set_option maxHeartbeats 4000000 in
set_option maxRecDepth 100000 in
/-- X1_isDay -/
theorem c_X1_isDay (l : Launch) (G : GG) (x : Int64) : RdI l yX1_isDay wsX1_isDay (rmX 0 0 0 0) G [.long x] [] (fun r => ((r.toInt = 1 ∧ (0 ≤ (x).toInt ∧ (x).toInt ≤ 20000)) ∨ (r.toInt = 0 ∧ ¬ (0 ≤ (x).toInt ∧ (x).toInt ≤ 20000)))) := by
  refine rd_of_i (cc := cX1_isDay) (maxL := 2) (t := .boolean) (by decide +kernel) rfl (Nat.le_of_ble_eq_true rfl) nar_bool ?_
  intro p e s m args below meth c Q hx hb hml hown hts hP hK hret ls hl
  have hown : s.vm.findClass RX1 = some m.cls := hown
  have hl : lv_has ls 2 [(0, .long x)] := hl
  have kl121 := hts (.constantLong RX1 121 (20000)) (by decide +kernel)
  refine lv_lload_n hx hb dX1_isDay_0 rfl (lv_at hl 0 rfl) ?_
  refine lv_lconst (v := 0) hx hb dX1_isDay_1 rfl ?_
  refine lc_lt (tgt := 18) hx hb dX1_isDay_2 dX1_isDay_3 (by decide) (fun c2_1 => ?_) (fun c2_1 => ?_)
  · have c2_1 : (x).toInt < 0 := (tl_lt (x := x) (y := 0) (a := (x).toInt) (b := 0) rfl rfl).mp c2_1
    refine lv_iconst (v := 0) hx hb dX1_isDay_18 (by decide) ?_
    exact hret _ _ _ dX1_isDay_19 (Or.inl rfl) (Or.inr ⟨rfl, by omega⟩)
  · have c2_1 : ¬ ((x).toInt < 0) := mt (tl_lt (x := x) (y := 0) (a := (x).toInt) (b := 0) rfl rfl).mpr c2_1
    refine lv_lload_n hx hb dX1_isDay_6 rfl (lv_at hl 0 rfl) ?_
    refine lv_ldc2 (v := 20000) hx hb hown kl121 dX1_isDay_7 ?_
    refine lc_gt (tgt := 18) hx hb dX1_isDay_10 dX1_isDay_11 (by decide) (fun c10_2 => ?_) (fun c10_2 => ?_)
    · have c10_2 : 20000 < (x).toInt := (tl_lt (x := 20000) (y := x) (a := 20000) (b := (x).toInt) rfl rfl).mp c10_2
      refine lv_iconst (v := 0) hx hb dX1_isDay_18 (by decide) ?_
      exact hret _ _ _ dX1_isDay_19 (Or.inl rfl) (Or.inr ⟨rfl, by omega⟩)
    · have c10_2 : ¬ (20000 < (x).toInt) := mt (tl_lt (x := 20000) (y := x) (a := 20000) (b := (x).toInt) rfl rfl).mpr c10_2
      refine lv_iconst (v := 1) hx hb dX1_isDay_14 (by decide) ?_
      refine lv_goto (tgt := 19) hx hb dX1_isDay_15 (by decide) ?_
      exact hret _ _ _ dX1_isDay_19 (Or.inr (Or.inl rfl)) (Or.inl ⟨rfl, by omega⟩)

set_option maxHeartbeats 4000000 in
set_option maxRecDepth 100000 in
/-- doneBy -/
theorem c_X1_doneBy (l : Launch) (G : GG) (x : Int32) (h0 : 0 ≤ (x).toInt) : RdI l yX1_doneBy wsX1_doneBy (rmX 0 0 0 0) G [.int x] [] (fun r => r.toInt = (x).toInt / 3) := by
  refine rd_of_i (cc := cX1_doneBy) (maxL := 1) (t := .int) (by decide +kernel) rfl (Nat.le_of_ble_eq_true rfl) nar_int ?_
  intro p e s m args below meth c Q hx hb hml hown hts hP hK hret ls hl
  have hown : s.vm.findClass RX1 = some m.cls := hown
  have hl : lv_has ls 1 [(0, .int x)] := hl
  refine lv_iload_n hx hb dX1_doneBy_0 rfl (lv_at hl 0 rfl) ?_
  refine lv_iconst (v := 3) hx hb dX1_doneBy_1 (by decide) ?_
  refine lv_idiv hx hb dX1_doneBy_2 (by decide) ?_
  refine lv_topi (fun y2_1 e2_1 => ?_)
  have v2_1 : (y2_1).toInt = ((x).toInt / 3) := by rw [e2_1]; exact ti_div3 rfl (by omega)
  exact hret _ _ _ dX1_doneBy_3 (Or.inr (Or.inr rfl)) v2_1

set_option maxHeartbeats 4000000 in
set_option maxRecDepth 100000 in
/-- isOver -/
theorem c_X0_isOver (l : Launch) (G : GG) (h : Nat) (o : Ord) : RdI l yX0_isOver wsX0_isOver (rmX 0 0 0 0) G [.ref h] [(h, .inr (1, fl o))] (fun r => ((r.toInt = 1 ∧ ((oX o).toInt ≠ 20001)) ∨ (r.toInt = 0 ∧ ¬ ((oX o).toInt ≠ 20001)))) := by
  refine rd_of_i (cc := cX0_isOver) (maxL := 1) (t := .boolean) (by decide +kernel) rfl (Nat.le_of_ble_eq_true rfl) nar_bool ?_
  intro p e s m args below meth c Q hx hb hml hown hts hP hK hret ls hl
  have hown : s.vm.findClass RX0 = some m.cls := hown
  have hl : lv_has ls 1 [(0, .ref h)] := hl
  have hP : va_P G.1 vwCl [(h, .inr (1, fl o))] s.heap := hP
  have hiX0 := (show ∀ w ∈ u_ws RX0 TX0 9, w ∈ wsX0_isOver by decide +kernel)
  have lf36 := hts (.fieldLink RX0 36 "OrderRows2$Order" "overFrom" "J") (by decide +kernel)
  have kl34 := hts (.constantLong RX0 34 (20001)) (by decide +kernel)
  refine lv_aload_n hx hb dX0_isOver_0 rfl (lv_at hl 0 rfl) ?_
  refine va_get (D := G.1) (ci := 1) (v := .long (oX o)) (own := RX0) (C := RX0) (T := TX0) (N := 9) hx hb hts hiX0 hown hK.1 hP 0 rfl rfl 7 (by decide) lf36 (fun _ h9 => h9) rfl dX0_isOver_1 ?_
  refine lv_ldc2 (v := 20001) hx hb hown kl34 dX0_isOver_4 ?_
  refine lc_eq (tgt := 15) hx hb dX0_isOver_7 dX0_isOver_8 (by decide) (fun c7_1 => ?_) (fun c7_1 => ?_)
  · have c7_1 : ((oX o)).toInt = 20001 := (tl_eq (x := (oX o)) (y := 20001) (a := ((oX o)).toInt) (b := 20001) rfl rfl).mp c7_1
    refine lv_iconst (v := 0) hx hb dX0_isOver_15 (by decide) ?_
    exact hret _ _ _ dX0_isOver_16 (Or.inl rfl) (Or.inr ⟨rfl, by omega⟩)
  · have c7_1 : ¬ (((oX o)).toInt = 20001) := mt (tl_eq (x := (oX o)) (y := 20001) (a := ((oX o)).toInt) (b := 20001) rfl rfl).mpr c7_1
    refine lv_iconst (v := 1) hx hb dX0_isOver_11 (by decide) ?_
    refine lv_goto (tgt := 16) hx hb dX0_isOver_12 (by decide) ?_
    exact hret _ _ _ dX0_isOver_16 (Or.inr (Or.inl rfl)) (Or.inl ⟨rfl, by omega⟩)

set_option maxHeartbeats 4000000 in
set_option maxRecDepth 100000 in
/-- sendsOn -/
theorem c_X0_sendsOn (l : Launch) (G : GG) (h : Nat) (o : Ord) (hk : 0 ≤ (oK o).toInt) : RdI l yX0_sendsOn wsX0_sendsOn (rmX 1 40 0 0) G [.ref h] [(h, .inr (1, fl o))] (fun r => ((r.toInt = 1 ∧ ((oK o).toInt < 3)) ∨ (r.toInt = 0 ∧ ¬ ((oK o).toInt < 3)))) := by
  refine rd_of_i (cc := cX0_sendsOn) (maxL := 1) (t := .boolean) (by decide +kernel) rfl (Nat.le_of_ble_eq_true rfl) nar_bool ?_
  intro p e s m args below meth c Q hx hb hml hown hts hP hK hret ls hl
  have hown : s.vm.findClass RX0 = some m.cls := hown
  have hl : lv_has ls 1 [(0, .ref h)] := hl
  have hP : va_P G.1 vwCl [(h, .inr (1, fl o))] s.heap := hP
  have hiX0 := (show ∀ w ∈ u_ws RX0 TX0 9, w ∈ wsX0_sendsOn by decide +kernel)
  have lf9 := hts (.fieldLink RX0 9 "OrderRows2$Order" "kind" "I") (by decide +kernel)
  refine lv_aload_n hx hb dX0_sendsOn_0 rfl (lv_at hl 0 rfl) ?_
  refine va_get (D := G.1) (ci := 1) (v := .int (oK o)) (own := RX0) (C := RX0) (T := TX0) (N := 9) hx hb hts hiX0 hown hK.1 hP 0 rfl rfl 0 (by decide) lf9 (fun _ h9 => h9) rfl dX0_sendsOn_1 ?_
  refine rdSN_i (host := RX1) (As := [.int (oK o)]) (rest := []) ⟨hx, hb, hml, hown, hts⟩ (c_X1_doneBy l G (oK o) (by omega)) ⟨va_cnB (R := (rmX 1 40 0 0)) (rm := (rmX 0 0 0 0)) (mc := 0) (ms := 0) 1 hts gX0_sendsOn_X1_doneBy_n43 rfl rfl rfl hK.2.2.2.2.2 (hts (.initialized RX1) (by decide +kernel)) (by decide +kernel) ⟨Nat.le_of_ble_eq_true rfl, Nat.le_of_ble_eq_true rfl⟩, hts (.static yX1_doneBy) (by decide +kernel), trivial⟩ hK va_P.nil rfl hl.1 rfl (Nat.le_of_ble_eq_true rfl) dX0_sendsOn_4 ⟨Nat.zero_le _, Nat.zero_le _⟩ (fun r1 w1 => ?_)
  have w1 : r1.toInt = ((oK o)).toInt / 3 := w1
  refine lv_if_ne (tgt := 14) hx hb dX0_sendsOn_7 (by decide) (fun c7_2 => ?_) (fun c7_2 => ?_)
  · have c7_2 : ¬ ((r1).toInt = 0) := mt (ti_eq (x := r1) (y := 0) (a := (r1).toInt) (b := 0) rfl rfl).mpr c7_2
    refine lv_iconst (v := 0) hx hb dX0_sendsOn_14 (by decide) ?_
    exact hret _ _ _ dX0_sendsOn_15 (Or.inl rfl) (Or.inr ⟨rfl, by omega⟩)
  · have c7_2 : (r1).toInt = 0 := (ti_eq (x := r1) (y := 0) (a := (r1).toInt) (b := 0) rfl rfl).mp c7_2
    refine lv_iconst (v := 1) hx hb dX0_sendsOn_10 (by decide) ?_
    refine lv_goto (tgt := 15) hx hb dX0_sendsOn_11 (by decide) ?_
    exact hret _ _ _ dX0_sendsOn_15 (Or.inr (Or.inl rfl)) (Or.inl ⟨rfl, by omega⟩)

set_option maxHeartbeats 4000000 in
set_option maxRecDepth 100000 in
/-- concerns -/
theorem c_X0_concerns (l : Launch) (G : GG) (h : Nat) (o : Ord) (a w k : Int32) (hk : 0 ≤ (oK o).toInt) : RdI l yX0_concerns wsX0_concerns (rmX 0 0 0 0) G [.ref h, .int a, .int w, .int k] [(h, .inr (1, fl o))] (fun r => ((r.toInt = 1 ∧ ((oE o).toInt = (a).toInt ∧ ((oW o).toInt = -1 ∨ (oW o).toInt = (w).toInt) ∧ (oK o).toInt % 3 = (k).toInt)) ∨ (r.toInt = 0 ∧ ¬ ((oE o).toInt = (a).toInt ∧ ((oW o).toInt = -1 ∨ (oW o).toInt = (w).toInt) ∧ (oK o).toInt % 3 = (k).toInt)))) := by
  refine rd_of_i (cc := cX0_concerns) (maxL := 4) (t := .boolean) (by decide +kernel) rfl (Nat.le_of_ble_eq_true rfl) nar_bool ?_
  intro p e s m args below meth c Q hx hb hml hown hts hP hK hret ls hl
  have hown : s.vm.findClass RX0 = some m.cls := hown
  have hl : lv_has ls 4 [(0, .ref h), (1, .int a), (2, .int w), (3, .int k)] := hl
  have hP : va_P G.1 vwCl [(h, .inr (1, fl o))] s.heap := hP
  have hiX0 := (show ∀ w ∈ u_ws RX0 TX0 9, w ∈ wsX0_concerns by decide +kernel)
  have lf15 := hts (.fieldLink RX0 15 "OrderRows2$Order" "entry" "I") (by decide +kernel)
  have lf18 := hts (.fieldLink RX0 18 "OrderRows2$Order" "who" "I") (by decide +kernel)
  have lf9 := hts (.fieldLink RX0 9 "OrderRows2$Order" "kind" "I") (by decide +kernel)
  refine lv_aload_n hx hb dX0_concerns_0 rfl (lv_at hl 0 rfl) ?_
  refine va_get (D := G.1) (ci := 1) (v := .int (oE o)) (own := RX0) (C := RX0) (T := TX0) (N := 9) hx hb hts hiX0 hown hK.1 hP 0 rfl rfl 1 (by decide) lf15 (fun _ h9 => h9) rfl dX0_concerns_1 ?_
  refine lv_iload_n hx hb dX0_concerns_4 rfl (lv_at hl 1 rfl) ?_
  refine lv_icmp_ne (tgt := 38) hx hb dX0_concerns_5 (by decide) (fun c5_1 => ?_) (fun c5_1 => ?_)
  · have c5_1 : ¬ (((oE o)).toInt = (a).toInt) := mt (ti_eq (x := (oE o)) (y := a) (a := ((oE o)).toInt) (b := (a).toInt) rfl rfl).mpr c5_1
    refine lv_iconst (v := 0) hx hb dX0_concerns_38 (by decide) ?_
    exact hret _ _ _ dX0_concerns_39 (Or.inl rfl) (Or.inr ⟨rfl, by omega⟩)
  · have c5_1 : ((oE o)).toInt = (a).toInt := (ti_eq (x := (oE o)) (y := a) (a := ((oE o)).toInt) (b := (a).toInt) rfl rfl).mp c5_1
    refine lv_aload_n hx hb dX0_concerns_8 rfl (lv_at hl 0 rfl) ?_
    refine va_get (D := G.1) (ci := 1) (v := .int (oW o)) (own := RX0) (C := RX0) (T := TX0) (N := 9) hx hb hts hiX0 hown hK.1 hP 0 rfl rfl 2 (by decide) lf18 (fun _ h9 => h9) rfl dX0_concerns_9 ?_
    refine lv_iconst (v := (-1)) hx hb dX0_concerns_12 (by decide) ?_
    refine lv_icmp_eq (tgt := 24) hx hb dX0_concerns_13 (by decide) (fun c13_2 => ?_) (fun c13_2 => ?_)
    · have c13_2 : ((oW o)).toInt = (-1) := (ti_eq (x := (oW o)) (y := (-1)) (a := ((oW o)).toInt) (b := (-1)) rfl rfl).mp c13_2
      refine lv_aload_n hx hb dX0_concerns_24 rfl (lv_at hl 0 rfl) ?_
      refine va_get (D := G.1) (ci := 1) (v := .int (oK o)) (own := RX0) (C := RX0) (T := TX0) (N := 9) hx hb hts hiX0 hown hK.1 hP 0 rfl rfl 0 (by decide) lf9 (fun _ h9 => h9) rfl dX0_concerns_25 ?_
      refine lv_iconst (v := 3) hx hb dX0_concerns_28 (by decide) ?_
      refine lv_irem hx hb dX0_concerns_29 (by decide) ?_
      refine lv_topi (fun y29_3 e29_3 => ?_)
      have v29_3 : (y29_3).toInt = (((oK o)).toInt % 3) := by rw [e29_3]; exact ti_rem3 rfl (by omega)
      refine lv_iload_n hx hb dX0_concerns_30 rfl (lv_at hl 3 rfl) ?_
      refine lv_icmp_ne (tgt := 38) hx hb dX0_concerns_31 (by decide) (fun c31_4 => ?_) (fun c31_4 => ?_)
      · have c31_4 : ¬ ((((oK o)).toInt % 3) = (k).toInt) := mt (ti_eq (x := y29_3) (y := k) (a := (((oK o)).toInt % 3)) (b := (k).toInt) v29_3 rfl).mpr c31_4
        refine lv_iconst (v := 0) hx hb dX0_concerns_38 (by decide) ?_
        exact hret _ _ _ dX0_concerns_39 (Or.inl rfl) (Or.inr ⟨rfl, by omega⟩)
      · have c31_4 : (((oK o)).toInt % 3) = (k).toInt := (ti_eq (x := y29_3) (y := k) (a := (((oK o)).toInt % 3)) (b := (k).toInt) v29_3 rfl).mp c31_4
        refine lv_iconst (v := 1) hx hb dX0_concerns_34 (by decide) ?_
        refine lv_goto (tgt := 39) hx hb dX0_concerns_35 (by decide) ?_
        exact hret _ _ _ dX0_concerns_39 (Or.inr (Or.inl rfl)) (Or.inl ⟨rfl, by omega⟩)
    · have c13_2 : ¬ (((oW o)).toInt = (-1)) := mt (ti_eq (x := (oW o)) (y := (-1)) (a := ((oW o)).toInt) (b := (-1)) rfl rfl).mpr c13_2
      refine lv_aload_n hx hb dX0_concerns_16 rfl (lv_at hl 0 rfl) ?_
      refine va_get (D := G.1) (ci := 1) (v := .int (oW o)) (own := RX0) (C := RX0) (T := TX0) (N := 9) hx hb hts hiX0 hown hK.1 hP 0 rfl rfl 2 (by decide) lf18 (fun _ h9 => h9) rfl dX0_concerns_17 ?_
      refine lv_iload_n hx hb dX0_concerns_20 rfl (lv_at hl 2 rfl) ?_
      refine lv_icmp_ne (tgt := 38) hx hb dX0_concerns_21 (by decide) (fun c21_5 => ?_) (fun c21_5 => ?_)
      · have c21_5 : ¬ (((oW o)).toInt = (w).toInt) := mt (ti_eq (x := (oW o)) (y := w) (a := ((oW o)).toInt) (b := (w).toInt) rfl rfl).mpr c21_5
        refine lv_iconst (v := 0) hx hb dX0_concerns_38 (by decide) ?_
        exact hret _ _ _ dX0_concerns_39 (Or.inl rfl) (Or.inr ⟨rfl, by omega⟩)
      · have c21_5 : ((oW o)).toInt = (w).toInt := (ti_eq (x := (oW o)) (y := w) (a := ((oW o)).toInt) (b := (w).toInt) rfl rfl).mp c21_5
        refine lv_aload_n hx hb dX0_concerns_24 rfl (lv_at hl 0 rfl) ?_
        refine va_get (D := G.1) (ci := 1) (v := .int (oK o)) (own := RX0) (C := RX0) (T := TX0) (N := 9) hx hb hts hiX0 hown hK.1 hP 0 rfl rfl 0 (by decide) lf9 (fun _ h9 => h9) rfl dX0_concerns_25 ?_
        refine lv_iconst (v := 3) hx hb dX0_concerns_28 (by decide) ?_
        refine lv_irem hx hb dX0_concerns_29 (by decide) ?_
        refine lv_topi (fun y29_6 e29_6 => ?_)
        have v29_6 : (y29_6).toInt = (((oK o)).toInt % 3) := by rw [e29_6]; exact ti_rem3 rfl (by omega)
        refine lv_iload_n hx hb dX0_concerns_30 rfl (lv_at hl 3 rfl) ?_
        refine lv_icmp_ne (tgt := 38) hx hb dX0_concerns_31 (by decide) (fun c31_7 => ?_) (fun c31_7 => ?_)
        · have c31_7 : ¬ ((((oK o)).toInt % 3) = (k).toInt) := mt (ti_eq (x := y29_6) (y := k) (a := (((oK o)).toInt % 3)) (b := (k).toInt) v29_6 rfl).mpr c31_7
          refine lv_iconst (v := 0) hx hb dX0_concerns_38 (by decide) ?_
          exact hret _ _ _ dX0_concerns_39 (Or.inl rfl) (Or.inr ⟨rfl, by omega⟩)
        · have c31_7 : (((oK o)).toInt % 3) = (k).toInt := (ti_eq (x := y29_6) (y := k) (a := (((oK o)).toInt % 3)) (b := (k).toInt) v29_6 rfl).mp c31_7
          refine lv_iconst (v := 1) hx hb dX0_concerns_34 (by decide) ?_
          refine lv_goto (tgt := 39) hx hb dX0_concerns_35 (by decide) ?_
          exact hret _ _ _ dX0_concerns_39 (Or.inr (Or.inl rfl)) (Or.inl ⟨rfl, by omega⟩)

set_option maxHeartbeats 4000000 in
set_option maxRecDepth 100000 in
/-- isInForce -/
theorem c_X0_isInForce (l : Launch) (G : GG) (h : Nat) (o : Ord) (d : Int64) : RdI l yX0_isInForce wsX0_isInForce (rmX 0 0 0 0) G [.ref h, .long d] [(h, .inr (1, fl o))] (fun r => ((r.toInt = 1 ∧ ((oF o).toInt ≤ (d).toInt ∧ (d).toInt ≤ (oU o).toInt ∧ (d).toInt < (oX o).toInt)) ∨ (r.toInt = 0 ∧ ¬ ((oF o).toInt ≤ (d).toInt ∧ (d).toInt ≤ (oU o).toInt ∧ (d).toInt < (oX o).toInt)))) := by
  refine rd_of_i (cc := cX0_isInForce) (maxL := 3) (t := .boolean) (by decide +kernel) rfl (Nat.le_of_ble_eq_true rfl) nar_bool ?_
  intro p e s m args below meth c Q hx hb hml hown hts hP hK hret ls hl
  have hown : s.vm.findClass RX0 = some m.cls := hown
  have hl : lv_has ls 3 [(0, .ref h), (1, .long d)] := hl
  have hP : va_P G.1 vwCl [(h, .inr (1, fl o))] s.heap := hP
  have hiX0 := (show ∀ w ∈ u_ws RX0 TX0 9, w ∈ wsX0_isInForce by decide +kernel)
  have lf24 := hts (.fieldLink RX0 24 "OrderRows2$Order" "from" "J") (by decide +kernel)
  have lf28 := hts (.fieldLink RX0 28 "OrderRows2$Order" "until" "J") (by decide +kernel)
  have lf36 := hts (.fieldLink RX0 36 "OrderRows2$Order" "overFrom" "J") (by decide +kernel)
  refine lv_aload_n hx hb dX0_isInForce_0 rfl (lv_at hl 0 rfl) ?_
  refine va_get (D := G.1) (ci := 1) (v := .long (oF o)) (own := RX0) (C := RX0) (T := TX0) (N := 9) hx hb hts hiX0 hown hK.1 hP 0 rfl rfl 4 (by decide) lf24 (fun _ h9 => h9) rfl dX0_isInForce_1 ?_
  refine lv_lload_n hx hb dX0_isInForce_4 rfl (lv_at hl 1 rfl) ?_
  refine lc_gt (tgt := 31) hx hb dX0_isInForce_5 dX0_isInForce_6 (by decide) (fun c5_1 => ?_) (fun c5_1 => ?_)
  · have c5_1 : (d).toInt < ((oF o)).toInt := (tl_lt (x := d) (y := (oF o)) (a := (d).toInt) (b := ((oF o)).toInt) rfl rfl).mp c5_1
    refine lv_iconst (v := 0) hx hb dX0_isInForce_31 (by decide) ?_
    exact hret _ _ _ dX0_isInForce_32 (Or.inl rfl) (Or.inr ⟨rfl, by omega⟩)
  · have c5_1 : ¬ ((d).toInt < ((oF o)).toInt) := mt (tl_lt (x := d) (y := (oF o)) (a := (d).toInt) (b := ((oF o)).toInt) rfl rfl).mpr c5_1
    refine lv_lload_n hx hb dX0_isInForce_9 rfl (lv_at hl 1 rfl) ?_
    refine lv_aload_n hx hb dX0_isInForce_10 rfl (lv_at hl 0 rfl) ?_
    refine va_get (D := G.1) (ci := 1) (v := .long (oU o)) (own := RX0) (C := RX0) (T := TX0) (N := 9) hx hb hts hiX0 hown hK.1 hP 0 rfl rfl 6 (by decide) lf28 (fun _ h9 => h9) rfl dX0_isInForce_11 ?_
    refine lc_gt (tgt := 31) hx hb dX0_isInForce_14 dX0_isInForce_15 (by decide) (fun c14_2 => ?_) (fun c14_2 => ?_)
    · have c14_2 : ((oU o)).toInt < (d).toInt := (tl_lt (x := (oU o)) (y := d) (a := ((oU o)).toInt) (b := (d).toInt) rfl rfl).mp c14_2
      refine lv_iconst (v := 0) hx hb dX0_isInForce_31 (by decide) ?_
      exact hret _ _ _ dX0_isInForce_32 (Or.inl rfl) (Or.inr ⟨rfl, by omega⟩)
    · have c14_2 : ¬ (((oU o)).toInt < (d).toInt) := mt (tl_lt (x := (oU o)) (y := d) (a := ((oU o)).toInt) (b := (d).toInt) rfl rfl).mpr c14_2
      refine lv_lload_n hx hb dX0_isInForce_18 rfl (lv_at hl 1 rfl) ?_
      refine lv_aload_n hx hb dX0_isInForce_19 rfl (lv_at hl 0 rfl) ?_
      refine va_get (D := G.1) (ci := 1) (v := .long (oX o)) (own := RX0) (C := RX0) (T := TX0) (N := 9) hx hb hts hiX0 hown hK.1 hP 0 rfl rfl 7 (by decide) lf36 (fun _ h9 => h9) rfl dX0_isInForce_20 ?_
      refine lc_ge (tgt := 31) hx hb dX0_isInForce_23 dX0_isInForce_24 (by decide) (fun c23_3 => ?_) (fun c23_3 => ?_)
      · have c23_3 : ((oX o)).toInt ≤ (d).toInt := (tl_le (x := (oX o)) (y := d) (a := ((oX o)).toInt) (b := (d).toInt) rfl rfl).mp c23_3
        refine lv_iconst (v := 0) hx hb dX0_isInForce_31 (by decide) ?_
        exact hret _ _ _ dX0_isInForce_32 (Or.inl rfl) (Or.inr ⟨rfl, by omega⟩)
      · have c23_3 : ¬ (((oX o)).toInt ≤ (d).toInt) := mt (tl_le (x := (oX o)) (y := d) (a := ((oX o)).toInt) (b := (d).toInt) rfl rfl).mpr c23_3
        refine lv_iconst (v := 1) hx hb dX0_isInForce_27 (by decide) ?_
        refine lv_goto (tgt := 32) hx hb dX0_isInForce_28 (by decide) ?_
        exact hret _ _ _ dX0_isInForce_32 (Or.inr (Or.inl rfl)) (Or.inl ⟨rfl, by omega⟩)

theorem mx_if (x y : Int64) : (if y < x then x else y).toInt = if x.toInt < y.toInt then y.toInt else x.toInt := by
  by_cases c : y < x
  · have h := (fa_lt64 y x).mp c
    rw [if_pos c, if_neg (by omega)]
  · have h := mt (fa_lt64 y x).mpr c
    rw [if_neg c]
    by_cases c2 : x.toInt < y.toInt
    · rw [if_pos c2]
    · rw [if_neg c2]; omega

set_option maxHeartbeats 4000000 in
set_option maxRecDepth 100000 in
/-- daysOfSpanFrom -/
theorem c_X0_daysOfSpanFrom (l : Launch) (G : GG) (h : Nat) (o : Ord) (d : Int64) (h1 : 0 ≤ (oF o).toInt) (h2 : (oF o).toInt ≤ (oU o).toInt) (h3 : (oU o).toInt ≤ 20000) (h4 : 0 ≤ (d).toInt) (h5 : (d).toInt ≤ 20000) : RdI l yX0_daysOfSpanFrom wsX0_daysOfSpanFrom (rmX 1 40 0 0) G [.ref h, .long d] [(h, .inr (1, fl o))] (fun r => r = nI (dys o d.toInt)) := by
  refine rd_of_i (cc := cX0_daysOfSpanFrom) (maxL := 5) (t := .int) (by decide +kernel) rfl (Nat.le_of_ble_eq_true rfl) nar_int ?_
  intro p e s m args below meth c Q hx hb hml hown hts hP hK hret ls hl
  have hown : s.vm.findClass RX0 = some m.cls := hown
  have hl : lv_has ls 5 [(0, .ref h), (1, .long d)] := hl
  have hP : va_P G.1 vwCl [(h, .inr (1, fl o))] s.heap := hP
  have hiX0 := (show ∀ w ∈ u_ws RX0 TX0 9, w ∈ wsX0_daysOfSpanFrom by decide +kernel)
  have lf24 := hts (.fieldLink RX0 24 "OrderRows2$Order" "from" "J") (by decide +kernel)
  have lf28 := hts (.fieldLink RX0 28 "OrderRows2$Order" "until" "J") (by decide +kernel)
  refine lv_aload_n hx hb dX0_daysOfSpanFrom_0 rfl (lv_at hl 0 rfl) ?_
  refine va_get (D := G.1) (ci := 1) (v := .long (oF o)) (own := RX0) (C := RX0) (T := TX0) (N := 9) hx hb hts hiX0 hown hK.1 hP 0 rfl rfl 4 (by decide) lf24 (fun _ h9 => h9) rfl dX0_daysOfSpanFrom_1 ?_
  refine lv_lload_n hx hb dX0_daysOfSpanFrom_4 rfl (lv_at hl 1 rfl) ?_
  refine va_mmax_long hx hb (by rw [hml]; exact hl.1.symm) hown (hts (.methodLink RX0 55 Lib.MathLoose.max_long.x) (by decide +kernel)) (hts (.static Lib.MathLoose.max_long.x) (by decide +kernel)) (hts (.initialized "java/lang/Math") (by decide +kernel)) (hts (.code Lib.MathLoose.max_long.x Lib.MathLoose.max_long.code 4 (some .long)) (by decide +kernel)) (Nat.le_of_ble_eq_true rfl) (Nat.le_of_ble_eq_true rfl) (Nat.zero_le _) (Nat.zero_le _) dX0_daysOfSpanFrom_5 ?_
  refine lv_topl (fun ym eym => ?_)
  have vym : ym.toInt = if ((oF o)).toInt < (d).toInt then (d).toInt else ((oF o)).toInt := by rw [eym]; exact mx_if (oF o) d
  refine lv_lstore_n (lv' := [(3, .long ym), (0, .ref h), (1, .long d)]) hx hb dX0_daysOfSpanFrom_8 rfl hl (by decide) rfl (fun ls hl => ?_)
  refine lv_lload_n hx hb dX0_daysOfSpanFrom_9 rfl (lv_at hl 0 rfl) ?_
  refine lv_aload_n hx hb dX0_daysOfSpanFrom_10 rfl (lv_at hl 1 rfl) ?_
  refine va_get (D := G.1) (ci := 1) (v := .long (oU o)) (own := RX0) (C := RX0) (T := TX0) (N := 9) hx hb hts hiX0 hown hK.1 hP 0 rfl rfl 6 (by decide) lf28 (fun _ h9 => h9) rfl dX0_daysOfSpanFrom_11 ?_
  refine lc_le (tgt := 22) hx hb dX0_daysOfSpanFrom_14 dX0_daysOfSpanFrom_15 (by decide) (fun c14_1 => ?_) (fun c14_1 => ?_)
  · have c14_1 : (ym).toInt ≤ ((oU o)).toInt := (tl_le (x := ym) (y := (oU o)) (a := (ym).toInt) (b := ((oU o)).toInt) rfl rfl).mp c14_1
    refine lv_aload_n hx hb dX0_daysOfSpanFrom_22 rfl (lv_at hl 1 rfl) ?_
    refine va_get (D := G.1) (ci := 1) (v := .long (oU o)) (own := RX0) (C := RX0) (T := TX0) (N := 9) hx hb hts hiX0 hown hK.1 hP 0 rfl rfl 6 (by decide) lf28 (fun _ h9 => h9) rfl dX0_daysOfSpanFrom_23 ?_
    refine lv_lload_n hx hb dX0_daysOfSpanFrom_26 rfl (lv_at hl 0 rfl) ?_
    refine lv_lsub hx hb dX0_daysOfSpanFrom_27 ?_
    refine lv_topl (fun y27_2 e27_2 => ?_)
    have v27_2 : (y27_2).toInt = (((oU o)).toInt - (ym).toInt) := by rw [e27_2]; exact tl_sub (a := ((oU o)).toInt) (b := (ym).toInt) rfl rfl (by omega) (by omega)
    refine lv_lconst (v := 1) hx hb dX0_daysOfSpanFrom_28 rfl ?_
    refine lv_ladd hx hb dX0_daysOfSpanFrom_29 ?_
    refine lv_topl (fun y29_3 e29_3 => ?_)
    have v29_3 : (y29_3).toInt = ((((oU o)).toInt - (ym).toInt) + 1) := by rw [e29_3]; exact tl_add (a := (((oU o)).toInt - (ym).toInt)) (b := 1) v27_2 rfl (by omega) (by omega)
    refine lv_l2i hx hb dX0_daysOfSpanFrom_30 rfl ?_
    refine lv_topi (fun y30_4 e30_4 => ?_)
    have v30_4 : (y30_4).toInt = ((((oU o)).toInt - (ym).toInt) + 1) := by rw [e30_4]; exact ti_l2i v29_3 (by omega) (by omega)
    exact hret _ _ _ dX0_daysOfSpanFrom_31 (Or.inr (Or.inr rfl)) (nI_ofI (k := dys o d.toInt) (v30_4.trans (by unfold dys; split at vym <;> split <;> omega)))
  · have c14_1 : ¬ ((ym).toInt ≤ ((oU o)).toInt) := mt (tl_le (x := ym) (y := (oU o)) (a := (ym).toInt) (b := ((oU o)).toInt) rfl rfl).mpr c14_1
    refine lv_iconst (v := 0) hx hb dX0_daysOfSpanFrom_18 (by decide) ?_
    refine lv_goto (tgt := 31) hx hb dX0_daysOfSpanFrom_19 (by decide) ?_
    exact hret _ _ _ dX0_daysOfSpanFrom_31 (Or.inr (Or.inr rfl)) (nI_ofI (k := dys o d.toInt) (show (0 : Int32).toInt = _ by unfold dys; show (0 : Int) = _; split at vym <;> split <;> omega))

theorem lap1_n {t : Int} {o : Ord} (h : ¬ lapC t o) : lap1 t o = o := if_neg h
theorem lap1_y {t : Int} {o : Ord} {x : Int64} (h : lapC t o) (hx : x = oM o + 15) : lap1 t o = oSX o x := by subst hx; exact if_pos h

set_option maxHeartbeats 4000000 in
set_option maxRecDepth 100000 in
/-- lapseIfDue -/
theorem c_X0_lapseIfDue (l : Launch) (G : GG) (h : Nat) (o : Ord) (t : Int64) (hm : 0 ≤ (oM o).toInt) (hm2 : (oM o).toInt ≤ 20000) : WrI l yX0_lapseIfDue wsX0_lapseIfDue (rmX 1 40 0 0) G [.ref h, .long t] [(h, .inr (1, fl o))] (fun (r : Int32) (u : Unit) => ((r.toInt = 1 ∧ ((oP o).toInt = 0 ∧ (oX o).toInt = 20001 ∧ (oM o).toInt + 14 < (t).toInt)) ∨ (r.toInt = 0 ∧ ¬ ((oP o).toInt = 0 ∧ (oX o).toInt = 20001 ∧ (oM o).toInt + 14 < (t).toInt)))) (fun u : Unit => [(h, .inr (1, fl (lap1 t.toInt o)))]) 0 0 := by
  refine wr_of_i (cc := cX0_lapseIfDue) (maxL := 3) (t := .boolean) (by decide +kernel) rfl (Nat.le_of_ble_eq_true rfl) nar_bool ?_
  intro p e s m args below meth c Q A hx hb hml hown hts hK hZ hA hret ls hl hP hD hS
  have hown : s.vm.findClass RX0 = some m.cls := hown
  have hl : lv_has ls 3 [(0, .ref h), (1, .long t)] := hl
  have hP : va_P G.1 vwCl [(h, .inr (1, fl o))] s.heap := hP
  have hD : va_D A [(h, .inr (1, fl o))] := hD
  have hiX0 := (show ∀ w ∈ u_ws RX0 TX0 9, w ∈ wsX0_lapseIfDue by decide +kernel)
  have lf39 := hts (.fieldLink RX0 39 "OrderRows2$Order" "isProved" "Z") (by decide +kernel)
  have cw61 := cwV (R := (rmX 1 40 0 0)) (s := s) (args := args) (rm := (rmX 0 0 0 0)) (mc := 0) (ms := 0) 0 hts gX0_lapseIfDue_X0_isOver rfl rfl rfl (by decide +kernel) ⟨Nat.le_of_ble_eq_true rfl, Nat.le_of_ble_eq_true rfl⟩
  have lf31 := hts (.fieldLink RX0 31 "OrderRows2$Order" "made" "J") (by decide +kernel)
  have kl64 := hts (.constantLong RX0 64 (14)) (by decide +kernel)
  have lf36 := hts (.fieldLink RX0 36 "OrderRows2$Order" "overFrom" "J") (by decide +kernel)
  refine lv_aload_n hx hb dX0_lapseIfDue_0 rfl (lv_at hl 0 rfl) ?_
  refine va_get (D := G.1) (ci := 1) (v := .int (oP o)) (own := RX0) (C := RX0) (T := TX0) (N := 9) hx hb hts hiX0 hown hK.1 hP 0 rfl rfl 8 (by decide) lf39 (fun _ h9 => h9) rfl dX0_lapseIfDue_1 ?_
  refine lv_if_ne (tgt := 27) hx hb dX0_lapseIfDue_4 (by decide) (fun c4_1 => ?_) (fun c4_1 => ?_)
  · have c4_1 : ¬ (((oP o)).toInt = 0) := mt (ti_eq (x := (oP o)) (y := 0) (a := ((oP o)).toInt) (b := 0) rfl rfl).mpr c4_1
    refine lv_iconst (v := 0) hx hb dX0_lapseIfDue_27 (by decide) ?_
    have el := lap1_n (t := t.toInt) (o := o) (by omega)
    exact hret _ _ _ _ _ _ _ () dX0_lapseIfDue_28 (Or.inl rfl) (Or.inr ⟨rfl, by omega⟩) (by rw [el]; exact hP) (by rw [el]; exact hD) hS (Nat.le_refl _) (Nat.le_refl _)
  · have c4_1 : ((oP o)).toInt = 0 := (ti_eq (x := (oP o)) (y := 0) (a := ((oP o)).toInt) (b := 0) rfl rfl).mp c4_1
    refine lv_aload_n hx hb dX0_lapseIfDue_7 rfl (lv_at hl 0 rfl) ?_
    refine rdV_i (b := h) (As := []) (rest := []) ⟨hx, hb, hml, hown, hts⟩ (c_X0_isOver l G h o ) cw61 hK hP 1 rfl rfl rfl rfl hl.1 rfl (Nat.le_of_ble_eq_true rfl) dX0_lapseIfDue_8 ⟨Nat.zero_le _, Nat.zero_le _⟩ (fun r8_2 w8_2 => ?_)
    have w8_2 : ((r8_2.toInt = 1 ∧ ((oX o).toInt ≠ 20001)) ∨ (r8_2.toInt = 0 ∧ ¬ ((oX o).toInt ≠ 20001))) := w8_2
    refine lv_if_ne (tgt := 27) hx hb dX0_lapseIfDue_11 (by decide) (fun c11_3 => ?_) (fun c11_3 => ?_)
    · have c11_3 : ¬ ((r8_2).toInt = 0) := mt (ti_eq (x := r8_2) (y := 0) (a := (r8_2).toInt) (b := 0) rfl rfl).mpr c11_3
      refine lv_iconst (v := 0) hx hb dX0_lapseIfDue_27 (by decide) ?_
      have el := lap1_n (t := t.toInt) (o := o) (by omega)
      exact hret _ _ _ _ _ _ _ () dX0_lapseIfDue_28 (Or.inl rfl) (Or.inr ⟨rfl, by omega⟩) (by rw [el]; exact hP) (by rw [el]; exact hD) hS (Nat.le_refl _) (Nat.le_refl _)
    · have c11_3 : (r8_2).toInt = 0 := (ti_eq (x := r8_2) (y := 0) (a := (r8_2).toInt) (b := 0) rfl rfl).mp c11_3
      refine lv_lload_n hx hb dX0_lapseIfDue_14 rfl (lv_at hl 1 rfl) ?_
      refine lv_aload_n hx hb dX0_lapseIfDue_15 rfl (lv_at hl 0 rfl) ?_
      refine va_get (D := G.1) (ci := 1) (v := .long (oM o)) (own := RX0) (C := RX0) (T := TX0) (N := 9) hx hb hts hiX0 hown hK.1 hP 0 rfl rfl 5 (by decide) lf31 (fun _ h9 => h9) rfl dX0_lapseIfDue_16 ?_
      refine lv_ldc2 (v := 14) hx hb hown kl64 dX0_lapseIfDue_19 ?_
      refine lv_ladd hx hb dX0_lapseIfDue_22 ?_
      refine lv_topl (fun y22_4 e22_4 => ?_)
      have v22_4 : (y22_4).toInt = (((oM o)).toInt + 14) := by rw [e22_4]; exact tl_add (a := ((oM o)).toInt) (b := 14) rfl rfl (by omega) (by omega)
      refine lc_gt (tgt := 29) hx hb dX0_lapseIfDue_23 dX0_lapseIfDue_24 (by decide) (fun c23_5 => ?_) (fun c23_5 => ?_)
      · have c23_5 : (((oM o)).toInt + 14) < (t).toInt := (tl_lt (x := y22_4) (y := t) (a := (((oM o)).toInt + 14)) (b := (t).toInt) v22_4 rfl).mp c23_5
        refine lv_aload_n hx hb dX0_lapseIfDue_29 rfl (lv_at hl 0 rfl) ?_
        refine lv_aload_n hx hb dX0_lapseIfDue_30 rfl (lv_at hl 0 rfl) ?_
        refine va_get (D := G.1) (ci := 1) (v := .long (oM o)) (own := RX0) (C := RX0) (T := TX0) (N := 9) hx hb hts hiX0 hown hK.1 hP 0 rfl rfl 5 (by decide) lf31 (fun _ h9 => h9) rfl dX0_lapseIfDue_31 ?_
        refine lv_ldc2 (v := 14) hx hb hown kl64 dX0_lapseIfDue_34 ?_
        refine lv_ladd hx hb dX0_lapseIfDue_37 ?_
        refine lv_topl (fun y37_6 e37_6 => ?_)
        have v37_6 : (y37_6).toInt = (((oM o)).toInt + 14) := by rw [e37_6]; exact tl_add (a := ((oM o)).toInt) (b := 14) rfl rfl (by omega) (by omega)
        refine lv_lconst (v := 1) hx hb dX0_lapseIfDue_38 rfl ?_
        refine lv_ladd hx hb dX0_lapseIfDue_39 ?_
        refine lv_topl (fun y39_7 e39_7 => ?_)
        have v39_7 : (y39_7).toInt = ((((oM o)).toInt + 14) + 1) := by rw [e39_7]; exact tl_add (a := (((oM o)).toInt + 14)) (b := 1) v37_6 rfl (by omega) (by omega)
        have e15 : (oM o + 15 : Int64).toInt = (oM o).toInt + 15 := tl_add rfl rfl (by omega) (by omega)
        have hlap : y39_7 = oM o + 15 := tl_inj (by rw [v39_7, e15]; omega)
        refine va_put (D := G.1) (ci := 1) (v := .long y39_7) (ty := .long) (own := RX0) (C := RX0) (T := TX0) (N := 9) hx hb hts hiX0 tyX0 tyX0_ok nmX0 hown hK.1 hP hD hS 0 rfl rfl 7 (by decide) lf36 (fun _ h9 => h9) rfl (by decide +kernel) rfl rfl (Nat.le_of_ble_eq_true rfl) dX0_lapseIfDue_40 (fun H locs hP hD hS => ?_)
        have hP : va_P G.1 vwCl [(h, .inr (1, [.int (oK o), .int (oE o), .int (oW o), .int (oT o), .long (oF o), .long (oM o), .long (oU o), .long y39_7, .int (oP o)]))] H := hP
        have hD : va_D A [(h, .inr (1, [.int (oK o), .int (oE o), .int (oW o), .int (oT o), .long (oF o), .long (oM o), .long (oU o), .long y39_7, .int (oP o)]))] := hD
        refine lv_iconst (v := 1) hx hb dX0_lapseIfDue_43 (by decide) ?_
        have el := lap1_y (t := t.toInt) (o := o) (by omega) hlap
        exact hret _ _ _ _ _ _ _ () dX0_lapseIfDue_44 (Or.inr (Or.inl rfl)) (Or.inl ⟨rfl, by omega⟩) (by rw [el]; exact hP) (by rw [el]; exact hD) hS (Nat.le_refl _) (Nat.le_refl _)
      · have c23_5 : ¬ ((((oM o)).toInt + 14) < (t).toInt) := mt (tl_lt (x := y22_4) (y := t) (a := (((oM o)).toInt + 14)) (b := (t).toInt) v22_4 rfl).mpr c23_5
        refine lv_iconst (v := 0) hx hb dX0_lapseIfDue_27 (by decide) ?_
        have el := lap1_n (t := t.toInt) (o := o) (by omega)
        exact hret _ _ _ _ _ _ _ () dX0_lapseIfDue_28 (Or.inl rfl) (Or.inr ⟨rfl, by omega⟩) (by rw [el]; exact hP) (by rw [el]; exact hD) hS (Nat.le_refl _) (Nat.le_refl _)

set_option maxHeartbeats 4000000 in
set_option maxRecDepth 100000 in
/-- isToldTo -/
theorem c_X0_isToldTo (l : Launch) (G : GG) (h : Nat) (o : Ord) (pp : Int32) (d : Int64) (hk : 0 ≤ (oK o).toInt) : RdI l yX0_isToldTo wsX0_isToldTo (rmX 2 70 0 0) G [.ref h, .int pp, .long d] [(h, .inr (1, fl o))] (fun r => ((r.toInt = 1 ∧ ((oW o).toInt = (pp).toInt ∧ (oP o).toInt ≠ 0 ∧ (oK o).toInt < 3 ∧ (oF o).toInt ≤ (d).toInt ∧ (d).toInt ≤ (oU o).toInt ∧ (d).toInt < (oX o).toInt)) ∨ (r.toInt = 0 ∧ ¬ ((oW o).toInt = (pp).toInt ∧ (oP o).toInt ≠ 0 ∧ (oK o).toInt < 3 ∧ (oF o).toInt ≤ (d).toInt ∧ (d).toInt ≤ (oU o).toInt ∧ (d).toInt < (oX o).toInt)))) := by
  refine rd_of_i (cc := cX0_isToldTo) (maxL := 4) (t := .boolean) (by decide +kernel) rfl (Nat.le_of_ble_eq_true rfl) nar_bool ?_
  intro p e s m args below meth c Q hx hb hml hown hts hP hK hret ls hl
  have hown : s.vm.findClass RX0 = some m.cls := hown
  have hl : lv_has ls 4 [(0, .ref h), (1, .int pp), (2, .long d)] := hl
  have hP : va_P G.1 vwCl [(h, .inr (1, fl o))] s.heap := hP
  have hiX0 := (show ∀ w ∈ u_ws RX0 TX0 9, w ∈ wsX0_isToldTo by decide +kernel)
  have lf18 := hts (.fieldLink RX0 18 "OrderRows2$Order" "who" "I") (by decide +kernel)
  have lf39 := hts (.fieldLink RX0 39 "OrderRows2$Order" "isProved" "Z") (by decide +kernel)
  have cw47 := cwV (R := (rmX 2 70 0 0)) (s := s) (args := args) (rm := (rmX 1 40 0 0)) (mc := 0) (ms := 0) 0 hts gX0_isToldTo_X0_sendsOn rfl rfl rfl (by decide +kernel) ⟨Nat.le_of_ble_eq_true rfl, Nat.le_of_ble_eq_true rfl⟩
  have cw51 := cwV (R := (rmX 2 70 0 0)) (s := s) (args := args) (rm := (rmX 0 0 0 0)) (mc := 0) (ms := 0) 1 hts gX0_isToldTo_X0_isInForce rfl rfl rfl (by decide +kernel) ⟨Nat.le_of_ble_eq_true rfl, Nat.le_of_ble_eq_true rfl⟩
  refine lv_aload_n hx hb dX0_isToldTo_0 rfl (lv_at hl 0 rfl) ?_
  refine va_get (D := G.1) (ci := 1) (v := .int (oW o)) (own := RX0) (C := RX0) (T := TX0) (N := 9) hx hb hts hiX0 hown hK.1 hP 0 rfl rfl 2 (by decide) lf18 (fun _ h9 => h9) rfl dX0_isToldTo_1 ?_
  refine lv_iload_n hx hb dX0_isToldTo_4 rfl (lv_at hl 1 rfl) ?_
  refine lv_icmp_ne (tgt := 34) hx hb dX0_isToldTo_5 (by decide) (fun c5_1 => ?_) (fun c5_1 => ?_)
  · have c5_1 : ¬ (((oW o)).toInt = (pp).toInt) := mt (ti_eq (x := (oW o)) (y := pp) (a := ((oW o)).toInt) (b := (pp).toInt) rfl rfl).mpr c5_1
    refine lv_iconst (v := 0) hx hb dX0_isToldTo_34 (by decide) ?_
    exact hret _ _ _ dX0_isToldTo_35 (Or.inl rfl) (Or.inr ⟨rfl, by omega⟩)
  · have c5_1 : ((oW o)).toInt = (pp).toInt := (ti_eq (x := (oW o)) (y := pp) (a := ((oW o)).toInt) (b := (pp).toInt) rfl rfl).mp c5_1
    refine lv_aload_n hx hb dX0_isToldTo_8 rfl (lv_at hl 0 rfl) ?_
    refine va_get (D := G.1) (ci := 1) (v := .int (oP o)) (own := RX0) (C := RX0) (T := TX0) (N := 9) hx hb hts hiX0 hown hK.1 hP 0 rfl rfl 8 (by decide) lf39 (fun _ h9 => h9) rfl dX0_isToldTo_9 ?_
    refine lv_if_eq (tgt := 34) hx hb dX0_isToldTo_12 (by decide) (fun c12_2 => ?_) (fun c12_2 => ?_)
    · have c12_2 : ((oP o)).toInt = 0 := (ti_eq (x := (oP o)) (y := 0) (a := ((oP o)).toInt) (b := 0) rfl rfl).mp c12_2
      refine lv_iconst (v := 0) hx hb dX0_isToldTo_34 (by decide) ?_
      exact hret _ _ _ dX0_isToldTo_35 (Or.inl rfl) (Or.inr ⟨rfl, by omega⟩)
    · have c12_2 : ¬ (((oP o)).toInt = 0) := mt (ti_eq (x := (oP o)) (y := 0) (a := ((oP o)).toInt) (b := 0) rfl rfl).mpr c12_2
      refine lv_aload_n hx hb dX0_isToldTo_15 rfl (lv_at hl 0 rfl) ?_
      refine rdV_i (b := h) (As := []) (rest := []) ⟨hx, hb, hml, hown, hts⟩ (c_X0_sendsOn l G h o  (by omega)) cw47 hK hP 1 rfl rfl rfl rfl hl.1 rfl (Nat.le_of_ble_eq_true rfl) dX0_isToldTo_16 ⟨Nat.zero_le _, Nat.zero_le _⟩ (fun r16_3 w16_3 => ?_)
      have w16_3 : ((r16_3.toInt = 1 ∧ ((oK o).toInt < 3)) ∨ (r16_3.toInt = 0 ∧ ¬ ((oK o).toInt < 3))) := w16_3
      refine lv_if_eq (tgt := 34) hx hb dX0_isToldTo_19 (by decide) (fun c19_4 => ?_) (fun c19_4 => ?_)
      · have c19_4 : (r16_3).toInt = 0 := (ti_eq (x := r16_3) (y := 0) (a := (r16_3).toInt) (b := 0) rfl rfl).mp c19_4
        refine lv_iconst (v := 0) hx hb dX0_isToldTo_34 (by decide) ?_
        exact hret _ _ _ dX0_isToldTo_35 (Or.inl rfl) (Or.inr ⟨rfl, by omega⟩)
      · have c19_4 : ¬ ((r16_3).toInt = 0) := mt (ti_eq (x := r16_3) (y := 0) (a := (r16_3).toInt) (b := 0) rfl rfl).mpr c19_4
        refine lv_aload_n hx hb dX0_isToldTo_22 rfl (lv_at hl 0 rfl) ?_
        refine lv_lload_n hx hb dX0_isToldTo_23 rfl (lv_at hl 2 rfl) ?_
        refine rdV_i (b := h) (As := [.long d]) (rest := []) ⟨hx, hb, hml, hown, hts⟩ (c_X0_isInForce l G h o d) cw51 hK hP 1 rfl rfl rfl rfl hl.1 rfl (Nat.le_of_ble_eq_true rfl) dX0_isToldTo_24 ⟨Nat.zero_le _, Nat.zero_le _⟩ (fun r24_5 w24_5 => ?_)
        have w24_5 : ((r24_5.toInt = 1 ∧ ((oF o).toInt ≤ (d).toInt ∧ (d).toInt ≤ (oU o).toInt ∧ (d).toInt < (oX o).toInt)) ∨ (r24_5.toInt = 0 ∧ ¬ ((oF o).toInt ≤ (d).toInt ∧ (d).toInt ≤ (oU o).toInt ∧ (d).toInt < (oX o).toInt))) := w24_5
        refine lv_if_eq (tgt := 34) hx hb dX0_isToldTo_27 (by decide) (fun c27_6 => ?_) (fun c27_6 => ?_)
        · have c27_6 : (r24_5).toInt = 0 := (ti_eq (x := r24_5) (y := 0) (a := (r24_5).toInt) (b := 0) rfl rfl).mp c27_6
          refine lv_iconst (v := 0) hx hb dX0_isToldTo_34 (by decide) ?_
          exact hret _ _ _ dX0_isToldTo_35 (Or.inl rfl) (Or.inr ⟨rfl, by omega⟩)
        · have c27_6 : ¬ ((r24_5).toInt = 0) := mt (ti_eq (x := r24_5) (y := 0) (a := (r24_5).toInt) (b := 0) rfl rfl).mpr c27_6
          refine lv_iconst (v := 1) hx hb dX0_isToldTo_30 (by decide) ?_
          refine lv_goto (tgt := 35) hx hb dX0_isToldTo_31 (by decide) ?_
          exact hret _ _ _ dX0_isToldTo_35 (Or.inr (Or.inl rfl)) (Or.inl ⟨rfl, by omega⟩)

set_option maxHeartbeats 4000000 in
set_option maxRecDepth 100000 in
/-- checkIndex -/
theorem c_J3_checkIndex_8e157 (l : Launch) (G : GG) (i n : Int32) (h1 : 0 ≤ (i).toInt) (h2 : (i).toInt < (n).toInt) : RdI l yJ3_checkIndex_8e157 wsJ3_checkIndex_8e157 (rmX 0 0 0 0) G [.int i, .int n, .null] [] (fun r => r = i) := by
  refine rd_of_i (cc := cJ3_checkIndex_8e157) (maxL := 3) (t := .int) (by decide +kernel) rfl (Nat.le_of_ble_eq_true rfl) nar_int ?_
  intro p e s m args below meth c Q hx hb hml hown hts hP hK hret ls hl
  have hown : s.vm.findClass RJ3 = some m.cls := hown
  have hl : lv_has ls 3 [(0, .int i), (1, .int n), (2, .null)] := hl
  refine lv_iload_n hx hb dJ3_checkIndex_8e157_0 rfl (lv_at hl 0 rfl) ?_
  refine lv_if_lt (tgt := 9) hx hb dJ3_checkIndex_8e157_1 (by decide) (fun c1_1 => ?_) (fun c1_1 => ?_)
  · have c1_1 : (i).toInt < 0 := (ti_lt (x := i) (y := 0) (a := (i).toInt) (b := 0) rfl rfl).mp c1_1
    exfalso; omega
  · have c1_1 : ¬ ((i).toInt < 0) := mt (ti_lt (x := i) (y := 0) (a := (i).toInt) (b := 0) rfl rfl).mpr c1_1
    refine lv_iload_n hx hb dJ3_checkIndex_8e157_4 rfl (lv_at hl 0 rfl) ?_
    refine lv_iload_n hx hb dJ3_checkIndex_8e157_5 rfl (lv_at hl 1 rfl) ?_
    refine lv_icmp_lt (tgt := 16) hx hb dJ3_checkIndex_8e157_6 (by decide) (fun c6_2 => ?_) (fun c6_2 => ?_)
    · have c6_2 : (i).toInt < (n).toInt := (ti_lt (x := i) (y := n) (a := (i).toInt) (b := (n).toInt) rfl rfl).mp c6_2
      refine lv_iload_n hx hb dJ3_checkIndex_8e157_16 rfl (lv_at hl 0 rfl) ?_
      exact hret _ _ _ dJ3_checkIndex_8e157_17 (Or.inr (Or.inr rfl)) rfl
    · have c6_2 : ¬ ((i).toInt < (n).toInt) := mt (ti_lt (x := i) (y := n) (a := (i).toInt) (b := (n).toInt) rfl rfl).mpr c6_2
      exfalso; omega

set_option maxHeartbeats 4000000 in
set_option maxRecDepth 100000 in
/-- checkIndex -/
theorem c_J15_checkIndex_7cf53 (l : Launch) (G : GG) (i n : Int32) (h1 : 0 ≤ (i).toInt) (h2 : (i).toInt < (n).toInt) : RdI l yJ15_checkIndex_7cf53 wsJ15_checkIndex_7cf53 (rmX 1 40 0 0) G [.int i, .int n] [] (fun r => r = i) := by
  refine rd_of_i (cc := cJ15_checkIndex_7cf53) (maxL := 2) (t := .int) (by decide +kernel) rfl (Nat.le_of_ble_eq_true rfl) nar_int ?_
  intro p e s m args below meth c Q hx hb hml hown hts hP hK hret ls hl
  have hown : s.vm.findClass RJ15 = some m.cls := hown
  have hl : lv_has ls 2 [(0, .int i), (1, .int n)] := hl
  have cw105 := va_cwS (R := (rmX 1 40 0 0)) (s := s) (args := args) (rm := (rmX 0 0 0 0)) (mc := 0) (ms := 0) 3 hts gJ15_checkIndex_7cf53_J3_checkIndex_8e157 rfl rfl rfl (by decide +kernel) ⟨Nat.le_of_ble_eq_true rfl, Nat.le_of_ble_eq_true rfl⟩
  refine lv_iload_n hx hb dJ15_checkIndex_7cf53_0 rfl (lv_at hl 0 rfl) ?_
  refine lv_iload_n hx hb dJ15_checkIndex_7cf53_1 rfl (lv_at hl 1 rfl) ?_
  refine lv_null hx hb dJ15_checkIndex_7cf53_2 ?_
  refine rdS_i (As := [.int i, .int n, .null]) (rest := []) ⟨hx, hb, hml, hown, hts⟩ (c_J3_checkIndex_8e157 l G i n (by omega) (by omega)) cw105 hK va_P.nil rfl hl.1 rfl (Nat.le_of_ble_eq_true rfl) dJ15_checkIndex_7cf53_3 ⟨Nat.zero_le _, Nat.zero_le _⟩ (fun r1 w1 => ?_)
  exact hret _ _ _ dJ15_checkIndex_7cf53_6 (Or.inr (Or.inr rfl)) w1

set_option maxHeartbeats 4000000 in
set_option maxRecDepth 100000 in
/-- ArrayList.size -/
theorem c_Jx4a65c_size_8abf5 (l : Launch) (G : GG) (h : Nat) (md z : Int32) (ed : Value) : RdI l yJx4a65c_size_8abf5 wsJx4a65c_size_8abf5 (rmX 0 0 0 0) G [.ref h] [(h, .inr (0, [.int md, ed, .int z]))] (fun r => r = z) := by
  refine rd_of_i (cc := cJx4a65c_size_8abf5) (maxL := 1) (t := .int) (by decide +kernel) rfl (Nat.le_of_ble_eq_true rfl) nar_int ?_
  intro p e s m args below meth c Q hx hb hml hown hts hP hK hret ls hl
  have hown : s.vm.findClass RJx4a65c = some m.cls := hown
  have hl : lv_has ls 1 [(0, .ref h)] := hl
  have hP : va_P G.1 vwCl [(h, .inr (0, [.int md, ed, .int z]))] s.heap := hP
  have hiJx4a65c := (show ∀ w ∈ u_ws RJx4a65c TJx4a65c 3, w ∈ wsJx4a65c_size_8abf5 by decide +kernel)
  have lf48 := hts (.fieldLink RJx4a65c 48 "java/util/ArrayList" "size" "I") (by decide +kernel)
  refine lv_aload_n hx hb dJx4a65c_size_8abf5_0 rfl (lv_at hl 0 rfl) ?_
  refine va_get (D := G.1) (ci := 0) (v := .int z) (own := RJx4a65c) (C := RJx4a65c) (T := TJx4a65c) (N := 3) hx hb hts hiJx4a65c hown hK.1 hP 0 rfl rfl 2 (by decide) lf48 (fun _ h9 => h9) rfl dJx4a65c_size_8abf5_1 ?_
  exact hret _ _ _ dJx4a65c_size_8abf5_4 (Or.inr (Or.inr rfl)) rfl

set_option maxHeartbeats 4000000 in
set_option maxRecDepth 100000 in
/-- ArrayList.elementData -/
theorem c_Jx4a65c_elementData_915e3 (l : Launch) (G : GG) (h : Nat) (md z i : Int32) (a2 N k : Nat) (f : Nat → Option Nat) (hi : (i).toInt = (k : Int)) (hk : k < N) : RdQ l yJx4a65c_elementData_915e3 wsJx4a65c_elementData_915e3 (rmX 0 0 0 0) G [.ref h, .int i] [(h, .inr (0, [.int md, .ref a2, .int z])), aO G a2 N f] (fun r => r = f k) := by
  refine rd_of_q (cc := cJx4a65c_elementData_915e3) (maxL := 2) (by decide +kernel) rfl (Nat.le_of_ble_eq_true rfl) ?_
  intro p e s m args below meth c Q hx hb hml hown hts hP hK hret ls hl
  have hown : s.vm.findClass RJx4a65c = some m.cls := hown
  have hl : lv_has ls 2 [(0, .ref h), (1, .int i)] := hl
  have hP : va_P G.1 vwCl [(h, .inr (0, [.int md, .ref a2, .int z])), aO G a2 N f] s.heap := hP
  have hiJx4a65c := (show ∀ w ∈ u_ws RJx4a65c TJx4a65c 3, w ∈ wsJx4a65c_elementData_915e3 by decide +kernel)
  have lf9 := hts (.fieldLink RJx4a65c 9 "java/util/ArrayList" "elementData" "[Ljava/lang/Object;") (by decide +kernel)
  refine lv_aload_n hx hb dJx4a65c_elementData_915e3_0 rfl (lv_at hl 0 rfl) ?_
  refine va_get (D := G.1) (ci := 0) (v := .ref a2) (own := RJx4a65c) (C := RJx4a65c) (T := TJx4a65c) (N := 3) hx hb hts hiJx4a65c hown hK.1 hP 0 rfl rfl 1 (by decide) lf9 (fun _ h9 => h9) rfl dJx4a65c_elementData_915e3_1 ?_
  refine lv_iload_n hx hb dJx4a65c_elementData_915e3_4 rfl (lv_at hl 1 rfl) ?_
  refine va_aldq hx hb hK.1 hP 1 3 rfl rfl (i := i) (vp_inI hi (by omega)) dJx4a65c_elementData_915e3_5 ?_
  rw [ix_I hi]
  exact hret _ _ _ _ dJx4a65c_elementData_915e3_6 rfl rfl

set_option maxHeartbeats 4000000 in
set_option maxRecDepth 100000 in
/-- ArrayList.get -/
theorem c_Jx4a65c_get_915e3 (l : Launch) (G : GG) (h : Nat) (md i : Int32) (a2 N n k : Nat) (f : Nat → Option Nat) (hi : (i).toInt = (k : Int)) (hk : k < n) (hn : n ≤ N) (hn2 : n ≤ 200) : RdQ l yJx4a65c_get_915e3 wsJx4a65c_get_915e3 (rmX 2 70 0 0) G [.ref h, .int i] [(h, .inr (0, [.int md, .ref a2, .int (nI n)])), aO G a2 N f] (fun r => r = f k) := by
  refine rd_of_q (cc := cJx4a65c_get_915e3) (maxL := 2) (by decide +kernel) rfl (Nat.le_of_ble_eq_true rfl) ?_
  intro p e s m args below meth c Q hx hb hml hown hts hP hK hret ls hl
  have hown : s.vm.findClass RJx4a65c = some m.cls := hown
  have hl : lv_has ls 2 [(0, .ref h), (1, .int i)] := hl
  have hP : va_P G.1 vwCl [(h, .inr (0, [.int md, .ref a2, .int (nI n)])), aO G a2 N f] s.heap := hP
  have hiJx4a65c := (show ∀ w ∈ u_ws RJx4a65c TJx4a65c 3, w ∈ wsJx4a65c_get_915e3 by decide +kernel)
  have lf48 := hts (.fieldLink RJx4a65c 48 "java/util/ArrayList" "size" "I") (by decide +kernel)
  have cw118 := va_cwS (R := (rmX 2 70 0 0)) (s := s) (args := args) (rm := (rmX 1 40 0 0)) (mc := 0) (ms := 0) 2 hts gJx4a65c_get_915e3_J15_checkIndex_7cf53 rfl rfl rfl (by decide +kernel) ⟨Nat.le_of_ble_eq_true rfl, Nat.le_of_ble_eq_true rfl⟩
  have cw123 := cwV (R := (rmX 2 70 0 0)) (s := s) (args := args) (rm := (rmX 0 0 0 0)) (mc := 0) (ms := 0) 1 hts gJx4a65c_get_915e3_Jx4a65c_elementData_915e3 rfl rfl rfl (by decide +kernel) ⟨Nat.le_of_ble_eq_true rfl, Nat.le_of_ble_eq_true rfl⟩
  refine lv_iload_n hx hb dJx4a65c_get_915e3_0 rfl (lv_at hl 1 rfl) ?_
  refine lv_aload_n hx hb dJx4a65c_get_915e3_1 rfl (lv_at hl 0 rfl) ?_
  refine va_get (D := G.1) (ci := 0) (v := .int (nI n)) (own := RJx4a65c) (C := RJx4a65c) (T := TJx4a65c) (N := 3) hx hb hts hiJx4a65c hown hK.1 hP 0 rfl rfl 2 (by decide) lf48 (fun _ h9 => h9) rfl dJx4a65c_get_915e3_2 ?_
  have va2 : ((nI n)).toInt = ((n : Nat) : Int) := (ti_nI (by omega))
  refine rdS_i (As := [.int i, .int (nI n)]) (rest := []) ⟨hx, hb, hml, hown, hts⟩ (c_J15_checkIndex_7cf53 l G i (nI n) (by omega) (by omega)) cw118 hK va_P.nil rfl hl.1 rfl (Nat.le_of_ble_eq_true rfl) dJx4a65c_get_915e3_5 ⟨Nat.zero_le _, Nat.zero_le _⟩ (fun r1 w1 => ?_)
  refine lv_pop hx hb dJx4a65c_get_915e3_8 rfl ?_
  refine lv_aload_n hx hb dJx4a65c_get_915e3_9 rfl (lv_at hl 0 rfl) ?_
  refine lv_iload_n hx hb dJx4a65c_get_915e3_10 rfl (lv_at hl 1 rfl) ?_
  refine rdV_q (b := h) (As := [.int i]) (rest := []) ⟨hx, hb, hml, hown, hts⟩ (c_Jx4a65c_elementData_915e3 l G h md (nI n) i a2 N k f hi (by omega)) cw123 hK hP 0 rfl rfl rfl rfl hl.1 rfl (Nat.le_of_ble_eq_true rfl) dJx4a65c_get_915e3_11 ⟨Nat.zero_le _, Nat.zero_le _⟩ (fun r3 w3 => ?_)
  exact hret _ _ _ _ dJx4a65c_get_915e3_14 rfl w3

set_option maxHeartbeats 4000000 in
set_option maxRecDepth 100000 in
/-- canBeClock -/
theorem c_X1_canBeClock (l : Launch) (G : GG) (a : AD) (κ : KP) (σ : St) (hI : SI σ) (hC : CI κ σ) (t : Int64) : RdI l yX1_canBeClock wsX1_canBeClock (rmX 1 40 0 0) G [.ref a.1, .long t] (WC G a κ σ) (fun r => ((r.toInt = 1 ∧ (0 ≤ (t).toInt ∧ (t).toInt ≤ 20000 ∧ (sT σ).toInt ≤ (t).toInt)) ∨ (r.toInt = 0 ∧ ¬ (0 ≤ (t).toInt ∧ (t).toInt ≤ 20000 ∧ (sT σ).toInt ≤ (t).toInt)))) := by
  refine rd_of_i (cc := cX1_canBeClock) (maxL := 3) (t := .boolean) (by decide +kernel) rfl (Nat.le_of_ble_eq_true rfl) nar_bool ?_
  intro p e s m args below meth c Q hx hb hml hown hts hP hK hret ls hl
  have hown : s.vm.findClass RX1 = some m.cls := hown
  have hl : lv_has ls 3 [(0, .ref a.1), (1, .long t)] := hl
  have hP : va_P G.1 vwCl (CW G a (nI (sG σ).length) (sT σ) (sR σ) κ.2.2.2.2.2.1 κ.2.2.2.2.2.2 (pO κ.2.2.2.2.1 (sO σ) (sN σ)) (LW G a.2.1 κ.1 κ.2.1 κ.2.2.1 κ.2.2.2.1 (sN σ))) s.heap := hP
  obtain ⟨hI1, hI2, hI3, hI4, hI5⟩ := id hI
  have cw48 := va_cwS (R := (rmX 1 40 0 0)) (s := s) (args := args) (rm := (rmX 0 0 0 0)) (mc := 0) (ms := 0) 1 hts gX1_canBeClock_X1_isDay rfl rfl rfl (by decide +kernel) ⟨Nat.le_of_ble_eq_true rfl, Nat.le_of_ble_eq_true rfl⟩
  have hiX1 := (show ∀ w ∈ u_ws RX1 TX1 6, w ∈ wsX1_canBeClock by decide +kernel)
  have lf30 := hts (.fieldLink RX1 30 "OrderRows2" "clock" "J") (by decide +kernel)
  refine lv_lload_n hx hb dX1_canBeClock_0 rfl (lv_at hl 1 rfl) ?_
  refine rdS_i (As := [.long t]) (rest := []) ⟨hx, hb, hml, hown, hts⟩ (c_X1_isDay l G t) cw48 hK va_P.nil rfl hl.1 rfl (Nat.le_of_ble_eq_true rfl) dX1_canBeClock_1 ⟨Nat.zero_le _, Nat.zero_le _⟩ (fun r1_1 w1_1 => ?_)
  have w1_1 : ((r1_1.toInt = 1 ∧ (0 ≤ (t).toInt ∧ (t).toInt ≤ 20000)) ∨ (r1_1.toInt = 0 ∧ ¬ (0 ≤ (t).toInt ∧ (t).toInt ≤ 20000))) := w1_1
  refine lv_if_eq (tgt := 20) hx hb dX1_canBeClock_4 (by decide) (fun c4_2 => ?_) (fun c4_2 => ?_)
  · have c4_2 : (r1_1).toInt = 0 := (ti_eq (x := r1_1) (y := 0) (a := (r1_1).toInt) (b := 0) rfl rfl).mp c4_2
    refine lv_iconst (v := 0) hx hb dX1_canBeClock_20 (by decide) ?_
    exact hret _ _ _ dX1_canBeClock_21 (Or.inl rfl) (Or.inr ⟨rfl, by omega⟩)
  · have c4_2 : ¬ ((r1_1).toInt = 0) := mt (ti_eq (x := r1_1) (y := 0) (a := (r1_1).toInt) (b := 0) rfl rfl).mpr c4_2
    refine lv_lload_n hx hb dX1_canBeClock_7 rfl (lv_at hl 1 rfl) ?_
    refine lv_aload_n hx hb dX1_canBeClock_8 rfl (lv_at hl 0 rfl) ?_
    refine va_get (D := G.1) (ci := 2) (v := .long (sT σ)) (own := RX1) (C := RX1) (T := TX1) (N := 6) hx hb hts hiX1 hown hK.1 hP 0 rfl rfl 5 (by decide) lf30 (fun _ h9 => h9) rfl dX1_canBeClock_9 ?_
    refine lc_lt (tgt := 20) hx hb dX1_canBeClock_12 dX1_canBeClock_13 (by decide) (fun c12_3 => ?_) (fun c12_3 => ?_)
    · have c12_3 : (t).toInt < ((sT σ)).toInt := (tl_lt (x := t) (y := (sT σ)) (a := (t).toInt) (b := ((sT σ)).toInt) rfl rfl).mp c12_3
      refine lv_iconst (v := 0) hx hb dX1_canBeClock_20 (by decide) ?_
      exact hret _ _ _ dX1_canBeClock_21 (Or.inl rfl) (Or.inr ⟨rfl, by omega⟩)
    · have c12_3 : ¬ ((t).toInt < ((sT σ)).toInt) := mt (tl_lt (x := t) (y := (sT σ)) (a := (t).toInt) (b := ((sT σ)).toInt) rfl rfl).mpr c12_3
      refine lv_iconst (v := 1) hx hb dX1_canBeClock_16 (by decide) ?_
      refine lv_goto (tgt := 21) hx hb dX1_canBeClock_17 (by decide) ?_
      exact hret _ _ _ dX1_canBeClock_21 (Or.inr (Or.inl rfl)) (Or.inl ⟨rfl, by omega⟩)

set_option maxHeartbeats 4000000 in
set_option maxRecDepth 100000 in
/-- find -/
theorem c_X1_find (l : Launch) (G : GG) (a : AD) (κ : KP) (σ : St) (hI1 : sN σ ≤ 200) (hC : CI κ σ) (o : Int32) : RdQ l yX1_find wsX1_find (rmX 3 100 0 0) G [.ref a.1, .int o] (WC G a κ σ) (fun r => ((r = none ∧ ¬ (1 ≤ (o).toInt ∧ (o).toInt ≤ ((sN σ : Nat) : Int))) ∨ (∃ i, i < sN σ ∧ (o).toInt = (i : Int) + 1 ∧ r = some (κ.2.2.2.2.1 i)))) := by
  refine rd_of_q (cc := cX1_find) (maxL := 2) (by decide +kernel) rfl (Nat.le_of_ble_eq_true rfl) ?_
  intro p e s m args below meth c Q hx hb hml hown hts hP hK hret ls hl
  have hown : s.vm.findClass RX1 = some m.cls := hown
  have hl : lv_has ls 2 [(0, .ref a.1), (1, .int o)] := hl
  have hP : va_P G.1 vwCl (CW G a (nI (sG σ).length) (sT σ) (sR σ) κ.2.2.2.2.2.1 κ.2.2.2.2.2.2 (pO κ.2.2.2.2.1 (sO σ) (sN σ)) (LW G a.2.1 κ.1 κ.2.1 κ.2.2.1 κ.2.2.2.1 (sN σ))) s.heap := hP
  have hiX1 := (show ∀ w ∈ u_ws RX1 TX1 6, w ∈ wsX1_find by decide +kernel)
  have lf10 := hts (.fieldLink RX1 10 "OrderRows2" "orders" "Ljava/util/ArrayList;") (by decide +kernel)
  have cw52 := cwV (R := (rmX 3 100 0 0)) (s := s) (args := args) (rm := (rmX 0 0 0 0)) (mc := 0) (ms := 0) 0 hts gX1_find_Jx4a65c_size_8abf5 rfl rfl rfl (by decide +kernel) ⟨Nat.le_of_ble_eq_true rfl, Nat.le_of_ble_eq_true rfl⟩
  have cw123 := cwV (R := (rmX 3 100 0 0)) (s := s) (args := args) (rm := (rmX 2 70 0 0)) (mc := 0) (ms := 0) 1 hts gX1_find_Jx4a65c_get_915e3 rfl rfl rfl (by decide +kernel) ⟨Nat.le_of_ble_eq_true rfl, Nat.le_of_ble_eq_true rfl⟩
  have cl56 := hts (.classLink RX1 56 RX0) (by decide +kernel)
  refine lv_iload_n hx hb dX1_find_0 rfl (lv_at hl 1 rfl) ?_
  refine lv_iconst (v := 1) hx hb dX1_find_1 (by decide) ?_
  refine lv_icmp_lt (tgt := 16) hx hb dX1_find_2 (by decide) (fun c2_1 => ?_) (fun c2_1 => ?_)
  · have c2_1 : (o).toInt < 1 := (ti_lt (x := o) (y := 1) (a := (o).toInt) (b := 1) rfl rfl).mp c2_1
    refine lv_null hx hb dX1_find_16 ?_
    refine lv_goto (tgt := 33) hx hb dX1_find_17 (by decide) ?_
    exact hret _ _ none _ dX1_find_33 rfl (Or.inl ⟨rfl, by omega⟩)
  · have c2_1 : ¬ ((o).toInt < 1) := mt (ti_lt (x := o) (y := 1) (a := (o).toInt) (b := 1) rfl rfl).mpr c2_1
    refine lv_iload_n hx hb dX1_find_5 rfl (lv_at hl 1 rfl) ?_
    refine lv_aload_n hx hb dX1_find_6 rfl (lv_at hl 0 rfl) ?_
    refine va_get (D := G.1) (ci := 2) (v := .ref a.2.1) (own := RX1) (C := RX1) (T := TX1) (N := 6) hx hb hts hiX1 hown hK.1 hP 0 rfl rfl 0 (by decide) lf10 (fun _ h9 => h9) rfl dX1_find_7 ?_
    refine rdV_i (b := a.2.1) (As := []) (rest := [.int o]) ⟨hx, hb, hml, hown, hts⟩ (c_Jx4a65c_size_8abf5 l G a.2.1 κ.1 (nI (sN σ)) _) cw52 hK (LW_one (CW_list hP)) 0 rfl rfl rfl rfl hl.1 rfl (Nat.le_of_ble_eq_true rfl) dX1_find_10 ⟨Nat.zero_le _, Nat.zero_le _⟩ (fun r2 w2 => ?_)
    have w2 : r2.toInt = (((sN σ) : Nat) : Int) := by rw [w2]; exact ti_nI (by omega)
    refine lv_icmp_le (tgt := 20) hx hb dX1_find_13 (by decide) (fun c13_3 => ?_) (fun c13_3 => ?_)
    · have c13_3 : (o).toInt ≤ (((sN σ) : Nat) : Int) := (ti_le (x := o) (y := r2) (a := (o).toInt) (b := (((sN σ) : Nat) : Int)) rfl w2).mp c13_3
      refine lv_aload_n hx hb dX1_find_20 rfl (lv_at hl 0 rfl) ?_
      refine va_get (D := G.1) (ci := 2) (v := .ref a.2.1) (own := RX1) (C := RX1) (T := TX1) (N := 6) hx hb hts hiX1 hown hK.1 hP 0 rfl rfl 0 (by decide) lf10 (fun _ h9 => h9) rfl dX1_find_21 ?_
      refine lv_iload_n hx hb dX1_find_24 rfl (lv_at hl 1 rfl) ?_
      refine lv_iconst (v := 1) hx hb dX1_find_25 (by decide) ?_
      refine lv_isub hx hb dX1_find_26 ?_
      refine lv_topi (fun y26_4 e26_4 => ?_)
      have v26_4 : (y26_4).toInt = ((o).toInt - 1) := by rw [e26_4]; exact ti_sub (a := (o).toInt) (b := 1) rfl rfl (by omega) (by omega)
      have hk5 : (((o).toInt - 1)).toNat < (sN σ) := by omega
      obtain ⟨hc5, hd5, he5⟩ := hC.1 (by omega)
      refine rdV_q (b := a.2.1) (As := [.int y26_4]) (rest := []) ⟨hx, hb, hml, hown, hts⟩ (c_Jx4a65c_get_915e3 l G a.2.1 κ.1 y26_4 κ.2.1 κ.2.2.1 (sN σ) ((((o).toInt - 1)).toNat) κ.2.2.2.1 (v26_4.trans (by omega)) hk5 hc5 (by omega)) cw123 hK (LW_pos (show (sN σ) ≠ 0 by omega) ▸ CW_list hP) 0 rfl rfl rfl rfl hl.1 rfl (Nat.le_of_ble_eq_true rfl) dX1_find_27 ⟨Nat.zero_le _, Nat.zero_le _⟩ (fun r5 w5 => ?_)
      obtain rfl : r5 = some (κ.2.2.2.2.1 ((((o).toInt - 1)).toNat)) := w5.trans (he5 ((((o).toInt - 1)).toNat) hk5)
      refine W.eq (g2 := F0 m 30 ls [.ref (κ.2.2.2.2.1 ((((o).toInt - 1)).toNat))]) rfl ?_
      refine va_castS (own := RX1) (nm := RX0) hx hb hown cl56 (hK.1.1 1 _ rfl).2 (va_recv hK.1 hP (ci := 1) (q0 := ((((o).toInt - 1)).toNat) + 4) rfl (CW_get hk5)) dX1_find_30 ?_
      exact hret _ _ (some (κ.2.2.2.2.1 ((((o).toInt - 1)).toNat))) _ dX1_find_33 rfl (Or.inr ⟨((((o).toInt - 1)).toNat), hk5, by omega, rfl⟩)
    · have c13_3 : ¬ ((o).toInt ≤ (((sN σ) : Nat) : Int)) := mt (ti_le (x := o) (y := r2) (a := (o).toInt) (b := (((sN σ) : Nat) : Int)) rfl w2).mpr c13_3
      refine lv_null hx hb dX1_find_16 ?_
      refine lv_goto (tgt := 33) hx hb dX1_find_17 (by decide) ?_
      exact hret _ _ none _ dX1_find_33 rfl (Or.inl ⟨rfl, by omega⟩)

set_option maxHeartbeats 4000000 in
set_option maxRecDepth 100000 in
/-- rankOf -/
theorem c_X1_rankOf (l : Launch) (G : GG) (a : AD) (κ : KP) (σ : St) (hI : SI σ) (hC : CI κ σ) (k : Int32) (h0 : 0 ≤ (k).toInt) (h1 : (k).toInt < 9) : RdI l yX1_rankOf wsX1_rankOf (rmX 1 40 0 0) G [.ref a.1, .int k] (WC G a κ σ) (fun r => r = sR σ (k).toInt.toNat) := by
  refine rd_of_i (cc := cX1_rankOf) (maxL := 2) (t := .int) (by decide +kernel) rfl (Nat.le_of_ble_eq_true rfl) nar_int ?_
  intro p e s m args below meth c Q hx hb hml hown hts hP hK hret ls hl
  have hown : s.vm.findClass RX1 = some m.cls := hown
  have hl : lv_has ls 2 [(0, .ref a.1), (1, .int k)] := hl
  have hP : va_P G.1 vwCl (CW G a (nI (sG σ).length) (sT σ) (sR σ) κ.2.2.2.2.2.1 κ.2.2.2.2.2.2 (pO κ.2.2.2.2.1 (sO σ) (sN σ)) (LW G a.2.1 κ.1 κ.2.1 κ.2.2.1 κ.2.2.2.1 (sN σ))) s.heap := hP
  obtain ⟨hI1, hI2, hI3, hI4, hI5⟩ := id hI
  have cw34 := va_cwS (R := (rmX 1 40 0 0)) (s := s) (args := args) (rm := (rmX 0 0 0 0)) (mc := 0) (ms := 0) 1 hts gX1_rankOf_X1_isKind rfl rfl rfl (by decide +kernel) ⟨Nat.le_of_ble_eq_true rfl, Nat.le_of_ble_eq_true rfl⟩
  have hiX1 := (show ∀ w ∈ u_ws RX1 TX1 6, w ∈ wsX1_rankOf by decide +kernel)
  have lf16 := hts (.fieldLink RX1 16 "OrderRows2" "rankOfKind" "[I") (by decide +kernel)
  refine lv_iload_n hx hb dX1_rankOf_0 rfl (lv_at hl 1 rfl) ?_
  refine rdS_i (As := [.int k]) (rest := []) ⟨hx, hb, hml, hown, hts⟩ (c_X1_isKind l G k) cw34 hK va_P.nil rfl hl.1 rfl (Nat.le_of_ble_eq_true rfl) dX1_rankOf_1 ⟨Nat.zero_le _, Nat.zero_le _⟩ (fun r1_1 w1_1 => ?_)
  have w1_1 : ((r1_1.toInt = 1 ∧ (0 ≤ (k).toInt ∧ (k).toInt < 9)) ∨ (r1_1.toInt = 0 ∧ ¬ (0 ≤ (k).toInt ∧ (k).toInt < 9))) := w1_1
  refine lv_if_eq (tgt := 16) hx hb dX1_rankOf_4 (by decide) (fun c4_2 => ?_) (fun c4_2 => ?_)
  · have c4_2 : (r1_1).toInt = 0 := (ti_eq (x := r1_1) (y := 0) (a := (r1_1).toInt) (b := 0) rfl rfl).mp c4_2
    exfalso; omega
  · have c4_2 : ¬ ((r1_1).toInt = 0) := mt (ti_eq (x := r1_1) (y := 0) (a := (r1_1).toInt) (b := 0) rfl rfl).mpr c4_2
    refine lv_aload_n hx hb dX1_rankOf_7 rfl (lv_at hl 0 rfl) ?_
    refine va_get (D := G.1) (ci := 2) (v := .ref a.2.2.1) (own := RX1) (C := RX1) (T := TX1) (N := 6) hx hb hts hiX1 hown hK.1 hP 0 rfl rfl 1 (by decide) lf16 (fun _ h9 => h9) rfl dX1_rankOf_8 ?_
    refine lv_iload_n hx hb dX1_rankOf_11 rfl (lv_at hl 1 rfl) ?_
    refine my_iald hx hb hK hP 1 rfl ((k).toInt.toNat) (show (k).toInt = (((k).toInt.toNat : Nat) : Int) by omega) (by omega) dX1_rankOf_12 ?_
    refine lv_goto (tgt := 17) hx hb dX1_rankOf_13 (by decide) ?_
    exact hret _ _ _ dX1_rankOf_17 (Or.inr (Or.inr rfl)) rfl
