-- ===== laid by wip/whole/gen.py out of the decode rows =====
set_option maxHeartbeats 4000000 in
set_option maxRecDepth 100000 in
theorem lc_7 {p : Program} {l : Launch} {e : Env} {s : State} {m : MethodId} {args : Array Value} {below : List Frame} {meth : Method} {c : Code} {b L : Nat} {xs : Nat → Int32} {Q : State → Prop} {A : Nat → Prop} {G : GG} (hx : p.tables.exec = Jvm.exec) (hb : c.code = cL_law) (hml : c.maxLocals = 4) (hown : s.vm.findClass RL = some m.cls) (hts : ∀ w ∈ wsL_law, w.before args s = true) (hX : va_X b L xs s s.heap) (hbl : b < s.heap.size) (hA : ∀ q, s.heap.size ≤ q → A q) (hbA : ¬ A b) (hK : KK G s) (hZ : SF G A s s.heap) (hL : L ≤ 4608) {a : AD} {κ : KP} {bm : Nat → Nat} {μ : MP} {σ : St} {H : Heap} {locs : List Loc} (hLI : LI G A s H locs a κ bm μ σ) {cells slots : Nat} (hcs : cells + 2 ≤ 908180) (hss : slots + 409 ≤ 6377709) {ls : Array Slot} {x3 : Int32} {k : Nat} (e3 : x3.toInt = ((k : Nat) : Int)) (hk : k + 9 ≤ L) (hl : lv_has ls 4 [(3, .int x3), (0, .ref b), (1, .ref a.1), (2, .ref (bm 0))]) (kk : ∀ (κ1 : KP) (μ1 : MP) (σ1 : St) (H1 : Heap) (locs1 : List Loc), LI G A s H1 locs1 a κ1 bm μ1 σ1 → W p l e room_1 s m args below meth c H1 locs1 (cells + 2) (slots + 409) Q (F0 m 663 ls [])) : W p l e room_1 s m args below meth c H locs cells slots Q (F0 m 567 ls []) := by
  obtain ⟨hI, hC, hM, hP, hD, hS⟩ := hLI
  have kl13 := hts (.constantLong RL 13 (4294967295)) (by decide +kernel)
  have cw50 := cwV (R := room_1) (s := s) (args := args) (rm := (rmX 4 140 0 0)) (mc := 0) (ms := 0) 2 hts gL_law_X1_extend rfl rfl rfl (by decide +kernel) ⟨Nat.le_of_ble_eq_true rfl, Nat.le_of_ble_eq_true rfl⟩
  have cw53 := cwV (R := room_1) (s := s) (args := args) (rm := (rmX 2 90 0 0)) (mc := 0) (ms := 0) 2 hts gL_law_X2_extend rfl rfl rfl (by decide +kernel) ⟨Nat.le_of_ble_eq_true rfl, Nat.le_of_ble_eq_true rfl⟩
  refine lv_aload_n hx hb dL_law_567 rfl (lv_at hl 2 rfl) ?_
  refine lv_aload_n hx hb dL_law_568 rfl (lv_at hl 1 rfl) ?_
  refine lv_iload_n hx hb dL_law_569 rfl (lv_at hl 0 rfl) ?_
  refine lv_iconst (v := 1) hx hb dL_law_570 (by decide) ?_
  refine lv_iadd hx hb dL_law_571 ?_
  refine lv_topi (fun y571_1 e571_1 => ?_)
  have v571_1 : (y571_1).toInt = (((k + 1) : Nat) : Int) := by rw [e571_1]; exact (ti_add (a := ((k : Nat) : Int)) (b := 1) e3 rfl (by omega) (by omega)).trans (by omega)
  refine my_sld hx hb hX hbl hbA hS (k := (k + 1)) v571_1 (by omega) dL_law_572 ?_
  refine lv_aload_n hx hb dL_law_573 rfl (lv_at hl 1 rfl) ?_
  refine lv_iload_n hx hb dL_law_574 rfl (lv_at hl 0 rfl) ?_
  refine lv_iconst (v := 2) hx hb dL_law_575 (by decide) ?_
  refine lv_iadd hx hb dL_law_576 ?_
  refine lv_topi (fun y576_2 e576_2 => ?_)
  have v576_2 : (y576_2).toInt = (((k + 2) : Nat) : Int) := by rw [e576_2]; exact (ti_add (a := ((k : Nat) : Int)) (b := 2) e3 rfl (by omega) (by omega)).trans (by omega)
  refine my_sld hx hb hX hbl hbA hS (k := (k + 2)) v576_2 (by omega) dL_law_577 ?_
  refine lv_i2l hx hb dL_law_578 rfl ?_
  refine lv_bipush (v := 32) hx hb dL_law_579 (by decide) ?_
  refine lv_lshl hx hb dL_law_581 rfl ?_
  refine lv_aload_n hx hb dL_law_582 rfl (lv_at hl 1 rfl) ?_
  refine lv_iload_n hx hb dL_law_583 rfl (lv_at hl 0 rfl) ?_
  refine lv_iconst (v := 3) hx hb dL_law_584 (by decide) ?_
  refine lv_iadd hx hb dL_law_585 ?_
  refine lv_topi (fun y585_3 e585_3 => ?_)
  have v585_3 : (y585_3).toInt = (((k + 3) : Nat) : Int) := by rw [e585_3]; exact (ti_add (a := ((k : Nat) : Int)) (b := 3) e3 rfl (by omega) (by omega)).trans (by omega)
  refine my_sld hx hb hX hbl hbA hS (k := (k + 3)) v585_3 (by omega) dL_law_586 ?_
  refine lv_i2l hx hb dL_law_587 rfl ?_
  refine lv_ldc2 (v := 4294967295) hx hb hown kl13 dL_law_588 ?_
  refine lv_land hx hb dL_law_591 ?_
  refine lv_lor hx hb dL_law_592 ?_
  refine wrV_i (wr := WM G bm μ σ) (b := a.1) (As := [.int (xs (k + 1)), .long ((((xs (k + 2))).toInt64 <<< ((32 : Int32).toInt64 &&& 63)) ||| (((xs (k + 3))).toInt64 &&& 4294967295))]) (rest := []) ⟨hx, hb, hml, hown, hts⟩ (c_X1_extend l G a κ σ hI hC (xs (k + 1)) ((((xs (k + 2))).toInt64 <<< ((32 : Int32).toInt64 &&& 63)) ||| (((xs (k + 3))).toInt64 &&& 4294967295))) cw50 hK hZ hP hD hS hA 2 rfl rfl rfl rfl hl.1 rfl (Nat.le_of_ble_eq_true rfl) dL_law_593 ⟨by show cells + 0 ≤ 908180; omega, by show slots + 0 ≤ 6377709; omega⟩ (fun r1 u1 H locs w1 hP hD hS => ?_)
  refine lv_aload_n hx hb dL_law_596 rfl (lv_at hl 3 rfl) ?_
  refine lv_aload_n hx hb dL_law_597 rfl (lv_at hl 1 rfl) ?_
  refine lv_iload_n hx hb dL_law_598 rfl (lv_at hl 0 rfl) ?_
  refine lv_iconst (v := 1) hx hb dL_law_599 (by decide) ?_
  refine lv_iadd hx hb dL_law_600 ?_
  refine lv_topi (fun y600_4 e600_4 => ?_)
  have v600_4 : (y600_4).toInt = (((k + 1) : Nat) : Int) := by rw [e600_4]; exact (ti_add (a := ((k : Nat) : Int)) (b := 1) e3 rfl (by omega) (by omega)).trans (by omega)
  refine my_sld hx hb hX hbl hbA hS (k := (k + 1)) v600_4 (by omega) dL_law_601 ?_
  refine lv_aload_n hx hb dL_law_602 rfl (lv_at hl 1 rfl) ?_
  refine lv_iload_n hx hb dL_law_603 rfl (lv_at hl 0 rfl) ?_
  refine lv_iconst (v := 2) hx hb dL_law_604 (by decide) ?_
  refine lv_iadd hx hb dL_law_605 ?_
  refine lv_topi (fun y605_5 e605_5 => ?_)
  have v605_5 : (y605_5).toInt = (((k + 2) : Nat) : Int) := by rw [e605_5]; exact (ti_add (a := ((k : Nat) : Int)) (b := 2) e3 rfl (by omega) (by omega)).trans (by omega)
  refine my_sld hx hb hX hbl hbA hS (k := (k + 2)) v605_5 (by omega) dL_law_606 ?_
  refine lv_i2l hx hb dL_law_607 rfl ?_
  refine lv_bipush (v := 32) hx hb dL_law_608 (by decide) ?_
  refine lv_lshl hx hb dL_law_610 rfl ?_
  refine lv_aload_n hx hb dL_law_611 rfl (lv_at hl 1 rfl) ?_
  refine lv_iload_n hx hb dL_law_612 rfl (lv_at hl 0 rfl) ?_
  refine lv_iconst (v := 3) hx hb dL_law_613 (by decide) ?_
  refine lv_iadd hx hb dL_law_614 ?_
  refine lv_topi (fun y614_6 e614_6 => ?_)
  have v614_6 : (y614_6).toInt = (((k + 3) : Nat) : Int) := by rw [e614_6]; exact (ti_add (a := ((k : Nat) : Int)) (b := 3) e3 rfl (by omega) (by omega)).trans (by omega)
  refine my_sld hx hb hX hbl hbA hS (k := (k + 3)) v614_6 (by omega) dL_law_615 ?_
  refine lv_i2l hx hb dL_law_616 rfl ?_
  refine lv_ldc2 (v := 4294967295) hx hb hown kl13 dL_law_617 ?_
  refine lv_land hx hb dL_law_620 ?_
  refine lv_lor hx hb dL_law_621 ?_
  refine wrV_i (wr := WC G a κ (fExtend σ (xs (k + 1)) ((((xs (k + 2))).toInt64 <<< ((32 : Int32).toInt64 &&& 63)) ||| (((xs (k + 3))).toInt64 &&& 4294967295))).2) (b := bm 0) (As := [.int (xs (k + 1)), .long ((((xs (k + 2))).toInt64 <<< ((32 : Int32).toInt64 &&& 63)) ||| (((xs (k + 3))).toInt64 &&& 4294967295))]) (rest := [.int r1]) ⟨hx, hb, hml, hown, hts⟩ (c_X2_extend l G bm μ σ hI hM (xs (k + 1)) ((((xs (k + 2))).toInt64 <<< ((32 : Int32).toInt64 &&& 63)) ||| (((xs (k + 3))).toInt64 &&& 4294967295))) cw53 hK hZ (va_P.comm hP) (va_D.comm hD) hS hA 3 rfl rfl rfl rfl hl.1 rfl (Nat.le_of_ble_eq_true rfl) dL_law_622 ⟨by show cells + 0 + 0 ≤ 908180; omega, by show slots + 0 + 0 ≤ 6377709; omega⟩ (fun r2 u2 H locs w2 hP hD hS => ?_)
  obtain ⟨w2, hM1⟩ := w2
  refine lv_icmp_eq (tgt := 663) hx hb dL_law_625 (by decide) (fun _ => ?_) (fun c9 => absurd (w1.trans w2.symm) c9)
  refine W.widen (k := cells + 2) (n := slots + 409) (by omega) (by omega) ?_
  exact kk κ u2 (fExtend σ (xs (k + 1)) ((((xs (k + 2))).toInt64 <<< ((32 : Int32).toInt64 &&& 63)) ||| (((xs (k + 3))).toInt64 &&& 4294967295))).2 _ _ ⟨SI_extend hI, (CI_extend hC), hM1, va_P.comm hP, va_D.comm hD, hS⟩
