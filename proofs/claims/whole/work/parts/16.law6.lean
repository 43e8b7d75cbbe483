-- ===== laid by wip/whole/gen.py out of the decode rows =====
set_option maxHeartbeats 4000000 in
set_option maxRecDepth 100000 in
theorem lc_6 {p : Program} {l : Launch} {e : Env} {s : State} {m : MethodId} {args : Array Value} {below : List Frame} {meth : Method} {c : Code} {b L : Nat} {xs : Nat → Int32} {Q : State → Prop} {A : Nat → Prop} {G : GG} (hx : p.tables.exec = Jvm.exec) (hb : c.code = cL_law) (hml : c.maxLocals = 4) (hown : s.vm.findClass RL = some m.cls) (hts : ∀ w ∈ wsL_law, w.before args s = true) (hX : va_X b L xs s s.heap) (hbl : b < s.heap.size) (hA : ∀ q, s.heap.size ≤ q → A q) (hbA : ¬ A b) (hK : KK G s) (hZ : SF G A s s.heap) (hL : L ≤ 4608) {a : AD} {κ : KP} {bm : Nat → Nat} {μ : MP} {σ : St} {H : Heap} {locs : List Loc} (hLI : LI G A s H locs a κ bm μ σ) {cells slots : Nat} (hcs : cells + 2 ≤ 908180) (hss : slots + 409 ≤ 6377709) {ls : Array Slot} {x3 : Int32} {k : Nat} (e3 : x3.toInt = ((k : Nat) : Int)) (hk : k + 9 ≤ L) (hl : lv_has ls 4 [(3, .int x3), (0, .ref b), (1, .ref a.1), (2, .ref (bm 0))]) (kk : ∀ (κ1 : KP) (μ1 : MP) (σ1 : St) (H1 : Heap) (locs1 : List Loc), LI G A s H1 locs1 a κ1 bm μ1 σ1 → W p l e room_1 s m args below meth c H1 locs1 (cells + 2) (slots + 409) Q (F0 m 663 ls [])) : W p l e room_1 s m args below meth c H locs cells slots Q (F0 m 514 ls []) := by
  obtain ⟨hI, hC, hM, hP, hD, hS⟩ := hLI
  have kl13 := hts (.constantLong RL 13 (4294967295)) (by decide +kernel)
  have cw45 := cwV (R := room_1) (s := s) (args := args) (rm := (rmX 5 170 0 0)) (mc := 0) (ms := 0) 1 hts gL_law_X1_tick rfl rfl rfl (by decide +kernel) ⟨Nat.le_of_ble_eq_true rfl, Nat.le_of_ble_eq_true rfl⟩
  have cw49 := cwV (R := room_1) (s := s) (args := args) (rm := (rmX 2 90 0 0)) (mc := 0) (ms := 0) 1 hts gL_law_X2_tick rfl rfl rfl (by decide +kernel) ⟨Nat.le_of_ble_eq_true rfl, Nat.le_of_ble_eq_true rfl⟩
  refine lv_aload_n hx hb dL_law_514 rfl (lv_at hl 2 rfl) ?_
  refine lv_aload_n hx hb dL_law_515 rfl (lv_at hl 1 rfl) ?_
  refine lv_iload_n hx hb dL_law_516 rfl (lv_at hl 0 rfl) ?_
  refine lv_iconst (v := 1) hx hb dL_law_517 (by decide) ?_
  refine lv_iadd hx hb dL_law_518 ?_
  refine lv_topi (fun y518_1 e518_1 => ?_)
  have v518_1 : (y518_1).toInt = (((k + 1) : Nat) : Int) := by rw [e518_1]; exact (ti_add (a := ((k : Nat) : Int)) (b := 1) e3 rfl (by omega) (by omega)).trans (by omega)
  refine my_sld hx hb hX hbl hbA hS (k := (k + 1)) v518_1 (by omega) dL_law_519 ?_
  refine lv_i2l hx hb dL_law_520 rfl ?_
  refine lv_bipush (v := 32) hx hb dL_law_521 (by decide) ?_
  refine lv_lshl hx hb dL_law_523 rfl ?_
  refine lv_aload_n hx hb dL_law_524 rfl (lv_at hl 1 rfl) ?_
  refine lv_iload_n hx hb dL_law_525 rfl (lv_at hl 0 rfl) ?_
  refine lv_iconst (v := 2) hx hb dL_law_526 (by decide) ?_
  refine lv_iadd hx hb dL_law_527 ?_
  refine lv_topi (fun y527_2 e527_2 => ?_)
  have v527_2 : (y527_2).toInt = (((k + 2) : Nat) : Int) := by rw [e527_2]; exact (ti_add (a := ((k : Nat) : Int)) (b := 2) e3 rfl (by omega) (by omega)).trans (by omega)
  refine my_sld hx hb hX hbl hbA hS (k := (k + 2)) v527_2 (by omega) dL_law_528 ?_
  refine lv_i2l hx hb dL_law_529 rfl ?_
  refine lv_ldc2 (v := 4294967295) hx hb hown kl13 dL_law_530 ?_
  refine lv_land hx hb dL_law_533 ?_
  refine lv_lor hx hb dL_law_534 ?_
  refine wrV_i (wr := WM G bm μ σ) (b := a.1) (As := [.long ((((xs (k + 1))).toInt64 <<< ((32 : Int32).toInt64 &&& 63)) ||| (((xs (k + 2))).toInt64 &&& 4294967295))]) (rest := []) ⟨hx, hb, hml, hown, hts⟩ (c_X1_tick l G a κ σ hI hC ((((xs (k + 1))).toInt64 <<< ((32 : Int32).toInt64 &&& 63)) ||| (((xs (k + 2))).toInt64 &&& 4294967295))) cw45 hK hZ hP hD hS hA 2 rfl rfl rfl rfl hl.1 rfl (Nat.le_of_ble_eq_true rfl) dL_law_535 ⟨by show cells + 0 ≤ 908180; omega, by show slots + 0 ≤ 6377709; omega⟩ (fun r1 u1 H locs w1 hP hD hS => ?_)
  refine lv_aload_n hx hb dL_law_538 rfl (lv_at hl 3 rfl) ?_
  refine lv_aload_n hx hb dL_law_539 rfl (lv_at hl 1 rfl) ?_
  refine lv_iload_n hx hb dL_law_540 rfl (lv_at hl 0 rfl) ?_
  refine lv_iconst (v := 1) hx hb dL_law_541 (by decide) ?_
  refine lv_iadd hx hb dL_law_542 ?_
  refine lv_topi (fun y542_3 e542_3 => ?_)
  have v542_3 : (y542_3).toInt = (((k + 1) : Nat) : Int) := by rw [e542_3]; exact (ti_add (a := ((k : Nat) : Int)) (b := 1) e3 rfl (by omega) (by omega)).trans (by omega)
  refine my_sld hx hb hX hbl hbA hS (k := (k + 1)) v542_3 (by omega) dL_law_543 ?_
  refine lv_i2l hx hb dL_law_544 rfl ?_
  refine lv_bipush (v := 32) hx hb dL_law_545 (by decide) ?_
  refine lv_lshl hx hb dL_law_547 rfl ?_
  refine lv_aload_n hx hb dL_law_548 rfl (lv_at hl 1 rfl) ?_
  refine lv_iload_n hx hb dL_law_549 rfl (lv_at hl 0 rfl) ?_
  refine lv_iconst (v := 2) hx hb dL_law_550 (by decide) ?_
  refine lv_iadd hx hb dL_law_551 ?_
  refine lv_topi (fun y551_4 e551_4 => ?_)
  have v551_4 : (y551_4).toInt = (((k + 2) : Nat) : Int) := by rw [e551_4]; exact (ti_add (a := ((k : Nat) : Int)) (b := 2) e3 rfl (by omega) (by omega)).trans (by omega)
  refine my_sld hx hb hX hbl hbA hS (k := (k + 2)) v551_4 (by omega) dL_law_552 ?_
  refine lv_i2l hx hb dL_law_553 rfl ?_
  refine lv_ldc2 (v := 4294967295) hx hb hown kl13 dL_law_554 ?_
  refine lv_land hx hb dL_law_557 ?_
  refine lv_lor hx hb dL_law_558 ?_
  refine wrV_i (wr := WC G a κ (fTick σ ((((xs (k + 1))).toInt64 <<< ((32 : Int32).toInt64 &&& 63)) ||| (((xs (k + 2))).toInt64 &&& 4294967295))).2) (b := bm 0) (As := [.long ((((xs (k + 1))).toInt64 <<< ((32 : Int32).toInt64 &&& 63)) ||| (((xs (k + 2))).toInt64 &&& 4294967295))]) (rest := [.int r1]) ⟨hx, hb, hml, hown, hts⟩ (c_X2_tick l G bm μ σ hI hM ((((xs (k + 1))).toInt64 <<< ((32 : Int32).toInt64 &&& 63)) ||| (((xs (k + 2))).toInt64 &&& 4294967295))) cw49 hK hZ (va_P.comm hP) (va_D.comm hD) hS hA 3 rfl rfl rfl rfl hl.1 rfl (Nat.le_of_ble_eq_true rfl) dL_law_559 ⟨by show cells + 0 + 0 ≤ 908180; omega, by show slots + 0 + 0 ≤ 6377709; omega⟩ (fun r2 u2 H locs w2 hP hD hS => ?_)
  obtain ⟨w2, hM1⟩ := w2
  refine lv_icmp_eq (tgt := 663) hx hb dL_law_562 (by decide) (fun _ => ?_) (fun c9 => absurd (w1.trans w2.symm) c9)
  refine W.widen (k := cells + 2) (n := slots + 409) (by omega) (by omega) ?_
  exact kk κ u2 (fTick σ ((((xs (k + 1))).toInt64 <<< ((32 : Int32).toInt64 &&& 63)) ||| (((xs (k + 2))).toInt64 &&& 4294967295))).2 _ _ ⟨SI_tick hI, (CI_tick hC), hM1, va_P.comm hP, va_D.comm hD, hS⟩
