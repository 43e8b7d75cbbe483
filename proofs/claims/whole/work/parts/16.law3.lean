-- ===== laid by wip/whole/gen.py out of the decode rows =====
set_option maxHeartbeats 4000000 in
set_option maxRecDepth 100000 in
theorem lc_3 {p : Program} {l : Launch} {e : Env} {s : State} {m : MethodId} {args : Array Value} {below : List Frame} {meth : Method} {c : Code} {b L : Nat} {xs : Nat → Int32} {Q : State → Prop} {A : Nat → Prop} {G : GG} (hx : p.tables.exec = Jvm.exec) (hb : c.code = cL_law) (hml : c.maxLocals = 4) (hown : s.vm.findClass RL = some m.cls) (hts : ∀ w ∈ wsL_law, w.before args s = true) (hX : va_X b L xs s s.heap) (hbl : b < s.heap.size) (hA : ∀ q, s.heap.size ≤ q → A q) (hbA : ¬ A b) (hK : KK G s) (hZ : SF G A s s.heap) (hL : L ≤ 4608) {a : AD} {κ : KP} {bm : Nat → Nat} {μ : MP} {σ : St} {H : Heap} {locs : List Loc} (hLI : LI G A s H locs a κ bm μ σ) {cells slots : Nat} (hcs : cells + 2 ≤ 908180) (hss : slots + 409 ≤ 6377709) {ls : Array Slot} {x3 : Int32} {k : Nat} (e3 : x3.toInt = ((k : Nat) : Int)) (hk : k + 9 ≤ L) (hl : lv_has ls 4 [(3, .int x3), (0, .ref b), (1, .ref a.1), (2, .ref (bm 0))]) (kk : ∀ (κ1 : KP) (μ1 : MP) (σ1 : St) (H1 : Heap) (locs1 : List Loc), LI G A s H1 locs1 a κ1 bm μ1 σ1 → W p l e room_1 s m args below meth c H1 locs1 (cells + 2) (slots + 409) Q (F0 m 663 ls [])) : W p l e room_1 s m args below meth c H locs cells slots Q (F0 m 375 ls []) := by
  obtain ⟨hI, hC, hM, hP, hD, hS⟩ := hLI
  have kl13 := hts (.constantLong RL 13 (4294967295)) (by decide +kernel)
  have cw30 := cwV (R := room_1) (s := s) (args := args) (rm := (rmX 5 180 0 0)) (mc := 0) (ms := 0) 4 hts gL_law_X1_effective rfl rfl rfl (by decide +kernel) ⟨Nat.le_of_ble_eq_true rfl, Nat.le_of_ble_eq_true rfl⟩
  have cw34 := cwV (R := room_1) (s := s) (args := args) (rm := (rmX 3 130 0 0)) (mc := 0) (ms := 0) 4 hts gL_law_X2_effective rfl rfl rfl (by decide +kernel) ⟨Nat.le_of_ble_eq_true rfl, Nat.le_of_ble_eq_true rfl⟩
  refine lv_aload_n hx hb dL_law_375 rfl (lv_at hl 2 rfl) ?_
  refine lv_aload_n hx hb dL_law_376 rfl (lv_at hl 1 rfl) ?_
  refine lv_iload_n hx hb dL_law_377 rfl (lv_at hl 0 rfl) ?_
  refine lv_iconst (v := 1) hx hb dL_law_378 (by decide) ?_
  refine lv_iadd hx hb dL_law_379 ?_
  refine lv_topi (fun y379_1 e379_1 => ?_)
  have v379_1 : (y379_1).toInt = (((k + 1) : Nat) : Int) := by rw [e379_1]; exact (ti_add (a := ((k : Nat) : Int)) (b := 1) e3 rfl (by omega) (by omega)).trans (by omega)
  refine my_sld hx hb hX hbl hbA hS (k := (k + 1)) v379_1 (by omega) dL_law_380 ?_
  refine lv_aload_n hx hb dL_law_381 rfl (lv_at hl 1 rfl) ?_
  refine lv_iload_n hx hb dL_law_382 rfl (lv_at hl 0 rfl) ?_
  refine lv_iconst (v := 2) hx hb dL_law_383 (by decide) ?_
  refine lv_iadd hx hb dL_law_384 ?_
  refine lv_topi (fun y384_2 e384_2 => ?_)
  have v384_2 : (y384_2).toInt = (((k + 2) : Nat) : Int) := by rw [e384_2]; exact (ti_add (a := ((k : Nat) : Int)) (b := 2) e3 rfl (by omega) (by omega)).trans (by omega)
  refine my_sld hx hb hX hbl hbA hS (k := (k + 2)) v384_2 (by omega) dL_law_385 ?_
  refine lv_aload_n hx hb dL_law_386 rfl (lv_at hl 1 rfl) ?_
  refine lv_iload_n hx hb dL_law_387 rfl (lv_at hl 0 rfl) ?_
  refine lv_iconst (v := 3) hx hb dL_law_388 (by decide) ?_
  refine lv_iadd hx hb dL_law_389 ?_
  refine lv_topi (fun y389_3 e389_3 => ?_)
  have v389_3 : (y389_3).toInt = (((k + 3) : Nat) : Int) := by rw [e389_3]; exact (ti_add (a := ((k : Nat) : Int)) (b := 3) e3 rfl (by omega) (by omega)).trans (by omega)
  refine my_sld hx hb hX hbl hbA hS (k := (k + 3)) v389_3 (by omega) dL_law_390 ?_
  refine lv_aload_n hx hb dL_law_391 rfl (lv_at hl 1 rfl) ?_
  refine lv_iload_n hx hb dL_law_392 rfl (lv_at hl 0 rfl) ?_
  refine lv_iconst (v := 4) hx hb dL_law_393 (by decide) ?_
  refine lv_iadd hx hb dL_law_394 ?_
  refine lv_topi (fun y394_4 e394_4 => ?_)
  have v394_4 : (y394_4).toInt = (((k + 4) : Nat) : Int) := by rw [e394_4]; exact (ti_add (a := ((k : Nat) : Int)) (b := 4) e3 rfl (by omega) (by omega)).trans (by omega)
  refine my_sld hx hb hX hbl hbA hS (k := (k + 4)) v394_4 (by omega) dL_law_395 ?_
  refine lv_i2l hx hb dL_law_396 rfl ?_
  refine lv_bipush (v := 32) hx hb dL_law_397 (by decide) ?_
  refine lv_lshl hx hb dL_law_399 rfl ?_
  refine lv_aload_n hx hb dL_law_400 rfl (lv_at hl 1 rfl) ?_
  refine lv_iload_n hx hb dL_law_401 rfl (lv_at hl 0 rfl) ?_
  refine lv_iconst (v := 5) hx hb dL_law_402 (by decide) ?_
  refine lv_iadd hx hb dL_law_403 ?_
  refine lv_topi (fun y403_5 e403_5 => ?_)
  have v403_5 : (y403_5).toInt = (((k + 5) : Nat) : Int) := by rw [e403_5]; exact (ti_add (a := ((k : Nat) : Int)) (b := 5) e3 rfl (by omega) (by omega)).trans (by omega)
  refine my_sld hx hb hX hbl hbA hS (k := (k + 5)) v403_5 (by omega) dL_law_404 ?_
  refine lv_i2l hx hb dL_law_405 rfl ?_
  refine lv_ldc2 (v := 4294967295) hx hb hown kl13 dL_law_406 ?_
  refine lv_land hx hb dL_law_409 ?_
  refine lv_lor hx hb dL_law_410 ?_
  refine wrV_i (wr := WM G bm μ σ) (b := a.1) (As := [.int (xs (k + 1)), .int (xs (k + 2)), .int (xs (k + 3)), .long ((((xs (k + 4))).toInt64 <<< ((32 : Int32).toInt64 &&& 63)) ||| (((xs (k + 5))).toInt64 &&& 4294967295))]) (rest := []) ⟨hx, hb, hml, hown, hts⟩ (c_X1_effective l G a κ σ hI hC (xs (k + 1)) (xs (k + 2)) (xs (k + 3)) ((((xs (k + 4))).toInt64 <<< ((32 : Int32).toInt64 &&& 63)) ||| (((xs (k + 5))).toInt64 &&& 4294967295))) cw30 hK hZ hP hD hS hA 2 rfl rfl rfl rfl hl.1 rfl (Nat.le_of_ble_eq_true rfl) dL_law_411 ⟨by show cells + 0 ≤ 908180; omega, by show slots + 0 ≤ 6377709; omega⟩ (fun r1 u1 H locs w1 hP hD hS => ?_)
  obtain ⟨w1, hC1⟩ := w1
  refine lv_aload_n hx hb dL_law_414 rfl (lv_at hl 3 rfl) ?_
  refine lv_aload_n hx hb dL_law_415 rfl (lv_at hl 1 rfl) ?_
  refine lv_iload_n hx hb dL_law_416 rfl (lv_at hl 0 rfl) ?_
  refine lv_iconst (v := 1) hx hb dL_law_417 (by decide) ?_
  refine lv_iadd hx hb dL_law_418 ?_
  refine lv_topi (fun y418_6 e418_6 => ?_)
  have v418_6 : (y418_6).toInt = (((k + 1) : Nat) : Int) := by rw [e418_6]; exact (ti_add (a := ((k : Nat) : Int)) (b := 1) e3 rfl (by omega) (by omega)).trans (by omega)
  refine my_sld hx hb hX hbl hbA hS (k := (k + 1)) v418_6 (by omega) dL_law_419 ?_
  refine lv_aload_n hx hb dL_law_420 rfl (lv_at hl 1 rfl) ?_
  refine lv_iload_n hx hb dL_law_421 rfl (lv_at hl 0 rfl) ?_
  refine lv_iconst (v := 2) hx hb dL_law_422 (by decide) ?_
  refine lv_iadd hx hb dL_law_423 ?_
  refine lv_topi (fun y423_7 e423_7 => ?_)
  have v423_7 : (y423_7).toInt = (((k + 2) : Nat) : Int) := by rw [e423_7]; exact (ti_add (a := ((k : Nat) : Int)) (b := 2) e3 rfl (by omega) (by omega)).trans (by omega)
  refine my_sld hx hb hX hbl hbA hS (k := (k + 2)) v423_7 (by omega) dL_law_424 ?_
  refine lv_aload_n hx hb dL_law_425 rfl (lv_at hl 1 rfl) ?_
  refine lv_iload_n hx hb dL_law_426 rfl (lv_at hl 0 rfl) ?_
  refine lv_iconst (v := 3) hx hb dL_law_427 (by decide) ?_
  refine lv_iadd hx hb dL_law_428 ?_
  refine lv_topi (fun y428_8 e428_8 => ?_)
  have v428_8 : (y428_8).toInt = (((k + 3) : Nat) : Int) := by rw [e428_8]; exact (ti_add (a := ((k : Nat) : Int)) (b := 3) e3 rfl (by omega) (by omega)).trans (by omega)
  refine my_sld hx hb hX hbl hbA hS (k := (k + 3)) v428_8 (by omega) dL_law_429 ?_
  refine lv_aload_n hx hb dL_law_430 rfl (lv_at hl 1 rfl) ?_
  refine lv_iload_n hx hb dL_law_431 rfl (lv_at hl 0 rfl) ?_
  refine lv_iconst (v := 4) hx hb dL_law_432 (by decide) ?_
  refine lv_iadd hx hb dL_law_433 ?_
  refine lv_topi (fun y433_9 e433_9 => ?_)
  have v433_9 : (y433_9).toInt = (((k + 4) : Nat) : Int) := by rw [e433_9]; exact (ti_add (a := ((k : Nat) : Int)) (b := 4) e3 rfl (by omega) (by omega)).trans (by omega)
  refine my_sld hx hb hX hbl hbA hS (k := (k + 4)) v433_9 (by omega) dL_law_434 ?_
  refine lv_i2l hx hb dL_law_435 rfl ?_
  refine lv_bipush (v := 32) hx hb dL_law_436 (by decide) ?_
  refine lv_lshl hx hb dL_law_438 rfl ?_
  refine lv_aload_n hx hb dL_law_439 rfl (lv_at hl 1 rfl) ?_
  refine lv_iload_n hx hb dL_law_440 rfl (lv_at hl 0 rfl) ?_
  refine lv_iconst (v := 5) hx hb dL_law_441 (by decide) ?_
  refine lv_iadd hx hb dL_law_442 ?_
  refine lv_topi (fun y442_10 e442_10 => ?_)
  have v442_10 : (y442_10).toInt = (((k + 5) : Nat) : Int) := by rw [e442_10]; exact (ti_add (a := ((k : Nat) : Int)) (b := 5) e3 rfl (by omega) (by omega)).trans (by omega)
  refine my_sld hx hb hX hbl hbA hS (k := (k + 5)) v442_10 (by omega) dL_law_443 ?_
  refine lv_i2l hx hb dL_law_444 rfl ?_
  refine lv_ldc2 (v := 4294967295) hx hb hown kl13 dL_law_445 ?_
  refine lv_land hx hb dL_law_448 ?_
  refine lv_lor hx hb dL_law_449 ?_
  refine wrV_i (wr := WC G a (kPR κ u1.1 u1.2) (fEff σ (xs (k + 1)) (xs (k + 2)) (xs (k + 3)) ((((xs (k + 4))).toInt64 <<< ((32 : Int32).toInt64 &&& 63)) ||| (((xs (k + 5))).toInt64 &&& 4294967295))).2) (b := bm 0) (As := [.int (xs (k + 1)), .int (xs (k + 2)), .int (xs (k + 3)), .long ((((xs (k + 4))).toInt64 <<< ((32 : Int32).toInt64 &&& 63)) ||| (((xs (k + 5))).toInt64 &&& 4294967295))]) (rest := [.int r1]) ⟨hx, hb, hml, hown, hts⟩ (c_X2_effective l G bm μ σ hI hM (xs (k + 1)) (xs (k + 2)) (xs (k + 3)) ((((xs (k + 4))).toInt64 <<< ((32 : Int32).toInt64 &&& 63)) ||| (((xs (k + 5))).toInt64 &&& 4294967295))) cw34 hK hZ (va_P.comm hP) (va_D.comm hD) hS hA 3 rfl rfl rfl rfl hl.1 rfl (Nat.le_of_ble_eq_true rfl) dL_law_450 ⟨by show cells + 0 + 0 ≤ 908180; omega, by show slots + 0 + 0 ≤ 6377709; omega⟩ (fun r2 u2 H locs w2 hP hD hS => ?_)
  obtain ⟨w2, hM1⟩ := w2
  refine lv_icmp_eq (tgt := 663) hx hb dL_law_453 (by decide) (fun _ => ?_) (fun c9 => absurd (w1.trans w2.symm) c9)
  refine W.widen (k := cells + 2) (n := slots + 409) (by omega) (by omega) ?_
  exact kk (kPR κ u1.1 u1.2) u2 (fEff σ (xs (k + 1)) (xs (k + 2)) (xs (k + 3)) ((((xs (k + 4))).toInt64 <<< ((32 : Int32).toInt64 &&& 63)) ||| (((xs (k + 5))).toInt64 &&& 4294967295))).2 _ _ ⟨SI_eff hI, hC1, hM1, va_P.comm hP, va_D.comm hD, hS⟩
