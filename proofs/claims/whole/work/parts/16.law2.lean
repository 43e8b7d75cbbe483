-- ===== laid by wip/whole/gen.py out of the decode rows =====
set_option maxHeartbeats 4000000 in
set_option maxRecDepth 100000 in
theorem lc_2 {p : Program} {l : Launch} {e : Env} {s : State} {m : MethodId} {args : Array Value} {below : List Frame} {meth : Method} {c : Code} {b L : Nat} {xs : Nat → Int32} {Q : State → Prop} {A : Nat → Prop} {G : GG} (hx : p.tables.exec = Jvm.exec) (hb : c.code = cL_law) (hml : c.maxLocals = 4) (hown : s.vm.findClass RL = some m.cls) (hts : ∀ w ∈ wsL_law, w.before args s = true) (hX : va_X b L xs s s.heap) (hbl : b < s.heap.size) (hA : ∀ q, s.heap.size ≤ q → A q) (hbA : ¬ A b) (hK : KK G s) (hZ : SF G A s s.heap) (hL : L ≤ 4608) {a : AD} {κ : KP} {bm : Nat → Nat} {μ : MP} {σ : St} {H : Heap} {locs : List Loc} (hLI : LI G A s H locs a κ bm μ σ) {cells slots : Nat} (hcs : cells + 2 ≤ 908180) (hss : slots + 409 ≤ 6377709) {ls : Array Slot} {x3 : Int32} {k : Nat} (e3 : x3.toInt = ((k : Nat) : Int)) (hk : k + 9 ≤ L) (hl : lv_has ls 4 [(3, .int x3), (0, .ref b), (1, .ref a.1), (2, .ref (bm 0))]) (kk : ∀ (κ1 : KP) (μ1 : MP) (σ1 : St) (H1 : Heap) (locs1 : List Loc), LI G A s H1 locs1 a κ1 bm μ1 σ1 → W p l e room_1 s m args below meth c H1 locs1 (cells + 2) (slots + 409) Q (F0 m 663 ls [])) : W p l e room_1 s m args below meth c H locs cells slots Q (F0 m 312 ls []) := by
  obtain ⟨hI, hC, hM, hP, hD, hS⟩ := hLI
  have kl13 := hts (.constantLong RL 13 (4294967295)) (by decide +kernel)
  have cw25 := cwV (R := room_1) (s := s) (args := args) (rm := (rmX 5 170 0 0)) (mc := 0) (ms := 0) 2 hts gL_law_X1_withdraw rfl rfl rfl (by decide +kernel) ⟨Nat.le_of_ble_eq_true rfl, Nat.le_of_ble_eq_true rfl⟩
  have cw29 := cwV (R := room_1) (s := s) (args := args) (rm := (rmX 2 90 0 0)) (mc := 0) (ms := 0) 2 hts gL_law_X2_withdraw rfl rfl rfl (by decide +kernel) ⟨Nat.le_of_ble_eq_true rfl, Nat.le_of_ble_eq_true rfl⟩
  refine lv_aload_n hx hb dL_law_312 rfl (lv_at hl 2 rfl) ?_
  refine lv_aload_n hx hb dL_law_313 rfl (lv_at hl 1 rfl) ?_
  refine lv_iload_n hx hb dL_law_314 rfl (lv_at hl 0 rfl) ?_
  refine lv_iconst (v := 1) hx hb dL_law_315 (by decide) ?_
  refine lv_iadd hx hb dL_law_316 ?_
  refine lv_topi (fun y316_1 e316_1 => ?_)
  have v316_1 : (y316_1).toInt = (((k + 1) : Nat) : Int) := by rw [e316_1]; exact (ti_add (a := ((k : Nat) : Int)) (b := 1) e3 rfl (by omega) (by omega)).trans (by omega)
  refine my_sld hx hb hX hbl hbA hS (k := (k + 1)) v316_1 (by omega) dL_law_317 ?_
  refine lv_aload_n hx hb dL_law_318 rfl (lv_at hl 1 rfl) ?_
  refine lv_iload_n hx hb dL_law_319 rfl (lv_at hl 0 rfl) ?_
  refine lv_iconst (v := 2) hx hb dL_law_320 (by decide) ?_
  refine lv_iadd hx hb dL_law_321 ?_
  refine lv_topi (fun y321_2 e321_2 => ?_)
  have v321_2 : (y321_2).toInt = (((k + 2) : Nat) : Int) := by rw [e321_2]; exact (ti_add (a := ((k : Nat) : Int)) (b := 2) e3 rfl (by omega) (by omega)).trans (by omega)
  refine my_sld hx hb hX hbl hbA hS (k := (k + 2)) v321_2 (by omega) dL_law_322 ?_
  refine lv_i2l hx hb dL_law_323 rfl ?_
  refine lv_bipush (v := 32) hx hb dL_law_324 (by decide) ?_
  refine lv_lshl hx hb dL_law_326 rfl ?_
  refine lv_aload_n hx hb dL_law_327 rfl (lv_at hl 1 rfl) ?_
  refine lv_iload_n hx hb dL_law_328 rfl (lv_at hl 0 rfl) ?_
  refine lv_iconst (v := 3) hx hb dL_law_329 (by decide) ?_
  refine lv_iadd hx hb dL_law_330 ?_
  refine lv_topi (fun y330_3 e330_3 => ?_)
  have v330_3 : (y330_3).toInt = (((k + 3) : Nat) : Int) := by rw [e330_3]; exact (ti_add (a := ((k : Nat) : Int)) (b := 3) e3 rfl (by omega) (by omega)).trans (by omega)
  refine my_sld hx hb hX hbl hbA hS (k := (k + 3)) v330_3 (by omega) dL_law_331 ?_
  refine lv_i2l hx hb dL_law_332 rfl ?_
  refine lv_ldc2 (v := 4294967295) hx hb hown kl13 dL_law_333 ?_
  refine lv_land hx hb dL_law_336 ?_
  refine lv_lor hx hb dL_law_337 ?_
  refine wrV_i (wr := WM G bm μ σ) (b := a.1) (As := [.int (xs (k + 1)), .long ((((xs (k + 2))).toInt64 <<< ((32 : Int32).toInt64 &&& 63)) ||| (((xs (k + 3))).toInt64 &&& 4294967295))]) (rest := []) ⟨hx, hb, hml, hown, hts⟩ (c_X1_withdraw l G a κ σ hI hC (xs (k + 1)) ((((xs (k + 2))).toInt64 <<< ((32 : Int32).toInt64 &&& 63)) ||| (((xs (k + 3))).toInt64 &&& 4294967295))) cw25 hK hZ hP hD hS hA 2 rfl rfl rfl rfl hl.1 rfl (Nat.le_of_ble_eq_true rfl) dL_law_338 ⟨by show cells + 0 ≤ 908180; omega, by show slots + 0 ≤ 6377709; omega⟩ (fun r1 u1 H locs w1 hP hD hS => ?_)
  refine lv_aload_n hx hb dL_law_341 rfl (lv_at hl 3 rfl) ?_
  refine lv_aload_n hx hb dL_law_342 rfl (lv_at hl 1 rfl) ?_
  refine lv_iload_n hx hb dL_law_343 rfl (lv_at hl 0 rfl) ?_
  refine lv_iconst (v := 1) hx hb dL_law_344 (by decide) ?_
  refine lv_iadd hx hb dL_law_345 ?_
  refine lv_topi (fun y345_4 e345_4 => ?_)
  have v345_4 : (y345_4).toInt = (((k + 1) : Nat) : Int) := by rw [e345_4]; exact (ti_add (a := ((k : Nat) : Int)) (b := 1) e3 rfl (by omega) (by omega)).trans (by omega)
  refine my_sld hx hb hX hbl hbA hS (k := (k + 1)) v345_4 (by omega) dL_law_346 ?_
  refine lv_aload_n hx hb dL_law_347 rfl (lv_at hl 1 rfl) ?_
  refine lv_iload_n hx hb dL_law_348 rfl (lv_at hl 0 rfl) ?_
  refine lv_iconst (v := 2) hx hb dL_law_349 (by decide) ?_
  refine lv_iadd hx hb dL_law_350 ?_
  refine lv_topi (fun y350_5 e350_5 => ?_)
  have v350_5 : (y350_5).toInt = (((k + 2) : Nat) : Int) := by rw [e350_5]; exact (ti_add (a := ((k : Nat) : Int)) (b := 2) e3 rfl (by omega) (by omega)).trans (by omega)
  refine my_sld hx hb hX hbl hbA hS (k := (k + 2)) v350_5 (by omega) dL_law_351 ?_
  refine lv_i2l hx hb dL_law_352 rfl ?_
  refine lv_bipush (v := 32) hx hb dL_law_353 (by decide) ?_
  refine lv_lshl hx hb dL_law_355 rfl ?_
  refine lv_aload_n hx hb dL_law_356 rfl (lv_at hl 1 rfl) ?_
  refine lv_iload_n hx hb dL_law_357 rfl (lv_at hl 0 rfl) ?_
  refine lv_iconst (v := 3) hx hb dL_law_358 (by decide) ?_
  refine lv_iadd hx hb dL_law_359 ?_
  refine lv_topi (fun y359_6 e359_6 => ?_)
  have v359_6 : (y359_6).toInt = (((k + 3) : Nat) : Int) := by rw [e359_6]; exact (ti_add (a := ((k : Nat) : Int)) (b := 3) e3 rfl (by omega) (by omega)).trans (by omega)
  refine my_sld hx hb hX hbl hbA hS (k := (k + 3)) v359_6 (by omega) dL_law_360 ?_
  refine lv_i2l hx hb dL_law_361 rfl ?_
  refine lv_ldc2 (v := 4294967295) hx hb hown kl13 dL_law_362 ?_
  refine lv_land hx hb dL_law_365 ?_
  refine lv_lor hx hb dL_law_366 ?_
  refine wrV_i (wr := WC G a κ (fWithdraw σ (xs (k + 1)) ((((xs (k + 2))).toInt64 <<< ((32 : Int32).toInt64 &&& 63)) ||| (((xs (k + 3))).toInt64 &&& 4294967295))).2) (b := bm 0) (As := [.int (xs (k + 1)), .long ((((xs (k + 2))).toInt64 <<< ((32 : Int32).toInt64 &&& 63)) ||| (((xs (k + 3))).toInt64 &&& 4294967295))]) (rest := [.int r1]) ⟨hx, hb, hml, hown, hts⟩ (c_X2_withdraw l G bm μ σ hI hM (xs (k + 1)) ((((xs (k + 2))).toInt64 <<< ((32 : Int32).toInt64 &&& 63)) ||| (((xs (k + 3))).toInt64 &&& 4294967295))) cw29 hK hZ (va_P.comm hP) (va_D.comm hD) hS hA 3 rfl rfl rfl rfl hl.1 rfl (Nat.le_of_ble_eq_true rfl) dL_law_367 ⟨by show cells + 0 + 0 ≤ 908180; omega, by show slots + 0 + 0 ≤ 6377709; omega⟩ (fun r2 u2 H locs w2 hP hD hS => ?_)
  obtain ⟨w2, hM1⟩ := w2
  refine lv_icmp_eq (tgt := 663) hx hb dL_law_370 (by decide) (fun _ => ?_) (fun c9 => absurd (w1.trans w2.symm) c9)
  refine W.widen (k := cells + 2) (n := slots + 409) (by omega) (by omega) ?_
  exact kk κ u2 (fWithdraw σ (xs (k + 1)) ((((xs (k + 2))).toInt64 <<< ((32 : Int32).toInt64 &&& 63)) ||| (((xs (k + 3))).toInt64 &&& 4294967295))).2 _ _ ⟨SI_withdraw hI, (CI_withdraw hC), hM1, va_P.comm hP, va_D.comm hD, hS⟩
