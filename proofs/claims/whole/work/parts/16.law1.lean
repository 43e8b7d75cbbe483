-- ===== laid by wip/whole/gen.py out of the decode rows =====
set_option maxHeartbeats 4000000 in
set_option maxRecDepth 100000 in
theorem lc_1 {p : Program} {l : Launch} {e : Env} {s : State} {m : MethodId} {args : Array Value} {below : List Frame} {meth : Method} {c : Code} {b L : Nat} {xs : Nat → Int32} {Q : State → Prop} {A : Nat → Prop} {G : GG} (hx : p.tables.exec = Jvm.exec) (hb : c.code = cL_law) (hml : c.maxLocals = 4) (hown : s.vm.findClass RL = some m.cls) (hts : ∀ w ∈ wsL_law, w.before args s = true) (hX : va_X b L xs s s.heap) (hbl : b < s.heap.size) (hA : ∀ q, s.heap.size ≤ q → A q) (hbA : ¬ A b) (hK : KK G s) (hZ : SF G A s s.heap) (hL : L ≤ 4608) {a : AD} {κ : KP} {bm : Nat → Nat} {μ : MP} {σ : St} {H : Heap} {locs : List Loc} (hLI : LI G A s H locs a κ bm μ σ) {cells slots : Nat} (hcs : cells + 2 ≤ 908180) (hss : slots + 409 ≤ 6377709) {ls : Array Slot} {x3 : Int32} {k : Nat} (e3 : x3.toInt = ((k : Nat) : Int)) (hk : k + 9 ≤ L) (hl : lv_has ls 4 [(3, .int x3), (0, .ref b), (1, .ref a.1), (2, .ref (bm 0))]) (kk : ∀ (κ1 : KP) (μ1 : MP) (σ1 : St) (H1 : Heap) (locs1 : List Loc), LI G A s H1 locs1 a κ1 bm μ1 σ1 → W p l e room_1 s m args below meth c H1 locs1 (cells + 2) (slots + 409) Q (F0 m 663 ls [])) : W p l e room_1 s m args below meth c H locs cells slots Q (F0 m 223 ls []) := by
  obtain ⟨hI, hC, hM, hP, hD, hS⟩ := hLI
  have kl13 := hts (.constantLong RL 13 (4294967295)) (by decide +kernel)
  have cw20 := cwV (R := room_1) (s := s) (args := args) (rm := (rmX 5 170 0 0)) (mc := 0) (ms := 0) 3 hts gL_law_X1_proof rfl rfl rfl (by decide +kernel) ⟨Nat.le_of_ble_eq_true rfl, Nat.le_of_ble_eq_true rfl⟩
  have cw24 := cwV (R := room_1) (s := s) (args := args) (rm := (rmX 2 90 0 0)) (mc := 0) (ms := 0) 3 hts gL_law_X2_proof rfl rfl rfl (by decide +kernel) ⟨Nat.le_of_ble_eq_true rfl, Nat.le_of_ble_eq_true rfl⟩
  refine lv_aload_n hx hb dL_law_223 rfl (lv_at hl 2 rfl) ?_
  refine lv_aload_n hx hb dL_law_224 rfl (lv_at hl 1 rfl) ?_
  refine lv_iload_n hx hb dL_law_225 rfl (lv_at hl 0 rfl) ?_
  refine lv_iconst (v := 1) hx hb dL_law_226 (by decide) ?_
  refine lv_iadd hx hb dL_law_227 ?_
  refine lv_topi (fun y227_1 e227_1 => ?_)
  have v227_1 : (y227_1).toInt = (((k + 1) : Nat) : Int) := by rw [e227_1]; exact (ti_add (a := ((k : Nat) : Int)) (b := 1) e3 rfl (by omega) (by omega)).trans (by omega)
  refine my_sld hx hb hX hbl hbA hS (k := (k + 1)) v227_1 (by omega) dL_law_228 ?_
  refine lv_aload_n hx hb dL_law_229 rfl (lv_at hl 1 rfl) ?_
  refine lv_iload_n hx hb dL_law_230 rfl (lv_at hl 0 rfl) ?_
  refine lv_iconst (v := 2) hx hb dL_law_231 (by decide) ?_
  refine lv_iadd hx hb dL_law_232 ?_
  refine lv_topi (fun y232_2 e232_2 => ?_)
  have v232_2 : (y232_2).toInt = (((k + 2) : Nat) : Int) := by rw [e232_2]; exact (ti_add (a := ((k : Nat) : Int)) (b := 2) e3 rfl (by omega) (by omega)).trans (by omega)
  refine my_sld hx hb hX hbl hbA hS (k := (k + 2)) v232_2 (by omega) dL_law_233 ?_
  refine lv_if_eq (tgt := 241) hx hb dL_law_234 (by decide) (fun c234_3 => ?_) (fun c234_3 => ?_)
  · have c234_3 : ((xs (k + 2))).toInt = 0 := (ti_eq (x := (xs (k + 2))) (y := 0) (a := ((xs (k + 2))).toInt) (b := 0) rfl rfl).mp c234_3
    refine lv_iconst (v := 0) hx hb dL_law_241 (by decide) ?_
    refine lv_aload_n hx hb dL_law_242 rfl (lv_at hl 1 rfl) ?_
    refine lv_iload_n hx hb dL_law_243 rfl (lv_at hl 0 rfl) ?_
    refine lv_iconst (v := 3) hx hb dL_law_244 (by decide) ?_
    refine lv_iadd hx hb dL_law_245 ?_
    refine lv_topi (fun y245_4 e245_4 => ?_)
    have v245_4 : (y245_4).toInt = (((k + 3) : Nat) : Int) := by rw [e245_4]; exact (ti_add (a := ((k : Nat) : Int)) (b := 3) e3 rfl (by omega) (by omega)).trans (by omega)
    refine my_sld hx hb hX hbl hbA hS (k := (k + 3)) v245_4 (by omega) dL_law_246 ?_
    refine lv_i2l hx hb dL_law_247 rfl ?_
    refine lv_bipush (v := 32) hx hb dL_law_248 (by decide) ?_
    refine lv_lshl hx hb dL_law_250 rfl ?_
    refine lv_aload_n hx hb dL_law_251 rfl (lv_at hl 1 rfl) ?_
    refine lv_iload_n hx hb dL_law_252 rfl (lv_at hl 0 rfl) ?_
    refine lv_iconst (v := 4) hx hb dL_law_253 (by decide) ?_
    refine lv_iadd hx hb dL_law_254 ?_
    refine lv_topi (fun y254_5 e254_5 => ?_)
    have v254_5 : (y254_5).toInt = (((k + 4) : Nat) : Int) := by rw [e254_5]; exact (ti_add (a := ((k : Nat) : Int)) (b := 4) e3 rfl (by omega) (by omega)).trans (by omega)
    refine my_sld hx hb hX hbl hbA hS (k := (k + 4)) v254_5 (by omega) dL_law_255 ?_
    refine lv_i2l hx hb dL_law_256 rfl ?_
    refine lv_ldc2 (v := 4294967295) hx hb hown kl13 dL_law_257 ?_
    refine lv_land hx hb dL_law_260 ?_
    refine lv_lor hx hb dL_law_261 ?_
    refine wrV_i (wr := WM G bm μ σ) (b := a.1) (As := [.int (xs (k + 1)), .int 0, .long ((((xs (k + 3))).toInt64 <<< ((32 : Int32).toInt64 &&& 63)) ||| (((xs (k + 4))).toInt64 &&& 4294967295))]) (rest := []) ⟨hx, hb, hml, hown, hts⟩ (c_X1_proof l G a κ σ hI hC (xs (k + 1)) 0 ((((xs (k + 3))).toInt64 <<< ((32 : Int32).toInt64 &&& 63)) ||| (((xs (k + 4))).toInt64 &&& 4294967295))) cw20 hK hZ hP hD hS hA 2 rfl rfl rfl rfl hl.1 rfl (Nat.le_of_ble_eq_true rfl) dL_law_262 ⟨by show cells + 0 ≤ 908180; omega, by show slots + 0 ≤ 6377709; omega⟩ (fun r1 u1 H locs w1 hP hD hS => ?_)
    refine lv_aload_n hx hb dL_law_265 rfl (lv_at hl 3 rfl) ?_
    refine lv_aload_n hx hb dL_law_266 rfl (lv_at hl 1 rfl) ?_
    refine lv_iload_n hx hb dL_law_267 rfl (lv_at hl 0 rfl) ?_
    refine lv_iconst (v := 1) hx hb dL_law_268 (by decide) ?_
    refine lv_iadd hx hb dL_law_269 ?_
    refine lv_topi (fun y269_6 e269_6 => ?_)
    have v269_6 : (y269_6).toInt = (((k + 1) : Nat) : Int) := by rw [e269_6]; exact (ti_add (a := ((k : Nat) : Int)) (b := 1) e3 rfl (by omega) (by omega)).trans (by omega)
    refine my_sld hx hb hX hbl hbA hS (k := (k + 1)) v269_6 (by omega) dL_law_270 ?_
    refine lv_aload_n hx hb dL_law_271 rfl (lv_at hl 1 rfl) ?_
    refine lv_iload_n hx hb dL_law_272 rfl (lv_at hl 0 rfl) ?_
    refine lv_iconst (v := 2) hx hb dL_law_273 (by decide) ?_
    refine lv_iadd hx hb dL_law_274 ?_
    refine lv_topi (fun y274_7 e274_7 => ?_)
    have v274_7 : (y274_7).toInt = (((k + 2) : Nat) : Int) := by rw [e274_7]; exact (ti_add (a := ((k : Nat) : Int)) (b := 2) e3 rfl (by omega) (by omega)).trans (by omega)
    refine my_sld hx hb hX hbl hbA hS (k := (k + 2)) v274_7 (by omega) dL_law_275 ?_
    refine lv_if_eq (tgt := 283) hx hb dL_law_276 (by decide) (fun c276_8 => ?_) (fun c276_8 => ?_)
    · have c276_8 : ((xs (k + 2))).toInt = 0 := (ti_eq (x := (xs (k + 2))) (y := 0) (a := ((xs (k + 2))).toInt) (b := 0) rfl rfl).mp c276_8
      refine lv_iconst (v := 0) hx hb dL_law_283 (by decide) ?_
      refine lv_aload_n hx hb dL_law_284 rfl (lv_at hl 1 rfl) ?_
      refine lv_iload_n hx hb dL_law_285 rfl (lv_at hl 0 rfl) ?_
      refine lv_iconst (v := 3) hx hb dL_law_286 (by decide) ?_
      refine lv_iadd hx hb dL_law_287 ?_
      refine lv_topi (fun y287_9 e287_9 => ?_)
      have v287_9 : (y287_9).toInt = (((k + 3) : Nat) : Int) := by rw [e287_9]; exact (ti_add (a := ((k : Nat) : Int)) (b := 3) e3 rfl (by omega) (by omega)).trans (by omega)
      refine my_sld hx hb hX hbl hbA hS (k := (k + 3)) v287_9 (by omega) dL_law_288 ?_
      refine lv_i2l hx hb dL_law_289 rfl ?_
      refine lv_bipush (v := 32) hx hb dL_law_290 (by decide) ?_
      refine lv_lshl hx hb dL_law_292 rfl ?_
      refine lv_aload_n hx hb dL_law_293 rfl (lv_at hl 1 rfl) ?_
      refine lv_iload_n hx hb dL_law_294 rfl (lv_at hl 0 rfl) ?_
      refine lv_iconst (v := 4) hx hb dL_law_295 (by decide) ?_
      refine lv_iadd hx hb dL_law_296 ?_
      refine lv_topi (fun y296_10 e296_10 => ?_)
      have v296_10 : (y296_10).toInt = (((k + 4) : Nat) : Int) := by rw [e296_10]; exact (ti_add (a := ((k : Nat) : Int)) (b := 4) e3 rfl (by omega) (by omega)).trans (by omega)
      refine my_sld hx hb hX hbl hbA hS (k := (k + 4)) v296_10 (by omega) dL_law_297 ?_
      refine lv_i2l hx hb dL_law_298 rfl ?_
      refine lv_ldc2 (v := 4294967295) hx hb hown kl13 dL_law_299 ?_
      refine lv_land hx hb dL_law_302 ?_
      refine lv_lor hx hb dL_law_303 ?_
      refine wrV_i (wr := WC G a κ (fProof σ (xs (k + 1)) 0 ((((xs (k + 3))).toInt64 <<< ((32 : Int32).toInt64 &&& 63)) ||| (((xs (k + 4))).toInt64 &&& 4294967295))).2) (b := bm 0) (As := [.int (xs (k + 1)), .int 0, .long ((((xs (k + 3))).toInt64 <<< ((32 : Int32).toInt64 &&& 63)) ||| (((xs (k + 4))).toInt64 &&& 4294967295))]) (rest := [.int r1]) ⟨hx, hb, hml, hown, hts⟩ (c_X2_proof l G bm μ σ hI hM (xs (k + 1)) 0 ((((xs (k + 3))).toInt64 <<< ((32 : Int32).toInt64 &&& 63)) ||| (((xs (k + 4))).toInt64 &&& 4294967295)) (Or.inl rfl)) cw24 hK hZ (va_P.comm hP) (va_D.comm hD) hS hA 3 rfl rfl rfl rfl hl.1 rfl (Nat.le_of_ble_eq_true rfl) dL_law_304 ⟨by show cells + 0 + 0 ≤ 908180; omega, by show slots + 0 + 0 ≤ 6377709; omega⟩ (fun r2 u2 H locs w2 hP hD hS => ?_)
      obtain ⟨w2, hM1⟩ := w2
      refine lv_icmp_eq (tgt := 663) hx hb dL_law_307 (by decide) (fun _ => ?_) (fun c9 => absurd (w1.trans w2.symm) c9)
      refine W.widen (k := cells + 2) (n := slots + 409) (by omega) (by omega) ?_
      exact kk κ u2 (fProof σ (xs (k + 1)) 0 ((((xs (k + 3))).toInt64 <<< ((32 : Int32).toInt64 &&& 63)) ||| (((xs (k + 4))).toInt64 &&& 4294967295))).2 _ _ ⟨SI_proof hI, (CI_proof hC), hM1, va_P.comm hP, va_D.comm hD, hS⟩
    · have c276_8 : ¬ (((xs (k + 2))).toInt = 0) := mt (ti_eq (x := (xs (k + 2))) (y := 0) (a := ((xs (k + 2))).toInt) (b := 0) rfl rfl).mpr c276_8
      exfalso; omega
  · have c234_3 : ¬ (((xs (k + 2))).toInt = 0) := mt (ti_eq (x := (xs (k + 2))) (y := 0) (a := ((xs (k + 2))).toInt) (b := 0) rfl rfl).mpr c234_3
    refine lv_iconst (v := 1) hx hb dL_law_237 (by decide) ?_
    refine lv_goto (tgt := 242) hx hb dL_law_238 (by decide) ?_
    refine lv_aload_n hx hb dL_law_242 rfl (lv_at hl 1 rfl) ?_
    refine lv_iload_n hx hb dL_law_243 rfl (lv_at hl 0 rfl) ?_
    refine lv_iconst (v := 3) hx hb dL_law_244 (by decide) ?_
    refine lv_iadd hx hb dL_law_245 ?_
    refine lv_topi (fun y245_11 e245_11 => ?_)
    have v245_11 : (y245_11).toInt = (((k + 3) : Nat) : Int) := by rw [e245_11]; exact (ti_add (a := ((k : Nat) : Int)) (b := 3) e3 rfl (by omega) (by omega)).trans (by omega)
    refine my_sld hx hb hX hbl hbA hS (k := (k + 3)) v245_11 (by omega) dL_law_246 ?_
    refine lv_i2l hx hb dL_law_247 rfl ?_
    refine lv_bipush (v := 32) hx hb dL_law_248 (by decide) ?_
    refine lv_lshl hx hb dL_law_250 rfl ?_
    refine lv_aload_n hx hb dL_law_251 rfl (lv_at hl 1 rfl) ?_
    refine lv_iload_n hx hb dL_law_252 rfl (lv_at hl 0 rfl) ?_
    refine lv_iconst (v := 4) hx hb dL_law_253 (by decide) ?_
    refine lv_iadd hx hb dL_law_254 ?_
    refine lv_topi (fun y254_12 e254_12 => ?_)
    have v254_12 : (y254_12).toInt = (((k + 4) : Nat) : Int) := by rw [e254_12]; exact (ti_add (a := ((k : Nat) : Int)) (b := 4) e3 rfl (by omega) (by omega)).trans (by omega)
    refine my_sld hx hb hX hbl hbA hS (k := (k + 4)) v254_12 (by omega) dL_law_255 ?_
    refine lv_i2l hx hb dL_law_256 rfl ?_
    refine lv_ldc2 (v := 4294967295) hx hb hown kl13 dL_law_257 ?_
    refine lv_land hx hb dL_law_260 ?_
    refine lv_lor hx hb dL_law_261 ?_
    refine wrV_i (wr := WM G bm μ σ) (b := a.1) (As := [.int (xs (k + 1)), .int 1, .long ((((xs (k + 3))).toInt64 <<< ((32 : Int32).toInt64 &&& 63)) ||| (((xs (k + 4))).toInt64 &&& 4294967295))]) (rest := []) ⟨hx, hb, hml, hown, hts⟩ (c_X1_proof l G a κ σ hI hC (xs (k + 1)) 1 ((((xs (k + 3))).toInt64 <<< ((32 : Int32).toInt64 &&& 63)) ||| (((xs (k + 4))).toInt64 &&& 4294967295))) cw20 hK hZ hP hD hS hA 2 rfl rfl rfl rfl hl.1 rfl (Nat.le_of_ble_eq_true rfl) dL_law_262 ⟨by show cells + 0 ≤ 908180; omega, by show slots + 0 ≤ 6377709; omega⟩ (fun r1 u1 H locs w1 hP hD hS => ?_)
    refine lv_aload_n hx hb dL_law_265 rfl (lv_at hl 3 rfl) ?_
    refine lv_aload_n hx hb dL_law_266 rfl (lv_at hl 1 rfl) ?_
    refine lv_iload_n hx hb dL_law_267 rfl (lv_at hl 0 rfl) ?_
    refine lv_iconst (v := 1) hx hb dL_law_268 (by decide) ?_
    refine lv_iadd hx hb dL_law_269 ?_
    refine lv_topi (fun y269_13 e269_13 => ?_)
    have v269_13 : (y269_13).toInt = (((k + 1) : Nat) : Int) := by rw [e269_13]; exact (ti_add (a := ((k : Nat) : Int)) (b := 1) e3 rfl (by omega) (by omega)).trans (by omega)
    refine my_sld hx hb hX hbl hbA hS (k := (k + 1)) v269_13 (by omega) dL_law_270 ?_
    refine lv_aload_n hx hb dL_law_271 rfl (lv_at hl 1 rfl) ?_
    refine lv_iload_n hx hb dL_law_272 rfl (lv_at hl 0 rfl) ?_
    refine lv_iconst (v := 2) hx hb dL_law_273 (by decide) ?_
    refine lv_iadd hx hb dL_law_274 ?_
    refine lv_topi (fun y274_14 e274_14 => ?_)
    have v274_14 : (y274_14).toInt = (((k + 2) : Nat) : Int) := by rw [e274_14]; exact (ti_add (a := ((k : Nat) : Int)) (b := 2) e3 rfl (by omega) (by omega)).trans (by omega)
    refine my_sld hx hb hX hbl hbA hS (k := (k + 2)) v274_14 (by omega) dL_law_275 ?_
    refine lv_if_eq (tgt := 283) hx hb dL_law_276 (by decide) (fun c276_15 => ?_) (fun c276_15 => ?_)
    · have c276_15 : ((xs (k + 2))).toInt = 0 := (ti_eq (x := (xs (k + 2))) (y := 0) (a := ((xs (k + 2))).toInt) (b := 0) rfl rfl).mp c276_15
      exfalso; omega
    · have c276_15 : ¬ (((xs (k + 2))).toInt = 0) := mt (ti_eq (x := (xs (k + 2))) (y := 0) (a := ((xs (k + 2))).toInt) (b := 0) rfl rfl).mpr c276_15
      refine lv_iconst (v := 1) hx hb dL_law_279 (by decide) ?_
      refine lv_goto (tgt := 284) hx hb dL_law_280 (by decide) ?_
      refine lv_aload_n hx hb dL_law_284 rfl (lv_at hl 1 rfl) ?_
      refine lv_iload_n hx hb dL_law_285 rfl (lv_at hl 0 rfl) ?_
      refine lv_iconst (v := 3) hx hb dL_law_286 (by decide) ?_
      refine lv_iadd hx hb dL_law_287 ?_
      refine lv_topi (fun y287_16 e287_16 => ?_)
      have v287_16 : (y287_16).toInt = (((k + 3) : Nat) : Int) := by rw [e287_16]; exact (ti_add (a := ((k : Nat) : Int)) (b := 3) e3 rfl (by omega) (by omega)).trans (by omega)
      refine my_sld hx hb hX hbl hbA hS (k := (k + 3)) v287_16 (by omega) dL_law_288 ?_
      refine lv_i2l hx hb dL_law_289 rfl ?_
      refine lv_bipush (v := 32) hx hb dL_law_290 (by decide) ?_
      refine lv_lshl hx hb dL_law_292 rfl ?_
      refine lv_aload_n hx hb dL_law_293 rfl (lv_at hl 1 rfl) ?_
      refine lv_iload_n hx hb dL_law_294 rfl (lv_at hl 0 rfl) ?_
      refine lv_iconst (v := 4) hx hb dL_law_295 (by decide) ?_
      refine lv_iadd hx hb dL_law_296 ?_
      refine lv_topi (fun y296_17 e296_17 => ?_)
      have v296_17 : (y296_17).toInt = (((k + 4) : Nat) : Int) := by rw [e296_17]; exact (ti_add (a := ((k : Nat) : Int)) (b := 4) e3 rfl (by omega) (by omega)).trans (by omega)
      refine my_sld hx hb hX hbl hbA hS (k := (k + 4)) v296_17 (by omega) dL_law_297 ?_
      refine lv_i2l hx hb dL_law_298 rfl ?_
      refine lv_ldc2 (v := 4294967295) hx hb hown kl13 dL_law_299 ?_
      refine lv_land hx hb dL_law_302 ?_
      refine lv_lor hx hb dL_law_303 ?_
      refine wrV_i (wr := WC G a κ (fProof σ (xs (k + 1)) 1 ((((xs (k + 3))).toInt64 <<< ((32 : Int32).toInt64 &&& 63)) ||| (((xs (k + 4))).toInt64 &&& 4294967295))).2) (b := bm 0) (As := [.int (xs (k + 1)), .int 1, .long ((((xs (k + 3))).toInt64 <<< ((32 : Int32).toInt64 &&& 63)) ||| (((xs (k + 4))).toInt64 &&& 4294967295))]) (rest := [.int r1]) ⟨hx, hb, hml, hown, hts⟩ (c_X2_proof l G bm μ σ hI hM (xs (k + 1)) 1 ((((xs (k + 3))).toInt64 <<< ((32 : Int32).toInt64 &&& 63)) ||| (((xs (k + 4))).toInt64 &&& 4294967295)) (Or.inr rfl)) cw24 hK hZ (va_P.comm hP) (va_D.comm hD) hS hA 3 rfl rfl rfl rfl hl.1 rfl (Nat.le_of_ble_eq_true rfl) dL_law_304 ⟨by show cells + 0 + 0 ≤ 908180; omega, by show slots + 0 + 0 ≤ 6377709; omega⟩ (fun r2 u2 H locs w2 hP hD hS => ?_)
      obtain ⟨w2, hM1⟩ := w2
      refine lv_icmp_eq (tgt := 663) hx hb dL_law_307 (by decide) (fun _ => ?_) (fun c9 => absurd (w1.trans w2.symm) c9)
      refine W.widen (k := cells + 2) (n := slots + 409) (by omega) (by omega) ?_
      exact kk κ u2 (fProof σ (xs (k + 1)) 1 ((((xs (k + 3))).toInt64 <<< ((32 : Int32).toInt64 &&& 63)) ||| (((xs (k + 4))).toInt64 &&& 4294967295))).2 _ _ ⟨SI_proof hI, (CI_proof hC), hM1, va_P.comm hP, va_D.comm hD, hS⟩
