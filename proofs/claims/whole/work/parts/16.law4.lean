-- ===== laid by wip/whole/gen.py out of the decode rows =====
set_option maxHeartbeats 4000000 in
set_option maxRecDepth 100000 in
theorem lc_4 {p : Program} {l : Launch} {e : Env} {s : State} {m : MethodId} {args : Array Value} {below : List Frame} {meth : Method} {c : Code} {b L : Nat} {xs : Nat → Int32} {Q : State → Prop} {A : Nat → Prop} {G : GG} (hx : p.tables.exec = Jvm.exec) (hb : c.code = cL_law) (hml : c.maxLocals = 4) (hown : s.vm.findClass RL = some m.cls) (hts : ∀ w ∈ wsL_law, w.before args s = true) (hX : va_X b L xs s s.heap) (hbl : b < s.heap.size) (hA : ∀ q, s.heap.size ≤ q → A q) (hbA : ¬ A b) (hK : KK G s) (hZ : SF G A s s.heap) (hL : L ≤ 4608) {a : AD} {κ : KP} {bm : Nat → Nat} {μ : MP} {σ : St} {H : Heap} {locs : List Loc} (hLI : LI G A s H locs a κ bm μ σ) {cells slots : Nat} (hcs : cells + 2 ≤ 908180) (hss : slots + 409 ≤ 6377709) {ls : Array Slot} {x3 : Int32} {k : Nat} (e3 : x3.toInt = ((k : Nat) : Int)) (hk : k + 9 ≤ L) (hl : lv_has ls 4 [(3, .int x3), (0, .ref b), (1, .ref a.1), (2, .ref (bm 0))]) (kk : ∀ (κ1 : KP) (μ1 : MP) (σ1 : St) (H1 : Heap) (locs1 : List Loc), LI G A s H1 locs1 a κ1 bm μ1 σ1 → W p l e room_1 s m args below meth c H1 locs1 (cells + 2) (slots + 409) Q (F0 m 663 ls [])) : W p l e room_1 s m args below meth c H locs cells slots Q (F0 m 458 ls []) := by
  obtain ⟨hI, hC, hM, hP, hD, hS⟩ := hLI
  have cw35 := cwV (R := room_1) (s := s) (args := args) (rm := (rmX 0 0 0 0)) (mc := 0) (ms := 0) 1 hts gL_law_X1_ring rfl rfl rfl (by decide +kernel) ⟨Nat.le_of_ble_eq_true rfl, Nat.le_of_ble_eq_true rfl⟩
  have cw39 := cwV (R := room_1) (s := s) (args := args) (rm := (rmX 0 0 0 0)) (mc := 0) (ms := 0) 1 hts gL_law_X2_ring rfl rfl rfl (by decide +kernel) ⟨Nat.le_of_ble_eq_true rfl, Nat.le_of_ble_eq_true rfl⟩
  refine lv_aload_n hx hb dL_law_458 rfl (lv_at hl 2 rfl) ?_
  refine lv_aload_n hx hb dL_law_459 rfl (lv_at hl 1 rfl) ?_
  refine lv_iload_n hx hb dL_law_460 rfl (lv_at hl 0 rfl) ?_
  refine lv_iconst (v := 1) hx hb dL_law_461 (by decide) ?_
  refine lv_iadd hx hb dL_law_462 ?_
  refine lv_topi (fun y462_1 e462_1 => ?_)
  have v462_1 : (y462_1).toInt = (((k + 1) : Nat) : Int) := by rw [e462_1]; exact (ti_add (a := ((k : Nat) : Int)) (b := 1) e3 rfl (by omega) (by omega)).trans (by omega)
  refine my_sld hx hb hX hbl hbA hS (k := (k + 1)) v462_1 (by omega) dL_law_463 ?_
  refine rdV_i (b := a.1) (As := [.int (xs (k + 1))]) (rest := []) ⟨hx, hb, hml, hown, hts⟩ (c_X1_ring l G a κ σ hI hC (xs (k + 1))) cw35 hK hP.right 2 rfl rfl rfl rfl hl.1 rfl (Nat.le_of_ble_eq_true rfl) dL_law_464 ⟨by show cells ≤ 908180; omega, by show slots ≤ 6377709; omega⟩ (fun r1 w1 => ?_)
  refine lv_aload_n hx hb dL_law_467 rfl (lv_at hl 3 rfl) ?_
  refine lv_aload_n hx hb dL_law_468 rfl (lv_at hl 1 rfl) ?_
  refine lv_iload_n hx hb dL_law_469 rfl (lv_at hl 0 rfl) ?_
  refine lv_iconst (v := 1) hx hb dL_law_470 (by decide) ?_
  refine lv_iadd hx hb dL_law_471 ?_
  refine lv_topi (fun y471_2 e471_2 => ?_)
  have v471_2 : (y471_2).toInt = (((k + 1) : Nat) : Int) := by rw [e471_2]; exact (ti_add (a := ((k : Nat) : Int)) (b := 1) e3 rfl (by omega) (by omega)).trans (by omega)
  refine my_sld hx hb hX hbl hbA hS (k := (k + 1)) v471_2 (by omega) dL_law_472 ?_
  refine wrV_i (wr := WC G a κ σ) (b := bm 0) (As := [.int (xs (k + 1))]) (rest := [.int r1]) ⟨hx, hb, hml, hown, hts⟩ (c_X2_ring l G bm μ σ hI hM (xs (k + 1))) cw39 hK hZ (va_P.comm hP) (va_D.comm hD) hS hA 3 rfl rfl rfl rfl hl.1 rfl (Nat.le_of_ble_eq_true rfl) dL_law_473 ⟨by show cells + 0 ≤ 908180; omega, by show slots + 0 ≤ 6377709; omega⟩ (fun r2 u2 H locs w2 hP hD hS => ?_)
  refine lv_icmp_eq (tgt := 663) hx hb dL_law_476 (by decide) (fun _ => ?_) (fun c9 => absurd (w1.trans w2.symm) c9)
  refine W.widen (k := cells + 2) (n := slots + 409) (by omega) (by omega) ?_
  exact kk κ μ σ _ _ ⟨hI, hC, hM, va_P.comm hP, va_D.comm hD, hS⟩
