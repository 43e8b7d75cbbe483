-- ===== laid by wip/whole/spec17.py =====
set_option maxHeartbeats 4000000 in
set_option maxRecDepth 100000 in
theorem law_step {p : Program} {l : Launch} {e : Env} {s : State} {m : MethodId} {below : List Frame} {meth : Method} {c : Code} {b L : Nat} {xs : Nat → Int32} (hL : L ≤ 4608) (C0 : lw_At p s m meth c b L xs) {G : GG} {a : AD} {bm : Nat → Nat} (hK : KK G s) (hZ : SF G (fun q : Nat => s.heap.size ≤ q) s s.heap) {j : Nat}
    (ih : 9 * j + 9 ≤ L → ∀ (x3 : Int32) (κ : KP) (μ : MP) (σ : St) (H : Heap) (locs : List Loc) (ls : Array Slot), x3.toInt = ((9 * (j + 1) : Nat) : Int) → LI G (fun q : Nat => s.heap.size ≤ q) s H locs a κ bm μ σ → lv_has ls 4 [(3, .int x3), (0, .ref b), (1, .ref a.1), (2, .ref (bm 0))] → W p l e room_1 s m #[Value.ref b] below meth c H locs (18 + 2 * (j + 1)) (2254 + 409 * (j + 1)) (lw_Z below #[Value.ref b] s) (F0 m 18 ls []))
    (hj : 9 * j ≤ L) {x3 : Int32} {κ : KP} {μ : MP} {σ : St} {H : Heap} {locs : List Loc} {ls : Array Slot} (e3 : x3.toInt = ((9 * j : Nat) : Int)) (hLI : LI G (fun q : Nat => s.heap.size ≤ q) s H locs a κ bm μ σ) (hl : lv_has ls 4 [(3, .int x3), (0, .ref b), (1, .ref a.1), (2, .ref (bm 0))]) : W p l e room_1 s m #[Value.ref b] below meth c H locs (18 + 2 * j) (2254 + 409 * j) (lw_Z below #[Value.ref b] s) (F0 m 18 ls []) := by
  obtain ⟨hx, hb, hr, hml, hown0, hts0, hX, hbl, hlocks, hgv⟩ := id C0
  have hown : s.vm.findClass RL = some m.cls := hown0
  have hts : ∀ w ∈ wsL_law, w.before #[Value.ref b] s = true := fun w h => hts0 w (wsL_law_in w h)
  have hA : ∀ q : Nat, s.heap.size ≤ q → (fun q : Nat => s.heap.size ≤ q) q := fun _ h => h
  have hbA : ¬ (fun q : Nat => s.heap.size ≤ q) b := Nat.not_le.mpr hbl
  obtain ⟨hI, hC, hM, hP, hD, hS⟩ := id hLI
  refine lv_iload_n hx hb dL_law_18 rfl (lv_at hl 0 rfl) ?_
  refine lv_aload_n hx hb dL_law_19 rfl (lv_at hl 1 rfl) ?_
  refine va_slen hx hb hX hbl hbA hS dL_law_20 ?_
  refine lv_bipush (v := 9) hx hb dL_law_21 (by decide) ?_
  refine lv_isub hx hb dL_law_23 ?_
  refine lv_topi (fun y ey => ?_)
  have vy : y.toInt = (L : Int) - 9 := by
    rw [ey]
    exact ti_sub (a := (L : Int)) (b := 9) (ti_nI (by omega)) rfl (by omega) (by omega)
  refine lv_icmp_gt (tgt := 669) hx hb dL_law_24 (by decide) (fun c1 => ?_) (fun c1 => ?_)
  · refine lv_iconst (v := 1) hx hb dL_law_669 (by decide) ?_
    refine va_forget (fun q hq => hS.2.2 q hq) ?_
    refine W.widen (k := 908180) (n := 6377709) (by omega) (by omega) ?_
    exact lw_ret hx hb hr hlocks dL_law_670
  · have hk : 9 * j + 9 ≤ L := by
      have := mt (ti_lt (a := (L : Int) - 9) (b := ((9 * j : Nat) : Int)) vy e3).mpr c1
      omega
    refine lv_aload_n hx hb dL_law_27 rfl (lv_at hl 1 rfl) ?_
    refine lv_iload_n hx hb dL_law_28 rfl (lv_at hl 0 rfl) ?_
    refine my_sld hx hb hX hbl hbA hS (k := 9 * j) e3 (by omega) dL_law_29 ?_
    refine lv_bipush (v := 15) hx hb dL_law_30 (by decide) ?_
    refine lv_iand hx hb dL_law_32 ?_
    obtain ⟨i, hi, ei⟩ := pk_andE (xs (9 * j)) (m := 15) 4 rfl
    rw [ei]
    have hcs : 18 + 2 * j + 2 ≤ 908180 := by omega
    have hss : 2254 + 409 * j + 409 ≤ 6377709 := by omega
    have kk : ∀ (κ1 : KP) (μ1 : MP) (σ1 : St) (H1 : Heap) (locs1 : List Loc), LI G (fun q : Nat => s.heap.size ≤ q) s H1 locs1 a κ1 bm μ1 σ1 → W p l e room_1 s m #[Value.ref b] below meth c H1 locs1 (18 + 2 * j + 2) (2254 + 409 * j + 409) (lw_Z below #[Value.ref b] s) (F0 m 663 ls []) := by
      intro κ1 μ1 σ1 H1 locs1 h1
      obtain ⟨y9, e9⟩ : ∃ y : Int32, y = x3 + 9 := ⟨_, rfl⟩
      refine lv_iinc (v := y9) (lv' := [(3, .int y9), (0, .ref b), (1, .ref a.1), (2, .ref (bm 0))]) hx hb dL_law_663 hl (k := 0) rfl (by rw [e9]; rfl) (by decide) rfl (fun ls hl => ?_)
      refine lv_goto (tgt := 18) hx hb dL_law_666 (by decide) ?_
      refine W.widen (k := 18 + 2 * (j + 1)) (n := 2254 + 409 * (j + 1)) (by omega) (by omega) ?_
      exact ih hk y9 κ1 μ1 σ1 H1 locs1 ls (by rw [e9]; exact (ti_add (a := ((9 * j : Nat) : Int)) (b := 9) e3 rfl (by omega) (by omega)).trans (by omega)) h1 hl
    rcases (show i = 0 ∨ i = 1 ∨ i = 2 ∨ i = 3 ∨ i = 4 ∨ i = 5 ∨ i = 6 ∨ i = 7 ∨ i = 8 ∨ 8 < i by omega) with rfl | rfl | rfl | rfl | rfl | rfl | rfl | rfl | rfl | h9
    · refine lv_tableIn (tgt := 84) hx hb dL_law_33 (by decide) (by decide) rfl (by decide) ?_
      exact lc_0 hx hb hml hown hts hX hbl hA hbA hK hZ hL hLI hcs hss e3 hk hl kk
    · refine lv_tableIn (tgt := 223) hx hb dL_law_33 (by decide) (by decide) rfl (by decide) ?_
      exact lc_1 hx hb hml hown hts hX hbl hA hbA hK hZ hL hLI hcs hss e3 hk hl kk
    · refine lv_tableIn (tgt := 312) hx hb dL_law_33 (by decide) (by decide) rfl (by decide) ?_
      exact lc_2 hx hb hml hown hts hX hbl hA hbA hK hZ hL hLI hcs hss e3 hk hl kk
    · refine lv_tableIn (tgt := 375) hx hb dL_law_33 (by decide) (by decide) rfl (by decide) ?_
      exact lc_3 hx hb hml hown hts hX hbl hA hbA hK hZ hL hLI hcs hss e3 hk hl kk
    · refine lv_tableIn (tgt := 458) hx hb dL_law_33 (by decide) (by decide) rfl (by decide) ?_
      exact lc_4 hx hb hml hown hts hX hbl hA hbA hK hZ hL hLI hcs hss e3 hk hl kk
    · refine lv_tableIn (tgt := 481) hx hb dL_law_33 (by decide) (by decide) rfl (by decide) ?_
      exact lc_5 hx hb hml hown hts hX hbl hA hbA hK hZ hL hLI hcs hss e3 hk hl kk
    · refine lv_tableIn (tgt := 514) hx hb dL_law_33 (by decide) (by decide) rfl (by decide) ?_
      exact lc_6 hx hb hml hown hts hX hbl hA hbA hK hZ hL hLI hcs hss e3 hk hl kk
    · refine lv_tableIn (tgt := 567) hx hb dL_law_33 (by decide) (by decide) rfl (by decide) ?_
      exact lc_7 hx hb hml hown hts hX hbl hA hbA hK hZ hL hLI hcs hss e3 hk hl kk
    · refine lv_tableIn (tgt := 630) hx hb dL_law_33 (by decide) (by decide) rfl (by decide) ?_
      exact lc_8 hx hb hml hown hts hX hbl hA hbA hK hZ hL hLI hcs hss e3 hk hl kk
    · refine lv_tableOut (tgt := 663) hx hb dL_law_33 (Or.inr (by rw [ti_nI (by omega)]; omega)) (by decide) ?_
      exact W.widen (by omega) (by omega) (kk κ μ σ H locs hLI)
theorem law_loop {p : Program} {l : Launch} {e : Env} {s : State} {m : MethodId} {below : List Frame} {meth : Method} {c : Code} {b L : Nat} {xs : Nat → Int32} (hL : L ≤ 4608) (C0 : lw_At p s m meth c b L xs) {G : GG} {a : AD} {bm : Nat → Nat} (hK : KK G s) (hZ : SF G (fun q : Nat => s.heap.size ≤ q) s s.heap) : ∀ (N j : Nat), L ≤ 9 * j + N → 9 * j ≤ L → ∀ (x3 : Int32) (κ : KP) (μ : MP) (σ : St) (H : Heap) (locs : List Loc) (ls : Array Slot), x3.toInt = ((9 * j : Nat) : Int) → LI G (fun q : Nat => s.heap.size ≤ q) s H locs a κ bm μ σ → lv_has ls 4 [(3, .int x3), (0, .ref b), (1, .ref a.1), (2, .ref (bm 0))] → W p l e room_1 s m #[Value.ref b] below meth c H locs (18 + 2 * j) (2254 + 409 * j) (lw_Z below #[Value.ref b] s) (F0 m 18 ls []) := by
  intro N
  induction N with
  | zero => exact fun j h1 h2 x3 κ μ σ H locs ls e3 hLI hl => law_step hL C0 hK hZ (fun h => absurd h (by omega)) h2 e3 hLI hl
  | succ N ihN => exact fun j h1 h2 x3 κ μ σ H locs ls e3 hLI hl => law_step hL C0 hK hZ (fun h => ihN (j + 1) (by omega) (by omega)) h2 e3 hLI hl
