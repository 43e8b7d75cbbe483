-- ===== laid by wip/whole/spec18.py =====
set_option maxHeartbeats 4000000 in
set_option maxRecDepth 100000 in
/-- the numbers of the launch, out of the tables' words -/
theorem whole_base {p : Program} {s : State} {m : MethodId} {meth : Method} {c : Code} {b L : Nat} {xs : Nat → Int32} (C0 : lw_At p s m meth c b L xs) : ∃ G : GG, KK G s ∧ SF G (fun q : Nat => s.heap.size ≤ q) s s.heap := by
  obtain ⟨hx, hb, hr, hml, hown0, hts0, hX, hbl, hlocks, hgv⟩ := id C0
  have hts : ∀ w ∈ wsL_law, w.before #[Value.ref b] s = true := fun w h => hts0 w (wsL_law_in w h)
  have hnA : ∀ a : Nat, a < s.heap.size → ¬ (fun q : Nat => s.heap.size ≤ q) a := fun a h => Nat.not_le.mpr h
  obtain ⟨c0, i0, hKn0⟩ := u_known (C := RJx4a65c) (T := TJx4a65c) (N := 3) (n := 3) hts inlJx4a65c (hts0 (.instantiable RJx4a65c 3) (by decide +kernel))
  obtain ⟨c1, i1, hKn1⟩ := u_known (C := RX0) (T := TX0) (N := 9) (n := 9) hts inlX0 (hts0 (.instantiable RX0 9) (by decide +kernel))
  obtain ⟨c2, i2, hKn2⟩ := u_known (C := RX1) (T := TX1) (N := 6) (n := 6) hts inlX1 (hts0 (.instantiable RX1 6) (by decide +kernel))
  obtain ⟨c3, i3, hKn3⟩ := u_known (C := RX2) (T := TX2) (N := 17) (n := 17) hts inlX2 (hts0 (.instantiable RX2 17) (by decide +kernel))
  obtain ⟨dC, dI, hKc⟩ : ∃ (dC : Nat → ClassId) (dI : Nat → Nat → Nat), ∀ (k : Nat) (q : vw_C), vwCl[k]? = some q → u_Kn s q.1 q.2.1 q.2.2 (dC k) (dI k) := by
    refine ⟨fun k => if k = 0 then c0 else if k = 1 then c1 else if k = 2 then c2 else c3, fun k => if k = 0 then i0 else if k = 1 then i1 else if k = 2 then i2 else i3, ?_⟩
    intro k q hq
    match k, hq with
    | 0, hq => cases hq; exact hKn0
    | 1, hq => cases hq; exact hKn1
    | 2, hq => cases hq; exact hKn2
    | 3, hq => cases hq; exact hKn3
    | k + 4, hq => simp [vwCl] at hq
  obtain ⟨cI, kI, pI, hI1, hI2, hI3⟩ := Cond.arrayClass_spec (hts0 (.arrayClass .int) (by decide +kernel))
  obtain ⟨cJ, kJ, pJ, hJ1, hJ2, hJ3⟩ := Cond.arrayClass_spec (hts0 (.arrayClass .long) (by decide +kernel))
  obtain ⟨cZ, kZ, pZ, hZ1, hZ2, hZ3⟩ := Cond.arrayClass_spec (hts0 (.arrayClass .boolean) (by decide +kernel))
  have hAO := hts0 (.arrayOver (.object "java/lang/Object")) (by decide +kernel)
  obtain ⟨pO, cO, kO, hO1, hO0, hO2, hO3, hO4⟩ := Cond.arrayOver_spec hAO
  obtain ⟨mi, hMi⟩ := va_Mi.of (flat_of_before _ hgv (.isRef (.mirror "[Ljava/lang/Object;")) (by decide +kernel))
  obtain ⟨t, ht, hT⟩ := va_Tof (tm := .static "java/util/ArrayList" "DEFAULTCAPACITY_EMPTY_ELEMENTDATA" "[Ljava/lang/Object;") (ty := .object "java/lang/Object") (N := 0) (f := fun _ => .null) (A := (fun q : Nat => s.heap.size ≤ q)) (by decide) (flat_of_before _ hgv (.arrayOf (.static "java/util/ArrayList" "DEFAULTCAPACITY_EMPTY_ELEMENTDATA" "[Ljava/lang/Object;") (.object "java/lang/Object")) (by decide +kernel)) (va_eqt (flat_of_before _ hgv (.eq (.length (.static "java/util/ArrayList" "DEFAULTCAPACITY_EMPTY_ELEMENTDATA" "[Ljava/lang/Object;")) (.int 0)) (by decide +kernel))) (fun j hj => absurd hj (Nat.not_lt_zero j)) hnA
  have hZs := va_Zref (A := (fun q : Nat => s.heap.size ≤ q)) (hts0 (.laysStatic "java/util/ArrayList" "DEFAULTCAPACITY_EMPTY_ELEMENTDATA" "[Ljava/lang/Object;") (by decide +kernel)) (hts0 (.initialized "java/util/ArrayList") (by decide +kernel)) ht hnA
  refine ⟨((dC, dI), cI, cJ, cZ, cO, mi, t), ⟨⟨hKc, ?_⟩, hMi, va_Dc.of (hts0 _ (by decide +kernel)), va_AO.of hAO, va_Nw.of rfl (hts0 (.castable RX0 "java/lang/Object") (by decide +kernel)), va_Nw.of rfl (hts0 (.methodLinkNest RX0 43 yX1_doneBy RX1) (by decide +kernel))⟩, hZs, hT⟩
  intro k q hk
  match k, hk with
  | 0, hk => cases hk; exact ⟨fun n z => ⟨fun k h => (by cases h), kI, hI2, pI, hI3⟩, hI1⟩
  | 1, hk => cases hk; exact ⟨fun n z => ⟨fun k h => (by cases h), kJ, hJ2, pJ, hJ3⟩, hJ1⟩
  | 2, hk => cases hk; exact ⟨fun n z => ⟨fun k h => (by cases h), kZ, hZ2, pZ, hZ3⟩, hZ1⟩
  | 3, hk => cases hk; exact ⟨fun n z => ⟨fun k h => (by cases h), kO, hO2, pO, hO3⟩, kO, pO, hO2, hO3, hO1, hO4⟩
  | k + 4, hk => simp [gTy] at hk
set_option maxHeartbeats 4000000 in
set_option maxRecDepth 100000 in
/-- THE LAW, from its entry -/
theorem whole_start {p : Program} {e : Env} {s : State} {m : MethodId} {below : List Frame} {meth : Method} {c : Code} (l : Launch) (hflags : l.flags = flags0) {b L : Nat} {xs : Nat → Int32} (hL : L ≤ 4608) (C0 : lw_At p s m meth c b L xs) : W p l e room_1 s m #[Value.ref b] below meth c s.heap [] 0 0 (lw_Z below #[Value.ref b] s) (entryFrame m ([Value.ref b] : List Value).toArray 4) := by
  obtain ⟨hx, hb, hr, hml, hown0, hts0, hX, hbl, hlocks, hgv⟩ := id C0
  have hown : s.vm.findClass RL = some m.cls := hown0
  have hts : ∀ w ∈ wsL_law, w.before #[Value.ref b] s = true := fun w h => hts0 w (wsL_law_in w h)
  have hA : ∀ q : Nat, s.heap.size ≤ q → (fun q : Nat => s.heap.size ≤ q) q := fun _ h => h
  obtain ⟨G, hK, hZ⟩ := whole_base C0
  have hS : va_S (fun q : Nat => s.heap.size ≤ q) s.heap s.heap [] := va_S.rf
  have hP : va_P G.1 vwCl [] s.heap := va_P.nil
  have hD : va_D (fun q : Nat => s.heap.size ≤ q) [] := va_D.nil
  have hl := lv_entry ([.ref b]) (n := 4) (Nat.le_of_ble_eq_true rfl)
  rw [lg_entry_eq]
  generalize (lg_sl ([.ref b]) ++ List.replicate (4 - (lg_sl ([.ref b])).length) Slot.unset).toArray = ls at hl ⊢
  have hl : lv_has ls 4 [(0, .ref b)] := hl
  have cw4 := cwI (R := room_1) (s := s) (args := #[Value.ref b]) (rm := (rmX 4 160 4 212)) (mc := 4) (ms := 212) (own := RL) (index := 9) 0 hts gL_law_X1_init rfl rfl rfl (hts0 (.initialized RX1) (by decide +kernel)) (hts0 (.methodLink RL 9 yX1_init) (by decide +kernel)) (hts0 (.instanceMethod yX1_init) (by decide +kernel)) rfl (by decide +kernel) ⟨(Nat.le_of_ble_eq_true rfl), (Nat.le_of_ble_eq_true rfl)⟩
  have cw12 := cwI (R := room_1) (s := s) (args := #[Value.ref b]) (rm := (rmX 1 40 12 2019)) (mc := 12) (ms := 2019) (own := RL) (index := 12) 0 hts gL_law_X2_init rfl rfl rfl (hts0 (.initialized RX2) (by decide +kernel)) (hts0 (.methodLink RL 12 yX2_init) (by decide +kernel)) (hts0 (.instanceMethod yX2_init) (by decide +kernel)) rfl (by decide +kernel) ⟨(Nat.le_of_ble_eq_true rfl), (Nat.le_of_ble_eq_true rfl)⟩
  refine va_new (ci := 2) (fs := [.null, .null, .null, .null, .int 0, .long 0]) (own := RL) (C := RX1) (T := TX1) (N := 6) hx hb hts inlX1 tyX1 tyX1_ok hown (hts0 (.classLink RL 7 RX1) (by decide +kernel)) (hts0 (.instantiable RX1 6) (by decide +kernel)) (hts0 (.initialized RX1) (by decide +kernel)) hK.1 hP hD hS hA rfl (fun j hj => by rcases (show j = 0 ∨ j = 1 ∨ j = 2 ∨ j = 3 ∨ j = 4 ∨ j = 5 by omega) with rfl | rfl | rfl | rfl | rfl | rfl <;> rfl) (Nat.le_of_ble_eq_true rfl) (Nat.le_of_ble_eq_true rfl) dL_law_0 (fun q1 H hP hD hS => ?_)
  have hP : va_P G.1 vwCl [(q1, .inr (2, [.null, .null, .null, .null, .int 0, .long 0]))] H := hP
  have hD : va_D (fun q : Nat => s.heap.size ≤ q) [(q1, .inr (2, [.null, .null, .null, .null, .int 0, .long 0]))] := hD
  refine W.widen (k := 1) (n := 6) (Nat.le_of_ble_eq_true rfl) (Nat.le_of_ble_eq_true rfl) ?_
  refine lv_dup hx hb dL_law_3 rfl ?_
  refine wrI_v (wr := []) (b := q1) (As := []) (rest := [.ref q1]) ⟨hx, hb, hml, hown, hts⟩ (c_X1_init l G q1) cw4 hK hZ hP hD hS hA rfl hl.1 rfl (Nat.le_of_ble_eq_true rfl) dL_law_4 ⟨(Nat.le_of_ble_eq_true rfl), (Nat.le_of_ble_eq_true rfl)⟩ (fun u H9 locs9 hu hP9 hD9 hS9 => ?_)
  subst hu
  have hP : va_P G.1 vwCl (WC G u κ0 σ0) H9 := hP9
  have hD : va_D (fun q : Nat => s.heap.size ≤ q) (WC G u κ0 σ0) := hD9
  have hS := hS9
  refine W.widen (k := 5) (n := 218) (Nat.le_of_ble_eq_true rfl) (Nat.le_of_ble_eq_true rfl) ?_
  refine lv_astore_n (lv' := [(1, .ref u.1), (0, .ref b)]) hx hb dL_law_7 rfl hl (by decide) rfl (fun ls hl => ?_)
  refine va_new (ci := 3) (fs := [.int 0, .int 0, .null, .null, .null, .null, .null, .null, .null, .null, .null, .null, .long 0, .null, .int 0, .int 0, .null]) (own := RL) (C := RX2) (T := TX2) (N := 17) hx hb hts inlX2 tyX2 tyX2_ok hown (hts0 (.classLink RL 10 RX2) (by decide +kernel)) (hts0 (.instantiable RX2 17) (by decide +kernel)) (hts0 (.initialized RX2) (by decide +kernel)) hK.1 hP hD hS hA rfl (fun j hj => by rcases (show j = 0 ∨ j = 1 ∨ j = 2 ∨ j = 3 ∨ j = 4 ∨ j = 5 ∨ j = 6 ∨ j = 7 ∨ j = 8 ∨ j = 9 ∨ j = 10 ∨ j = 11 ∨ j = 12 ∨ j = 13 ∨ j = 14 ∨ j = 15 ∨ j = 16 by omega) with rfl | rfl | rfl | rfl | rfl | rfl | rfl | rfl | rfl | rfl | rfl | rfl | rfl | rfl | rfl | rfl | rfl <;> rfl) (Nat.le_of_ble_eq_true rfl) (Nat.le_of_ble_eq_true rfl) dL_law_8 (fun q2 H hP hD hS => ?_)
  refine W.widen (k := 6) (n := 235) (Nat.le_of_ble_eq_true rfl) (Nat.le_of_ble_eq_true rfl) ?_
  refine lv_dup hx hb dL_law_11 rfl ?_
  refine wrI_v (wr := WC G u κ0 σ0) (b := q2) (As := []) (rest := [.ref q2]) ⟨hx, hb, hml, hown, hts⟩ (c_X2_init l G q2) cw12 hK hZ hP hD hS hA rfl hl.1 rfl (Nat.le_of_ble_eq_true rfl) dL_law_12 ⟨(Nat.le_of_ble_eq_true rfl), (Nat.le_of_ble_eq_true rfl)⟩ (fun bm H8 locs8 hu hP8 hD8 hS8 => ?_)
  subst hu
  have hP : va_P G.1 vwCl (WM G bm μ0 σ0 ++ WC G u κ0 σ0) H8 := va_P.comm hP8
  have hD : va_D (fun q : Nat => s.heap.size ≤ q) (WM G bm μ0 σ0 ++ WC G u κ0 σ0) := va_D.comm hD8
  refine W.widen (k := 18) (n := 2254) (Nat.le_of_ble_eq_true rfl) (Nat.le_of_ble_eq_true rfl) ?_
  refine lv_astore_n (lv' := [(2, .ref (bm 0)), (1, .ref u.1), (0, .ref b)]) hx hb dL_law_15 rfl hl (by decide) rfl (fun ls hl => ?_)
  refine lv_iconst (v := 0) hx hb dL_law_16 (by decide) ?_
  refine lv_istore_n (lv' := [(3, .int 0), (2, .ref (bm 0)), (1, .ref u.1), (0, .ref b)]) hx hb dL_law_17 rfl hl (by decide) rfl (fun ls hl => ?_)
  exact law_loop hL C0 hK hZ L 0 (by omega) (Nat.zero_le L) 0 κ0 μ0 σ0 H8 locs8 ls rfl ⟨SI_0, CI_0, MI_0, hP, hD, hS8⟩ (lv_sub hl [0, 3, 2, 1] rfl)
