/-! the claim's own base: one bundle of the launch's numbers, contracts that read, contracts that write, their calls and ends -/
abbrev GG : Type := va_G × ClassId × ClassId × ClassId × ClassId × Nat × Nat
abbrev gI (G : GG) : ClassId := G.2.1
abbrev gJ (G : GG) : ClassId := G.2.2.1
abbrev gZ (G : GG) : ClassId := G.2.2.2.1
abbrev gO (G : GG) : ClassId := G.2.2.2.2.1
abbrev gM (G : GG) : Nat := G.2.2.2.2.2.1
abbrev gS (G : GG) : Nat := G.2.2.2.2.2.2
abbrev gTy (G : GG) : List (ClassId × FieldType) := [(gI G, .int), (gJ G, .long), (gZ G, .boolean), (gO G, .object "java/lang/Object")]
abbrev aI (G : GG) (a n : Nat) (f : Nat → Int32) : Nat × va_E := (a, .inl (gI G, n, .inl f))
abbrev aJ (G : GG) (a n : Nat) (f : Nat → Int64) : Nat × va_E := (a, .inl (gJ G, n, .inr (.inl f)))
abbrev aZ (G : GG) (a n : Nat) (f : Nat → Int32) : Nat × va_E := (a, .inl (gZ G, n, .inl f))
abbrev aO (G : GG) (a n : Nat) (f : Nat → Option Nat) : Nat × va_E := (a, .inl (gO G, n, .inr (.inr (.inr (.inr f)))))
/-- what the tables say, the same in every state -/
def KK (G : GG) (U : State) : Prop := va_K G.1 vwCl (gTy G) U ∧ va_Mi "[Ljava/lang/Object;" (gM G) U ∧ va_Dc U ∧ va_AO "java/lang/Object" U ∧ va_Nw (.castable RX0 "java/lang/Object") U ∧ va_Nw (.methodLinkNest RX0 43 yX1_doneBy RX1) U
theorem KK.same {G : GG} {u U : State} (e : u.vm = U.vm) (h : KK G u) : KK G U := by
  have a : u.vm.Alike U.vm := e ▸ Vm.Alike.refl u.vm
  obtain ⟨h1, h2, h3, h4, h5, h6⟩ := h
  exact ⟨va_K.moved a h1, va_Mi.moved a h2, va_Dc.moved a h3, va_AO.moved a h4, va_Nw.same rfl e h5, va_Nw.same rfl e h6⟩
theorem KK.warm {G : GG} {s U : State} (hW : s.WarmedH U.vm) (h : KK G s) : KK G U := by
  obtain ⟨h1, h2, h3, h4, h5, h6⟩ := h
  exact ⟨va_K.moved hW.alike h1, va_Mi.moved hW.alike h2, va_Dc.moved hW.alike h3, va_AO.moved hW.alike h4, va_Nw.warmC hW h5, va_Nw.warmM hW h6⟩
/-- the list's static empty array, outside what is written -/
def SF (G : GG) (A : Nat → Prop) (U : State) (H : Heap) : Prop := va_Z "java/util/ArrayList" "DEFAULTCAPACITY_EMPTY_ELEMENTDATA" "[Ljava/lang/Object;" (.ref (gS G)) A U H ∧ va_T (.object "java/lang/Object") (gS G) 0 (fun _ => .null) A U H
theorem SF.to {G : GG} {A B : Nat → Prop} {s U : State} {H H1 : Heap} (h : SF G A s H) (hq : ∀ a : Nat, a < H.size → ¬ A a → H1[a]? = H[a]?) (hAB : ∀ q, B q → A q) (hvm : s.vm.Alike U.vm) : SF G B U H1 :=
  ⟨((h.1.kept hq).narrow hAB).moved hvm, ((h.2.kept hq).narrow hAB).moved hvm⟩
theorem va_P.nil {D : va_G} {cl : List vw_C} {H : Heap} : va_P D cl [] H := fun k q h => by simp at h
theorem va_D.nil {A : Nat → Prop} : va_D A [] := ⟨fun i j p q h => by simp at h, fun k q h => by simp at h⟩
theorem va_P.left {D : va_G} {cl : List vw_C} {a b : va_W} {H : Heap} (h : va_P D cl (a ++ b) H) : va_P D cl a H := h.by id (fun k q hq => by
  rw [id, List.getElem?_append_left (List.getElem?_eq_some_iff.mp hq).1]; exact hq)
theorem va_P.right {D : va_G} {cl : List vw_C} {a b : va_W} {H : Heap} (h : va_P D cl (a ++ b) H) : va_P D cl b H := h.by (fun k => a.length + k) (fun k q hq => by
  rw [List.getElem?_append_right (Nat.le_add_right _ _), Nat.add_sub_cancel_left]; exact hq)
theorem va_D.left {A : Nat → Prop} {a b : va_W} (h : va_D A (a ++ b)) : va_D A a := h.by id (fun k q hq => by
  rw [id, List.getElem?_append_left (List.getElem?_eq_some_iff.mp hq).1]; exact hq) (fun i j _ _ e => e)
theorem va_D.right {A : Nat → Prop} {a b : va_W} (h : va_D A (a ++ b)) : va_D A b := h.by (fun k => a.length + k) (fun k q hq => by
  rw [List.getElem?_append_right (Nat.le_add_right _ _), Nat.add_sub_cancel_left]; exact hq) (fun i j _ _ e => Nat.add_left_cancel e)
theorem va_P.comm {D : va_G} {cl : List vw_C} {a b : va_W} {H : Heap} (h : va_P D cl (a ++ b) H) : va_P D cl (b ++ a) H := va_P.app h.right h.left
theorem va_D.ne {A : Nat → Prop} {a b : va_W} (h : va_D A (a ++ b)) {i j : Nat} {p q : Nat × va_E} (hi : a[i]? = some p) (hj : b[j]? = some q) : p.1 ≠ q.1 := by
  intro e
  have li := (List.getElem?_eq_some_iff.mp hi).1
  have h1 : (a ++ b)[i]? = some p := by rw [List.getElem?_append_left li]; exact hi
  have h2 : (a ++ b)[a.length + j]? = some q := by rw [List.getElem?_append_right (Nat.le_add_right _ _), Nat.add_sub_cancel_left]; exact hj
  have h3 := h.1 i (a.length + j) p q h1 h2 e
  omega
theorem va_D.comm {A : Nat → Prop} {a b : va_W} (h : va_D A (a ++ b)) : va_D A (b ++ a) := va_D.app h.right h.left (fun i j p q hi hj e => (h.ne hj hi) e.symm)
/-- behind a call that had the part wc -/
theorem wr_join {G : GG} {A : Nat → Prop} {wr wc w1 : va_W} {H H1 : Heap} (hP : va_P G.1 vwCl (wr ++ wc) H) (hD : va_D A (wr ++ wc)) (hF : ∀ q, va_A wc H.size q → A q)
    (hk : ∀ q : Nat, q < H.size → ¬ va_A wc H.size q → H1[q]? = H[q]?) (hP1 : va_P G.1 vwCl w1 H1) (hD1 : va_D (va_A wc H.size) w1) : va_P G.1 vwCl (wr ++ w1) H1 ∧ va_D A (wr ++ w1) := by
  have hr := hP.left
  have ho : ∀ (i : Nat) (p : Nat × va_E), wr[i]? = some p → ¬ va_A wc H.size p.1 := by
    intro i p hi hc
    rcases hc with ⟨k, e, hk⟩ | hs
    · exact hD.ne hi hk rfl
    · exact absurd (va_at.lt (hr i p hi)) (Nat.not_lt.mpr hs)
  refine ⟨va_P.app (hr.kept fun k q hq => hk q.1 (va_at.lt (hr k q hq)) (ho k q hq)) hP1, va_D.app hD.left (hD1.weaken fun _ q _ h => hF q.1 h) fun i j p q hi hj e => ?_⟩
  exact ho i p hi (e ▸ hD1.2 j q hj)
theorem wr_free {A : Nat → Prop} {wr wc : va_W} {H0 H : Heap} {locs : List Loc} (hD : va_D A (wr ++ wc)) (hS : va_S A H0 H locs) (hA : ∀ q, H0.size ≤ q → A q) : ∀ q, va_A wc H.size q → A q := by
  intro q h
  rcases h with ⟨k, e, hk⟩ | h
  · exact hD.right.2 k _ hk
  · exact hA q (Nat.le_trans hS.1 h)
-- contracts
def RdI (l : Launch) (y : MethodName) (ws : List Cond) (rm : Room) (G : GG) (As : List Value) (wc : va_W) (post : Int32 → Prop) : Prop := Met l y ws rm (va_Pc As (fun U => va_P G.1 vwCl wc U.heap ∧ KK G U)) (vp_Si post) 0 0 (fun _ => False)
def RdQ (l : Launch) (y : MethodName) (ws : List Cond) (rm : Room) (G : GG) (As : List Value) (wc : va_W) (post : Option Nat → Prop) : Prop := Met l y ws rm (va_Pc As (fun U => va_P G.1 vwCl wc U.heap ∧ KK G U)) (va_Sq post) 0 0 (fun _ => False)
def wrPre (G : GG) (wc : va_W) (sz : Nat) (U : State) : Prop := U.heap.size = sz ∧ va_P G.1 vwCl wc U.heap ∧ KK G U ∧ SF G (va_A wc sz) U U.heap ∧ va_D (fun _ => True) wc
def wrEnd {S : Type} (G : GG) (A : Nat → Prop) (wf : S → va_W) (u : S) (t : State) : Prop := va_P G.1 vwCl (wf u) t.heap ∧ va_D A (wf u)
def WrI {S : Type} (l : Launch) (y : MethodName) (ws : List Cond) (rm : Room) (G : GG) (As : List Value) (wc : va_W) (post : Int32 → S → Prop) (wf : S → va_W) (mc ms : Nat) : Prop := ∀ sz, Met l y ws rm (va_Pc As (wrPre G wc sz)) (va_Qi post (wrEnd G (va_A wc sz) wf) (va_A wc sz)) mc ms (va_A wc sz)
def WrV {S : Type} (l : Launch) (y : MethodName) (ws : List Cond) (rm : Room) (G : GG) (As : List Value) (wc : va_W) (post : S → Prop) (wf : S → va_W) (mc ms : Nat) : Prop := ∀ sz, Met l y ws rm (va_Pc As (wrPre G wc sz)) (va_Qv post (wrEnd G (va_A wc sz) wf) (va_A wc sz)) mc ms (va_A wc sz)
def WrR {S : Type} (l : Launch) (y : MethodName) (ws : List Cond) (rm : Room) (G : GG) (As : List Value) (wc : va_W) (post : S → Prop) (wf : S → va_W) (ra : S → Nat) (mc ms : Nat) : Prop := ∀ sz, Met l y ws rm (va_Pc As (wrPre G wc sz)) (va_Qr post (fun u a t => a = ra u ∧ wrEnd G (va_A wc sz) wf u t) (va_A wc sz)) mc ms (va_A wc sz)
section BASEC
variable {p : Program} {l : Launch} {e : Env} {R : Room} {s : State} {m : MethodId} {args : Array Value} {below : List Frame} {meth : Method} {c : Code} {H : Heap} {locs : List Loc} {cells slots : Nat} {Q : State → Prop}
variable {cc : ByteArray} {pc nL : Nat} {ls : Array Slot} {rest st0 : List Value} {Ts : List Cond} {own C : String} {index maxL n mc ms : Nat} {y : MethodName} {bytes : ByteArray} {ret : Option FieldType} {wy : List Cond} {rm : Room} {b : Nat} {As : List Value} {G : GG} {wc wr : va_W} {A : Nat → Prop}
theorem rd_blind {As : List Value} : FrameBlind (va_Pc As (fun U => va_P G.1 vwCl wc U.heap ∧ KK G U)) := fun a U g mk q => ⟨q.1, q.2.1, KK.same (u := U) (U := U.calling g mk a) rfl q.2.2⟩
theorem wr_blind {As : List Value} {sz : Nat} : FrameBlind (va_Pc As (wrPre G wc sz)) := fun a U g mk q => by
  obtain ⟨q0, q1, q2, q3, q4, q5⟩ := q
  exact ⟨q0, q1, q2, KK.same (u := U) (U := U.calling g mk a) rfl q3, SF.to (s := U) (U := U.calling g mk a) q4 (fun _ _ _ => rfl) (fun _ h => h) (Vm.Alike.refl U.vm), q5⟩
theorem rdV_i {post : Int32 → Prop} (S : CallFix p m c cc nL s args Ts own) (hM : RdI l y wy rm G (.ref b :: As) wc post) (cw : CallW R s args own C index y bytes maxL ret wy rm 0 0 n) (hK : KK G s) (hP : va_P G.1 vwCl wc H) (ci : Nat) {fs : List Value} {q : vw_C} (he : wc[0]? = some (b, .inr (ci, fs))) (hc : vwCl[ci]? = some q) (hC : q.1 = C)
    (hn : As.length = n) (hsize : ls.size = nL) (hst : st0 = As.reverse ++ .ref b :: rest) (hW : (rest.map fun v => v.category).sum ≤ 8) (hdg : decode cc pc = .ok (.invokevirtual index, 3)) (hf : cells ≤ R.cells ∧ slots ≤ R.slots)
    (kk : ∀ r : Int32, post r → W p l e R s m args below meth c H locs cells slots Q (F0 m (pc + 3) ls (.int r :: rest))) : W p l e R s m args below meth c H locs cells slots Q (F0 m pc ls st0) := by
  subst hC
  exact vp_callSi (va_Run.run (va_runV S hM cw ⟨rd_blind, va_recv hK.1 hP hc he, fun U hU hW => ⟨rfl, by rw [hU]; exact hP, hK.warm hW⟩⟩ rfl hn hsize hst (lv_room hW) hdg hf)) kk
theorem rdV_q {post : Option Nat → Prop} (S : CallFix p m c cc nL s args Ts own) (hM : RdQ l y wy rm G (.ref b :: As) wc post) (cw : CallW R s args own C index y bytes maxL ret wy rm 0 0 n) (hK : KK G s) (hP : va_P G.1 vwCl wc H) (ci : Nat) {fs : List Value} {q : vw_C} (he : wc[0]? = some (b, .inr (ci, fs))) (hc : vwCl[ci]? = some q) (hC : q.1 = C)
    (hn : As.length = n) (hsize : ls.size = nL) (hst : st0 = As.reverse ++ .ref b :: rest) (hW : (rest.map fun v => v.category).sum ≤ 8) (hdg : decode cc pc = .ok (.invokevirtual index, 3)) (hf : cells ≤ R.cells ∧ slots ≤ R.slots)
    (kk : ∀ r : Option Nat, post r → W p l e R s m args below meth c H locs cells slots Q (F0 m (pc + 3) ls (va_rf r :: rest))) : W p l e R s m args below meth c H locs cells slots Q (F0 m pc ls st0) := by
  subst hC
  exact va_csq (va_Run.run (va_runV S hM cw ⟨rd_blind, va_recv hK.1 hP hc he, fun U hU hW => ⟨rfl, by rw [hU]; exact hP, hK.warm hW⟩⟩ rfl hn hsize hst (lv_room hW) hdg hf)) kk
theorem rdS_i {post : Int32 → Prop} (S : CallFix p m c cc nL s args Ts own) (hM : RdI l y wy rm G As wc post) (cw : CallB R s args own index y bytes maxL ret wy rm 0 0 n ∧ (Cond.static y).before args s = true) (hK : KK G s) (hP : va_P G.1 vwCl wc H)
    (hn : As.length = n) (hsize : ls.size = nL) (hst : st0 = As.reverse ++ rest) (hW : (rest.map fun v => v.category).sum ≤ 8) (hdg : decode cc pc = .ok (.invokestatic index, 3)) (hf : cells ≤ R.cells ∧ slots ≤ R.slots)
    (kk : ∀ r : Int32, post r → W p l e R s m args below meth c H locs cells slots Q (F0 m (pc + 3) ls (.int r :: rest))) : W p l e R s m args below meth c H locs cells slots Q (F0 m pc ls st0) :=
  vp_callSi (va_Run.run (va_runS S hM cw ⟨rd_blind, fun U hU hW => ⟨rfl, by rw [hU]; exact hP, hK.warm hW⟩⟩ rfl hn hsize hst (lv_room hW) hdg hf)) kk
theorem rdSN_i {host : String} {post : Int32 → Prop} (S : CallFix p m c cc nL s args Ts own) (hM : RdI l y wy rm G As wc post) (cw : va_CN R s args own index y host bytes maxL ret wy rm 0 0 n ∧ (Cond.static y).before args s = true ∧ True) (hK : KK G s) (hP : va_P G.1 vwCl wc H)
    (hn : As.length = n) (hsize : ls.size = nL) (hst : st0 = As.reverse ++ rest) (hW : (rest.map fun v => v.category).sum ≤ 8) (hdg : decode cc pc = .ok (.invokestatic index, 3)) (hf : cells ≤ R.cells ∧ slots ≤ R.slots)
    (kk : ∀ r : Int32, post r → W p l e R s m args below meth c H locs cells slots Q (F0 m (pc + 3) ls (.int r :: rest))) : W p l e R s m args below meth c H locs cells slots Q (F0 m pc ls st0) :=
  vp_callSi (va_Run.run (va_runSN S hM cw ⟨rd_blind, fun U hU hW => ⟨rfl, by rw [hU]; exact hP, hK.warm hW⟩⟩ rfl hn hsize hst (lv_room hW) hdg hf)) kk
theorem wr_pre (hK : KK G s) (hZ : SF G A s s.heap) (hP : va_P G.1 vwCl (wr ++ wc) H) (hD : va_D A (wr ++ wc)) (hS : va_S A s.heap H locs) (hA : ∀ q, s.heap.size ≤ q → A q) : ∀ U : State, U.heap = H → s.WarmedH U.vm → wrPre G wc H.size U := by
  intro U hU hW
  refine ⟨by rw [hU], by rw [hU]; exact hP.right, hK.warm hW, ?_, hD.right.weaken fun _ _ _ _ => trivial⟩
  rw [hU]
  exact hZ.to hS.2.1 (wr_free hD hS hA) hW.alike
theorem wrV_i {S0 : Type} {post : Int32 → S0 → Prop} {wf : S0 → va_W} (S : CallFix p m c cc nL s args Ts own) (hM : WrI l y wy rm G (.ref b :: As) wc post wf mc ms) (cw : CallW R s args own C index y bytes maxL ret wy rm mc ms n) (hK : KK G s) (hZ : SF G A s s.heap) (hP : va_P G.1 vwCl (wr ++ wc) H) (hD : va_D A (wr ++ wc)) (hS : va_S A s.heap H locs) (hA : ∀ q, s.heap.size ≤ q → A q) (ci : Nat) {fs : List Value} {q : vw_C} (he : wc[0]? = some (b, .inr (ci, fs))) (hc : vwCl[ci]? = some q) (hC : q.1 = C)
    (hn : As.length = n) (hsize : ls.size = nL) (hst : st0 = As.reverse ++ .ref b :: rest) (hW : (rest.map fun v => v.category).sum ≤ 8) (hdg : decode cc pc = .ok (.invokevirtual index, 3)) (hf : cells + mc ≤ R.cells ∧ slots + ms ≤ R.slots)
    (kk : ∀ (r : Int32) (u : S0) (H1 : Heap) (locs1 : List Loc), post r u → va_P G.1 vwCl (wr ++ wf u) H1 → va_D A (wr ++ wf u) → va_S A s.heap H1 locs1 → W p l e R s m args below meth c H1 locs1 (cells + mc) (slots + ms) Q (F0 m (pc + 3) ls (.int r :: rest))) : W p l e R s m args below meth c H locs cells slots Q (F0 m pc ls st0) := by
  subst hC
  have hF := wr_free hD hS hA
  refine va_calli (va_runV S (hM H.size) cw ⟨wr_blind, va_recv hK.1 hP.right hc he, fun U hU hW => ⟨rfl, wr_pre hK hZ hP hD hS hA U hU hW⟩⟩ rfl hn hsize hst (lv_room hW) hdg hf) hS (fun q _ h => hF q h) hF (fun r u t H1 locs1 ht hvm hw hB hz1 hk1 hS1 => ?_)
  obtain ⟨hP1, hD1⟩ := hB
  rw [ht] at hP1
  obtain ⟨hP2, hD2⟩ := wr_join hP hD hF hk1 hP1 hD1
  exact kk r u H1 locs1 hw hP2 hD2 hS1
theorem wrV_raw {S0 : Type} {post : Int32 → S0 → Prop} {wf : S0 → va_W} (S : CallFix p m c cc nL s args Ts own) (hM : WrI l y wy rm G (.ref b :: As) wc post wf mc ms) (cw : CallW R s args own C index y bytes maxL ret wy rm mc ms n) (hK : KK G s) (hZ : SF G A s s.heap) (hP : va_P G.1 vwCl wc H) (hD : va_D A wc) (hS : va_S A s.heap H locs) (hA : ∀ q, s.heap.size ≤ q → A q) (ci : Nat) {fs : List Value} {q : vw_C} (he : wc[0]? = some (b, .inr (ci, fs))) (hc : vwCl[ci]? = some q) (hC : q.1 = C)
    (hn : As.length = n) (hsize : ls.size = nL) (hst : st0 = As.reverse ++ .ref b :: rest) (hW : (rest.map fun v => v.category).sum ≤ 8) (hdg : decode cc pc = .ok (.invokevirtual index, 3)) (hf : cells + mc ≤ R.cells ∧ slots + ms ≤ R.slots)
    (kk : ∀ (r : Int32) (u : S0) (H1 : Heap) (locs1 : List Loc), post r u → va_P G.1 vwCl (wf u) H1 → (∀ q : Nat, q < H.size → ¬ va_A wc H.size q → H1[q]? = H[q]?) → va_S A s.heap H1 locs1 → W p l e R s m args below meth c H1 locs1 (cells + mc) (slots + ms) Q (F0 m (pc + 3) ls (.int r :: rest))) : W p l e R s m args below meth c H locs cells slots Q (F0 m pc ls st0) := by
  subst hC
  have hF := wr_free (wr := []) hD hS hA
  refine va_calli (va_runV S (hM H.size) cw ⟨wr_blind, va_recv hK.1 hP hc he, fun U hU hW => ⟨rfl, wr_pre (wr := []) hK hZ hP hD hS hA U hU hW⟩⟩ rfl hn hsize hst (lv_room hW) hdg hf) hS (fun q _ h => hF q h) hF (fun r u t H1 locs1 ht hvm hw hB hz1 hk1 hS1 => ?_)
  obtain ⟨hP1, hD1⟩ := hB
  rw [ht] at hP1
  exact kk r u H1 locs1 hw hP1 hk1 hS1
theorem wrV_v {S0 : Type} {post : S0 → Prop} {wf : S0 → va_W} (S : CallFix p m c cc nL s args Ts own) (hM : WrV l y wy rm G (.ref b :: As) wc post wf mc ms) (cw : CallW R s args own C index y bytes maxL ret wy rm mc ms n) (hK : KK G s) (hZ : SF G A s s.heap) (hP : va_P G.1 vwCl (wr ++ wc) H) (hD : va_D A (wr ++ wc)) (hS : va_S A s.heap H locs) (hA : ∀ q, s.heap.size ≤ q → A q) (ci : Nat) {fs : List Value} {q : vw_C} (he : wc[0]? = some (b, .inr (ci, fs))) (hc : vwCl[ci]? = some q) (hC : q.1 = C)
    (hn : As.length = n) (hsize : ls.size = nL) (hst : st0 = As.reverse ++ .ref b :: rest) (hW : (rest.map fun v => v.category).sum ≤ 8) (hdg : decode cc pc = .ok (.invokevirtual index, 3)) (hf : cells + mc ≤ R.cells ∧ slots + ms ≤ R.slots)
    (kk : ∀ (u : S0) (H1 : Heap) (locs1 : List Loc), post u → va_P G.1 vwCl (wr ++ wf u) H1 → va_D A (wr ++ wf u) → va_S A s.heap H1 locs1 → W p l e R s m args below meth c H1 locs1 (cells + mc) (slots + ms) Q (F0 m (pc + 3) ls rest)) : W p l e R s m args below meth c H locs cells slots Q (F0 m pc ls st0) := by
  subst hC
  have hF := wr_free hD hS hA
  refine va_callv (va_runV S (hM H.size) cw ⟨wr_blind, va_recv hK.1 hP.right hc he, fun U hU hW => ⟨rfl, wr_pre hK hZ hP hD hS hA U hU hW⟩⟩ rfl hn hsize hst (lv_room hW) hdg hf) hS (fun q _ h => hF q h) hF (fun u t H1 locs1 ht hvm hw hB hz1 hk1 hS1 => ?_)
  obtain ⟨hP1, hD1⟩ := hB
  rw [ht] at hP1
  obtain ⟨hP2, hD2⟩ := wr_join hP hD hF hk1 hP1 hD1
  exact kk u H1 locs1 hw hP2 hD2 hS1
theorem wrV_r {S0 : Type} {post : S0 → Prop} {wf : S0 → va_W} {ra : S0 → Nat} (S : CallFix p m c cc nL s args Ts own) (hM : WrR l y wy rm G (.ref b :: As) wc post wf ra mc ms) (cw : CallW R s args own C index y bytes maxL ret wy rm mc ms n) (hK : KK G s) (hZ : SF G A s s.heap) (hP : va_P G.1 vwCl (wr ++ wc) H) (hD : va_D A (wr ++ wc)) (hS : va_S A s.heap H locs) (hA : ∀ q, s.heap.size ≤ q → A q) (ci : Nat) {fs : List Value} {q : vw_C} (he : wc[0]? = some (b, .inr (ci, fs))) (hc : vwCl[ci]? = some q) (hC : q.1 = C)
    (hn : As.length = n) (hsize : ls.size = nL) (hst : st0 = As.reverse ++ .ref b :: rest) (hW : (rest.map fun v => v.category).sum ≤ 8) (hdg : decode cc pc = .ok (.invokevirtual index, 3)) (hf : cells + mc ≤ R.cells ∧ slots + ms ≤ R.slots)
    (kk : ∀ (u : S0) (H1 : Heap) (locs1 : List Loc), post u → va_P G.1 vwCl (wr ++ wf u) H1 → va_D A (wr ++ wf u) → va_S A s.heap H1 locs1 → W p l e R s m args below meth c H1 locs1 (cells + mc) (slots + ms) Q (F0 m (pc + 3) ls (.ref (ra u) :: rest))) : W p l e R s m args below meth c H locs cells slots Q (F0 m pc ls st0) := by
  subst hC
  have hF := wr_free hD hS hA
  refine va_callr (va_runV S (hM H.size) cw ⟨wr_blind, va_recv hK.1 hP.right hc he, fun U hU hW => ⟨rfl, wr_pre hK hZ hP hD hS hA U hU hW⟩⟩ rfl hn hsize hst (lv_room hW) hdg hf) hS (fun q _ h => hF q h) hF (fun u a t H1 locs1 ht hvm hw hB hz1 hk1 hS1 => ?_)
  obtain ⟨ea, hP1, hD1⟩ := hB
  subst ea
  rw [ht] at hP1
  obtain ⟨hP2, hD2⟩ := wr_join hP hD hF hk1 hP1 hD1
  exact kk u H1 locs1 hw hP2 hD2 hS1
theorem wrS_r {S0 : Type} {post : S0 → Prop} {wf : S0 → va_W} {ra : S0 → Nat} (S : CallFix p m c cc nL s args Ts own) (hM : WrR l y wy rm G As wc post wf ra mc ms) (cw : CallB R s args own index y bytes maxL ret wy rm mc ms n ∧ (Cond.static y).before args s = true) (hK : KK G s) (hZ : SF G A s s.heap) (hP : va_P G.1 vwCl (wr ++ wc) H) (hD : va_D A (wr ++ wc)) (hS : va_S A s.heap H locs) (hA : ∀ q, s.heap.size ≤ q → A q)
    (hn : As.length = n) (hsize : ls.size = nL) (hst : st0 = As.reverse ++ rest) (hW : (rest.map fun v => v.category).sum ≤ 8) (hdg : decode cc pc = .ok (.invokestatic index, 3)) (hf : cells + mc ≤ R.cells ∧ slots + ms ≤ R.slots)
    (kk : ∀ (u : S0) (H1 : Heap) (locs1 : List Loc), post u → va_P G.1 vwCl (wr ++ wf u) H1 → va_D A (wr ++ wf u) → va_S A s.heap H1 locs1 → W p l e R s m args below meth c H1 locs1 (cells + mc) (slots + ms) Q (F0 m (pc + 3) ls (.ref (ra u) :: rest))) : W p l e R s m args below meth c H locs cells slots Q (F0 m pc ls st0) := by
  have hF := wr_free hD hS hA
  refine va_callr (va_runS S (hM H.size) cw ⟨wr_blind, fun U hU hW => ⟨rfl, wr_pre hK hZ hP hD hS hA U hU hW⟩⟩ rfl hn hsize hst (lv_room hW) hdg hf) hS (fun q _ h => hF q h) hF (fun u a t H1 locs1 ht hvm hw hB hz1 hk1 hS1 => ?_)
  obtain ⟨ea, hP1, hD1⟩ := hB
  subst ea
  rw [ht] at hP1
  obtain ⟨hP2, hD2⟩ := wr_join hP hD hF hk1 hP1 hD1
  exact kk u H1 locs1 hw hP2 hD2 hS1
theorem wrI_v {S0 : Type} {post : S0 → Prop} {wf : S0 → va_W} (S : CallFix p m c cc nL s args Ts own) (hM : WrV l y wy rm G (.ref b :: As) wc post wf mc ms) (cw : CallB R s args own index y bytes maxL none wy rm mc ms n ∧ y.name = "<init>" ∧ (Cond.instanceMethod y).before args s = true) (hK : KK G s) (hZ : SF G A s s.heap) (hP : va_P G.1 vwCl (wr ++ wc) H) (hD : va_D A (wr ++ wc)) (hS : va_S A s.heap H locs) (hA : ∀ q, s.heap.size ≤ q → A q)
    (hn : As.length = n) (hsize : ls.size = nL) (hst : st0 = As.reverse ++ .ref b :: rest) (hW : (rest.map fun v => v.category).sum ≤ 8) (hdg : decode cc pc = .ok (.invokespecial index, 3)) (hf : cells + mc ≤ R.cells ∧ slots + ms ≤ R.slots)
    (kk : ∀ (u : S0) (H1 : Heap) (locs1 : List Loc), post u → va_P G.1 vwCl (wr ++ wf u) H1 → va_D A (wr ++ wf u) → va_S A s.heap H1 locs1 → W p l e R s m args below meth c H1 locs1 (cells + mc) (slots + ms) Q (F0 m (pc + 3) ls rest)) : W p l e R s m args below meth c H locs cells slots Q (F0 m pc ls st0) := by
  have hF := wr_free hD hS hA
  refine va_callv (va_runI S (hM H.size) cw ⟨wr_blind, fun U hU hW => ⟨rfl, wr_pre hK hZ hP hD hS hA U hU hW⟩⟩ rfl hn hsize hst (lv_room hW) hdg hf) hS (fun q _ h => hF q h) hF (fun u t H1 locs1 ht hvm hw hB hz1 hk1 hS1 => ?_)
  obtain ⟨hP1, hD1⟩ := hB
  rw [ht] at hP1
  obtain ⟨hP2, hD2⟩ := wr_join hP hD hF hk1 hP1 hD1
  exact kk u H1 locs1 hw hP2 hD2 hS1
-- the entries
theorem ent_ls (h : (lg_sl As).length ≤ maxL) {k : JFrame → Prop} (kk : ∀ ls : Array Slot, lv_has ls maxL (lv_args 0 As) → k (F0 m 0 ls [])) : k (entryFrame m As.toArray maxL) := by
  rw [lg_entry_eq]
  exact kk _ (lv_entry As h)
theorem rd_of_i {ws' : List Cond} {post : Int32 → Prop} {t : FieldType} (hy : plainName y.cls = true) (hw : wy = Cond.code y cc maxL (some t) :: ws') (hlen : (lg_sl As).length ≤ maxL) (ht : ∀ v : Int32, (v = 0 ∨ v = 1 ∨ t = .int) → narrow t (.int v) = .int v)
    (body : ∀ (p : Program) (e : Env) (s : State) (m : MethodId) (args : Array Value) (below : List Frame) (meth : Method) (c : Code) (Q : State → Prop), p.tables.exec = Jvm.exec → c.code = cc → c.maxLocals = maxL → s.vm.findClass y.cls = some m.cls → (∀ w ∈ wy, w.before args s = true) → va_P G.1 vwCl wc s.heap → KK G s →
      (∀ (pc : Nat) (ls : Array Slot) (v : Int32), decode cc pc = .ok (.ireturn, 1) → (v = 0 ∨ v = 1 ∨ t = .int) → post v → W p l e rm s m args below meth c s.heap [] 0 0 Q (F0 m pc ls [.int v])) →
      ∀ ls : Array Slot, lv_has ls maxL (lv_args 0 As) → W p l e rm s m args below meth c s.heap [] 0 0 Q (F0 m 0 ls [])) : RdI l y wy rm G As wc post := by
  refine Met.ofW (cc := cc) (maxL := maxL) (ret := some t) hy hw ?_
  intro p e s m args below meth c s₁ B hml hv
  obtain ⟨rfl, hP, hK⟩ := hv
  refine ent_ls (k := fun g => W p l e rm s m As.toArray below meth c s.heap [] 0 0 (MQ below (vp_Si post) As.toArray s 0 0 (fun _ => False)) g) hlen (fun ls hl => ?_)
  refine body p e s m As.toArray below meth c _ B.exec B.bytes hml (findClass_of_methodNamed B.named) (atoms_spec (ws := wy) B.pre) hP hK (fun pc ls v hd hv hp => ?_) ls hl
  exact W.zret B.exec B.bytes B.returns (ht v hv) (fun t ht hW => ⟨v, rfl, hp, ht⟩) (fun q h => (List.not_mem_nil h).elim) hd B.notSynchronized
theorem rd_of_q {ws' : List Cond} {post : Option Nat → Prop} {t : String} (hy : plainName y.cls = true) (hw : wy = Cond.code y cc maxL (some (.object t)) :: ws') (hlen : (lg_sl As).length ≤ maxL)
    (body : ∀ (p : Program) (e : Env) (s : State) (m : MethodId) (args : Array Value) (below : List Frame) (meth : Method) (c : Code) (Q : State → Prop), p.tables.exec = Jvm.exec → c.code = cc → c.maxLocals = maxL → s.vm.findClass y.cls = some m.cls → (∀ w ∈ wy, w.before args s = true) → va_P G.1 vwCl wc s.heap → KK G s →
      (∀ (pc : Nat) (ls : Array Slot) (r : Option Nat) (v : Value), decode cc pc = .ok (.areturn, 1) → v = va_rf r → post r → W p l e rm s m args below meth c s.heap [] 0 0 Q (F0 m pc ls [v])) →
      ∀ ls : Array Slot, lv_has ls maxL (lv_args 0 As) → W p l e rm s m args below meth c s.heap [] 0 0 Q (F0 m 0 ls [])) : RdQ l y wy rm G As wc post := by
  refine Met.ofW (cc := cc) (maxL := maxL) (ret := some (.object t)) hy hw ?_
  intro p e s m args below meth c s₁ B hml hv
  obtain ⟨rfl, hP, hK⟩ := hv
  refine ent_ls (k := fun g => W p l e rm s m As.toArray below meth c s.heap [] 0 0 (MQ below (va_Sq post) As.toArray s 0 0 (fun _ => False)) g) hlen (fun ls hl => ?_)
  refine body p e s m As.toArray below meth c _ B.exec B.bytes hml (findClass_of_methodNamed B.named) (atoms_spec (ws := wy) B.pre) hP hK (fun pc ls r v hd ev hp => ?_) ls hl
  subst ev
  exact W.aret B.exec B.bytes B.returns (Or.inl ⟨_, rfl⟩) (va_rf_or r) (fun t ht hW => ⟨r, rfl, hp, ht⟩) (fun q h => (List.not_mem_nil h).elim) hd B.notSynchronized
theorem wr_of_i {ws' : List Cond} {S0 : Type} {post : Int32 → S0 → Prop} {wf : S0 → va_W} {t : FieldType} (hy : plainName y.cls = true) (hw : wy = Cond.code y cc maxL (some t) :: ws') (hlen : (lg_sl As).length ≤ maxL) (ht : ∀ v : Int32, (v = 0 ∨ v = 1 ∨ t = .int) → narrow t (.int v) = .int v)
    (body : ∀ (p : Program) (e : Env) (s : State) (m : MethodId) (args : Array Value) (below : List Frame) (meth : Method) (c : Code) (Q : State → Prop) (A : Nat → Prop), p.tables.exec = Jvm.exec → c.code = cc → c.maxLocals = maxL → s.vm.findClass y.cls = some m.cls → (∀ w ∈ wy, w.before args s = true) → KK G s → SF G A s s.heap → (∀ q, s.heap.size ≤ q → A q) →
      (∀ (pc : Nat) (ls : Array Slot) (v : Int32) (H : Heap) (locs : List Loc) (cells slots : Nat) (u : S0), decode cc pc = .ok (.ireturn, 1) → (v = 0 ∨ v = 1 ∨ t = .int) → post v u → va_P G.1 vwCl (wf u) H → va_D A (wf u) → va_S A s.heap H locs → cells ≤ mc → slots ≤ ms → W p l e rm s m args below meth c H locs cells slots Q (F0 m pc ls [.int v])) →
      ∀ (ls : Array Slot), lv_has ls maxL (lv_args 0 As) → va_P G.1 vwCl wc s.heap → va_D A wc → va_S A s.heap s.heap [] → W p l e rm s m args below meth c s.heap [] 0 0 Q (F0 m 0 ls [])) : WrI l y wy rm G As wc post wf mc ms := by
  intro sz
  refine Met.ofW (cc := cc) (maxL := maxL) (ret := some t) hy hw ?_
  intro p e s m args below meth c s₁ B hml hv
  obtain ⟨rfl, hsz, hP, hK, hZ, hD⟩ := hv
  subst hsz
  refine ent_ls (k := fun g => W p l e rm s m As.toArray below meth c s.heap [] 0 0 (MQ below (va_Qi post (wrEnd G (va_A wc s.heap.size) wf) (va_A wc s.heap.size)) As.toArray s mc ms (va_A wc s.heap.size)) g) hlen (fun ls hl => ?_)
  refine body p e s m As.toArray below meth c _ (va_A wc s.heap.size) B.exec B.bytes hml (findClass_of_methodNamed B.named) (atoms_spec (ws := wy) B.pre) hK hZ (fun q h => Or.inr h) (fun pc ls v H locs cells slots u hd hv hp hP hD hS h1 h2 => ?_) ls hl hP hD.self va_S.rf
  refine W.widen h1 h2 ?_
  exact W.zret B.exec B.bytes B.returns (ht v hv) (fun t ht hW => ⟨⟨v, u, rfl, hp, by rw [ht]; exact hP, hD⟩, hS.F ht⟩) hS.2.2 hd B.notSynchronized
theorem wr_of_v {ws' : List Cond} {S0 : Type} {post : S0 → Prop} {wf : S0 → va_W} (hy : plainName y.cls = true) (hw : wy = Cond.code y cc maxL none :: ws') (hlen : (lg_sl As).length ≤ maxL)
    (body : ∀ (p : Program) (e : Env) (s : State) (m : MethodId) (args : Array Value) (below : List Frame) (meth : Method) (c : Code) (Q : State → Prop) (A : Nat → Prop), p.tables.exec = Jvm.exec → c.code = cc → c.maxLocals = maxL → s.vm.findClass y.cls = some m.cls → (∀ w ∈ wy, w.before args s = true) → KK G s → SF G A s s.heap → (∀ q, s.heap.size ≤ q → A q) → meth.name = y.name →
      (∀ (pc : Nat) (ls : Array Slot) (H : Heap) (locs : List Loc) (cells slots : Nat) (u : S0), decode cc pc = .ok (.return_, 1) → post u → va_P G.1 vwCl (wf u) H → va_D A (wf u) → va_S A s.heap H locs → cells ≤ mc → slots ≤ ms → W p l e rm s m args below meth c H locs cells slots Q (F0 m pc ls [])) →
      ∀ (ls : Array Slot), lv_has ls maxL (lv_args 0 As) → va_P G.1 vwCl wc s.heap → va_D A wc → va_S A s.heap s.heap [] → W p l e rm s m args below meth c s.heap [] 0 0 Q (F0 m 0 ls [])) : WrV l y wy rm G As wc post wf mc ms := by
  intro sz
  refine Met.ofW (cc := cc) (maxL := maxL) (ret := none) hy hw ?_
  intro p e s m args below meth c s₁ B hml hv
  obtain ⟨rfl, hsz, hP, hK, hZ, hD⟩ := hv
  subst hsz
  refine ent_ls (k := fun g => W p l e rm s m As.toArray below meth c s.heap [] 0 0 (MQ below (va_Qv post (wrEnd G (va_A wc s.heap.size) wf) (va_A wc s.heap.size)) As.toArray s mc ms (va_A wc s.heap.size)) g) hlen (fun ls hl => ?_)
  refine body p e s m As.toArray below meth c _ (va_A wc s.heap.size) B.exec B.bytes hml (findClass_of_methodNamed B.named) (atoms_spec (ws := wy) B.pre) hK hZ (fun q h => Or.inr h) (name_of_methodNamed B.named B.method).1 (fun pc ls H locs cells slots u hd hp hP hD hS h1 h2 => ?_) ls hl hP hD.self va_S.rf
  refine W.widen h1 h2 ?_
  exact W.vret B.exec B.bytes B.returns (fun t ht hW => ⟨⟨u, rfl, hp, by rw [ht]; exact hP, hD⟩, hS.F ht⟩) hS.2.2 hd B.notSynchronized
theorem wr_of_r {ws' : List Cond} {S0 : Type} {post : S0 → Prop} {wf : S0 → va_W} {ra : S0 → Nat} {t : FieldType} (hy : plainName y.cls = true) (hw : wy = Cond.code y cc maxL (some (.array t)) :: ws') (hlen : (lg_sl As).length ≤ maxL)
    (body : ∀ (p : Program) (e : Env) (s : State) (m : MethodId) (args : Array Value) (below : List Frame) (meth : Method) (c : Code) (Q : State → Prop) (A : Nat → Prop), p.tables.exec = Jvm.exec → c.code = cc → c.maxLocals = maxL → s.vm.findClass y.cls = some m.cls → (∀ w ∈ wy, w.before args s = true) → KK G s → SF G A s s.heap → (∀ q, s.heap.size ≤ q → A q) →
      (∀ (pc : Nat) (ls : Array Slot) (v : Value) (H : Heap) (locs : List Loc) (cells slots : Nat) (u : S0), decode cc pc = .ok (.areturn, 1) → v = .ref (ra u) → post u → va_P G.1 vwCl (wf u) H → va_D A (wf u) → va_S A s.heap H locs → cells ≤ mc → slots ≤ ms → W p l e rm s m args below meth c H locs cells slots Q (F0 m pc ls [v])) →
      ∀ (ls : Array Slot), lv_has ls maxL (lv_args 0 As) → va_P G.1 vwCl wc s.heap → va_D A wc → va_S A s.heap s.heap [] → W p l e rm s m args below meth c s.heap [] 0 0 Q (F0 m 0 ls [])) : WrR l y wy rm G As wc post wf ra mc ms := by
  intro sz
  refine Met.ofW (cc := cc) (maxL := maxL) (ret := some (.array t)) hy hw ?_
  intro p e s m args below meth c s₁ B hml hv
  obtain ⟨rfl, hsz, hP, hK, hZ, hD⟩ := hv
  subst hsz
  refine ent_ls (k := fun g => W p l e rm s m As.toArray below meth c s.heap [] 0 0 (MQ below (va_Qr post (fun u a t => a = ra u ∧ wrEnd G (va_A wc s.heap.size) wf u t) (va_A wc s.heap.size)) As.toArray s mc ms (va_A wc s.heap.size)) g) hlen (fun ls hl => ?_)
  refine body p e s m As.toArray below meth c _ (va_A wc s.heap.size) B.exec B.bytes hml (findClass_of_methodNamed B.named) (atoms_spec (ws := wy) B.pre) hK hZ (fun q h => Or.inr h) (fun pc ls v H locs cells slots u hd ev hp hP hD hS h1 h2 => ?_) ls hl hP hD.self va_S.rf
  subst ev
  refine W.widen h1 h2 ?_
  exact W.aret B.exec B.bytes B.returns (Or.inr ⟨_, rfl⟩) (Or.inr ⟨_, rfl⟩) (fun t ht hW => ⟨⟨u, ra u, rfl, hp, rfl, by rw [ht]; exact hP, hD⟩, hS.F ht⟩) hS.2.2 hd B.notSynchronized
-- a comparison of longs and its branch
theorem lc_lt (hx : p.tables.exec = Jvm.exec) (hb : c.code = cc) {x y : Int64} {off : Int} {tgt : Nat} (h1 : decode cc pc = .ok (.lcmp, 1)) (h2 : decode cc (pc + 1) = .ok (.ifCond .lt off, 3)) (ht : ((pc + 1 : Nat) : Int) + off = (tgt : Int))
    (kt : x < y → W p l e R s m args below meth c H locs cells slots Q (F0 m tgt ls rest)) (kf : ¬ x < y → W p l e R s m args below meth c H locs cells slots Q (F0 m (pc + 1 + 3) ls rest)) : W p l e R s m args below meth c H locs cells slots Q (F0 m pc ls (.long y :: .long x :: rest)) :=
  W.lcmp hx hb h1 (lv_if_lt hx hb h2 ht (fun c => kt ((lg_cmp_lt x y).mp c)) (fun c => kf (mt (lg_cmp_lt x y).mpr c)))
theorem lc_le (hx : p.tables.exec = Jvm.exec) (hb : c.code = cc) {x y : Int64} {off : Int} {tgt : Nat} (h1 : decode cc pc = .ok (.lcmp, 1)) (h2 : decode cc (pc + 1) = .ok (.ifCond .le off, 3)) (ht : ((pc + 1 : Nat) : Int) + off = (tgt : Int))
    (kt : x ≤ y → W p l e R s m args below meth c H locs cells slots Q (F0 m tgt ls rest)) (kf : ¬ x ≤ y → W p l e R s m args below meth c H locs cells slots Q (F0 m (pc + 1 + 3) ls rest)) : W p l e R s m args below meth c H locs cells slots Q (F0 m pc ls (.long y :: .long x :: rest)) :=
  W.lcmp hx hb h1 (lv_if_le hx hb h2 ht (fun c => kt ((lg_cmp_le x y).mp c)) (fun c => kf (mt (lg_cmp_le x y).mpr c)))
theorem lc_gt (hx : p.tables.exec = Jvm.exec) (hb : c.code = cc) {x y : Int64} {off : Int} {tgt : Nat} (h1 : decode cc pc = .ok (.lcmp, 1)) (h2 : decode cc (pc + 1) = .ok (.ifCond .gt off, 3)) (ht : ((pc + 1 : Nat) : Int) + off = (tgt : Int))
    (kt : y < x → W p l e R s m args below meth c H locs cells slots Q (F0 m tgt ls rest)) (kf : ¬ y < x → W p l e R s m args below meth c H locs cells slots Q (F0 m (pc + 1 + 3) ls rest)) : W p l e R s m args below meth c H locs cells slots Q (F0 m pc ls (.long y :: .long x :: rest)) :=
  W.lcmp hx hb h1 (lv_if_gt hx hb h2 ht (fun c => kt ((lg_cmp_gt x y).mp c)) (fun c => kf (mt (lg_cmp_gt x y).mpr c)))
theorem lc_ge (hx : p.tables.exec = Jvm.exec) (hb : c.code = cc) {x y : Int64} {off : Int} {tgt : Nat} (h1 : decode cc pc = .ok (.lcmp, 1)) (h2 : decode cc (pc + 1) = .ok (.ifCond .ge off, 3)) (ht : ((pc + 1 : Nat) : Int) + off = (tgt : Int))
    (kt : y ≤ x → W p l e R s m args below meth c H locs cells slots Q (F0 m tgt ls rest)) (kf : ¬ y ≤ x → W p l e R s m args below meth c H locs cells slots Q (F0 m (pc + 1 + 3) ls rest)) : W p l e R s m args below meth c H locs cells slots Q (F0 m pc ls (.long y :: .long x :: rest)) :=
  W.lcmp hx hb h1 (lv_if_ge hx hb h2 ht (fun c => kt ((lg_cmp_ge x y).mp c)) (fun c => kf (mt (lg_cmp_ge x y).mpr c)))
theorem lc_eq (hx : p.tables.exec = Jvm.exec) (hb : c.code = cc) {x y : Int64} {off : Int} {tgt : Nat} (h1 : decode cc pc = .ok (.lcmp, 1)) (h2 : decode cc (pc + 1) = .ok (.ifCond .eq off, 3)) (ht : ((pc + 1 : Nat) : Int) + off = (tgt : Int))
    (kt : x = y → W p l e R s m args below meth c H locs cells slots Q (F0 m tgt ls rest)) (kf : ¬ x = y → W p l e R s m args below meth c H locs cells slots Q (F0 m (pc + 1 + 3) ls rest)) : W p l e R s m args below meth c H locs cells slots Q (F0 m pc ls (.long y :: .long x :: rest)) :=
  W.lcmp hx hb h1 (lv_if_eq hx hb h2 ht (fun c => kt ((lg_cmp_eq x y).mp c)) (fun c => kf (mt (lg_cmp_eq x y).mpr c)))
theorem lc_ne (hx : p.tables.exec = Jvm.exec) (hb : c.code = cc) {x y : Int64} {off : Int} {tgt : Nat} (h1 : decode cc pc = .ok (.lcmp, 1)) (h2 : decode cc (pc + 1) = .ok (.ifCond .ne off, 3)) (ht : ((pc + 1 : Nat) : Int) + off = (tgt : Int))
    (kt : ¬ x = y → W p l e R s m args below meth c H locs cells slots Q (F0 m tgt ls rest)) (kf : x = y → W p l e R s m args below meth c H locs cells slots Q (F0 m (pc + 1 + 3) ls rest)) : W p l e R s m args below meth c H locs cells slots Q (F0 m pc ls (.long y :: .long x :: rest)) :=
  W.lcmp hx hb h1 (lv_if_ne hx hb h2 ht (fun c => kt (mt (lg_cmp_eq x y).mpr c)) (fun c => kf ((lg_cmp_eq x y).mp c)))
end BASEC
-- facts of ints as whole numbers
theorem ti_lt {x y : Int32} {a b : Int} (ha : x.toInt = a) (hb : y.toInt = b) : x < y ↔ a < b := by rw [fa_lt, ha, hb]
theorem ti_le {x y : Int32} {a b : Int} (ha : x.toInt = a) (hb : y.toInt = b) : x ≤ y ↔ a ≤ b := by rw [fa_le, ha, hb]
theorem ti_eq {x y : Int32} {a b : Int} (ha : x.toInt = a) (hb : y.toInt = b) : x = y ↔ a = b := by rw [fa_eq, ha, hb]
theorem tl_lt {x y : Int64} {a b : Int} (ha : x.toInt = a) (hb : y.toInt = b) : x < y ↔ a < b := by rw [fa_lt64, ha, hb]
theorem tl_le {x y : Int64} {a b : Int} (ha : x.toInt = a) (hb : y.toInt = b) : x ≤ y ↔ a ≤ b := by rw [fa_le64, ha, hb]
theorem tl_eq {x y : Int64} {a b : Int} (ha : x.toInt = a) (hb : y.toInt = b) : x = y ↔ a = b := by rw [fa_eq64, ha, hb]
theorem nar_int (v : Int32) (_ : v = 0 ∨ v = 1 ∨ FieldType.int = .int) : narrow .int (.int v) = .int v := rfl
theorem nar_bool (v : Int32) (h : v = 0 ∨ v = 1 ∨ FieldType.boolean = .int) : narrow .boolean (.int v) = .int v := by
  rcases h with rfl | rfl | h
  · rfl
  · rfl
  · cases h
