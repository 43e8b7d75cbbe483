/-! plain facts of the state's functions -/
theorem ff_found {p : Nat → Bool} {n j : Nat} (hj : j < n) (h : p j = true) (hb : ∀ i, i < j → p i = false) : fa_first p n = j := by
  have h1 := fa_first_le p n
  have h2 := fa_first_no p n
  rcases Nat.lt_trichotomy (fa_first p n) j with q | q | q
  · have h3 := fa_first_yes p n (by omega)
    rw [hb _ q] at h3
    cases h3
  · exact q
  · have h3 := h2 j q
    rw [h] at h3
    cases h3
theorem ff_none {p : Nat → Bool} {n : Nat} (hb : ∀ i, i < n → p i = false) : fa_first p n = n := by
  have h1 := fa_first_le p n
  rcases Nat.lt_or_ge (fa_first p n) n with q | q
  · have h3 := fa_first_yes p n q
    rw [hb _ q] at h3
    cases h3
  · omega
theorem ff_cong {p q : Nat → Bool} {n : Nat} (h : ∀ i, i < n → p i = q i) : fa_first p n = fa_first q n := by
  induction n with
  | zero => rfl
  | succ n ih =>
    have e := ih (fun i hi => h i (by omega))
    simp only [fa_first]
    rw [e, h n (by omega)]
theorem bst_no {σ : St} {a w k d : Int} {j : Nat} (h : ¬ mtC (sO σ j) a w k d) : bst σ a w k d (j + 1) = bst σ a w k d j := by
  rw [bst, if_neg h]
theorem bst_first {σ : St} {a w k d : Int} {j : Nat} (h : mtC (sO σ j) a w k d) (hb : bst σ a w k d j = none) : bst σ a w k d (j + 1) = some j := by
  rw [bst, if_pos h, hb]
theorem bst_up {σ : St} {a w k d : Int} {j b : Nat} (h : mtC (sO σ j) a w k d) (hb : bst σ a w k d j = some b) (hr : rkI σ b ≤ rkI σ j) : bst σ a w k d (j + 1) = some j := by
  rw [bst, if_pos h, hb]
  exact if_pos hr
theorem bst_keep {σ : St} {a w k d : Int} {j b : Nat} (h : mtC (sO σ j) a w k d) (hb : bst σ a w k d j = some b) (hr : ¬ rkI σ b ≤ rkI σ j) : bst σ a w k d (j + 1) = some b := by
  rw [bst, if_pos h, hb]
  exact if_neg hr
theorem bst_lt {σ : St} {a w k d : Int} : ∀ {j b : Nat}, bst σ a w k d j = some b → b < j := by
  intro j
  induction j with
  | zero => intro b h; cases h
  | succ j ih =>
    intro b h
    by_cases hm : mtC (sO σ j) a w k d
    · cases hb : bst σ a w k d j with
      | none =>
        rw [bst_first hm hb] at h
        cases h; omega
      | some b0 =>
        have h0 := ih hb
        by_cases hr : rkI σ b0 ≤ rkI σ j
        · rw [bst_up hm hb hr] at h
          cases h; omega
        · rw [bst_keep hm hb hr] at h
          cases h; omega
    · rw [bst_no hm] at h
      have := ih h
      omega
theorem cntL_y {σ : St} {t : Int} {k : Nat} (h : lapC t (sO σ k)) : cntL σ t (k + 1) = cntL σ t k + 1 := by rw [cntL, if_pos h]
theorem cntL_n {σ : St} {t : Int} {k : Nat} (h : ¬ lapC t (sO σ k)) : cntL σ t (k + 1) = cntL σ t k := by rw [cntL, if_neg h, Nat.add_zero]
theorem cntL_le {σ : St} {t : Int} : ∀ k : Nat, cntL σ t k ≤ k := by
  intro k
  induction k with
  | zero => exact Nat.le_refl 0
  | succ k ih =>
    by_cases h : lapC t (sO σ k)
    · rw [cntL_y h]; omega
    · rw [cntL_n h]; omega
theorem mvO_at {σ : St} {t : Int} {k : Nat} : mvO σ t k k = sO σ k := if_neg (Nat.lt_irrefl k)
theorem mvO_0 {σ : St} {t : Int} : mvO σ t 0 = sO σ := funext fun i => if_neg (Nat.not_lt_zero i)
theorem mvO_up {σ : St} {t : Int} {k : Nat} : va_up (mvO σ t k) k (lap1 t (mvO σ t k k)) = mvO σ t (k + 1) := by
  funext j
  by_cases e : j = k
  · subst e
    rw [va_up_self, mvO_at]
    exact (if_pos (Nat.lt_succ_self j)).symm
  · rw [va_up_ne _ _ e]
    unfold mvO
    by_cases c : j < k
    · rw [if_pos c, if_pos (by omega)]
    · rw [if_neg c, if_neg (by omega)]
theorem CW_ordD {G : GG} {A : Nat → Prop} {a : AD} {rl : Int32} {now : Int64} {rk pa rg : Nat → Int32} {oa : Nat → Nat} {od : Nat → Ord} {n : Nat} {L : va_W} {i : Nat} (h : va_D A (CW G a rl now rk pa rg (pO oa od n) L)) (hi : i < n) : va_D A [(oa i, .inr (1, fl (od i)))] := by
  refine ⟨fun x y p q hx hy _ => ?_, fun x q hx => ?_⟩
  · have h1 := (List.getElem?_eq_some_iff.mp hx).1
    have h2 := (List.getElem?_eq_some_iff.mp hy).1
    simp only [List.length_cons, List.length_nil] at h1 h2
    omega
  · have h1 := (List.getElem?_eq_some_iff.mp hx).1
    simp only [List.length_cons, List.length_nil] at h1
    have e : x = 0 := by omega
    subst e
    cases hx
    exact h.2 _ _ (CW_get hi)
-- what the calls keep
theorem OI_lap {t : Int} {o : Ord} {t0 : Int} (h : OI t0 o) (h1 : t0 ≤ t) (h2 : t ≤ 20000) : OI t (lap1 t o) := by
  unfold lap1
  by_cases c : lapC t o
  · rw [if_pos c]
    have e : (oM o + 15 : Int64).toInt = (oM o).toInt + 15 := by
      unfold OI at h
      exact tl_add rfl rfl (by omega) (by omega)
    unfold OI at h ⊢
    show _ ∧ _ ∧ _ ∧ _ ∧ _ ∧ _ ∧ _ ∧ _ ∧ _ ∧ _ ∧ 0 ≤ (oM o + 15 : Int64).toInt ∧ (oM o + 15 : Int64).toInt ≤ 20001 ∧ _
    rw [e]
    have c1 : (oM o).toInt + 14 < t := c.2.2
    refine ⟨h.1, h.2.1, h.2.2.1, h.2.2.2.1, h.2.2.2.2.1, h.2.2.2.2.2.1, h.2.2.2.2.2.2.1, h.2.2.2.2.2.2.2.1, h.2.2.2.2.2.2.2.2.1, Int.le_trans h.2.2.2.2.2.2.2.2.2.1 h1, by omega, by omega, h.2.2.2.2.2.2.2.2.2.2.2.2⟩
  · rw [if_neg c]
    unfold OI at h ⊢
    refine ⟨h.1, h.2.1, h.2.2.1, h.2.2.2.1, h.2.2.2.2.1, h.2.2.2.2.2.1, h.2.2.2.2.2.2.1, h.2.2.2.2.2.2.2.1, h.2.2.2.2.2.2.2.2.1, by omega, h.2.2.2.2.2.2.2.2.2.2.1, h.2.2.2.2.2.2.2.2.2.2.2.1, h.2.2.2.2.2.2.2.2.2.2.2.2⟩
theorem SI_mv {σ : St} {t : Int64} (h : SI σ) (hc : clk σ t) : SI (mvS σ t) := by
  obtain ⟨h1, h2, h3, h4, h5⟩ := h
  refine ⟨h1, hc.1, hc.2.1, fun i hi => ?_, h5⟩
  have e : mvO σ t.toInt (sN σ) i = lap1 t.toInt (sO σ i) := if_pos hi
  show OI t.toInt (mvO σ t.toInt (sN σ) i)
  rw [e]
  exact OI_lap (h4 i hi) hc.2.2 hc.2.1
theorem SI_put {σ : St} {i : Nat} {o : Ord} (h : SI σ) (ho : OI (sT σ).toInt o) : SI (sPut σ i o) := by
  obtain ⟨h1, h2, h3, h4, h5⟩ := h
  refine ⟨h1, h2, h3, fun j hj => ?_, h5⟩
  show OI (sT σ).toInt (va_up (sO σ) i o j)
  by_cases e : j = i
  · subst e; rw [va_up_self]; exact ho
  · rw [va_up_ne _ _ e]; exact h4 j hj
/-- the state while the clock is being set: the first k orders were looked at -/
abbrev mvK (σ : St) (t : Int64) (k : Nat) : St := (sN σ, mvO σ t.toInt k, t, sR σ, sG σ)
theorem CI_mvK {κ : KP} {σ : St} {t : Int64} {k : Nat} (h : CI κ σ) : CI κ (mvK σ t k) := h
theorem CI_put {κ : KP} {σ : St} {i : Nat} {o : Ord} (h : CI κ σ) : CI κ (sPut σ i o) := h
theorem CI_mv {κ : KP} {σ : St} {t : Int64} (h : CI κ σ) : CI κ (mvS σ t) := h
theorem tdL_y {σ : St} {s i : Int} {r k c : Nat} (h : tdC σ s k) (hc : (c : Int) = i) : tdL σ s i (r + 1) k c = nI (k + 1) := by rw [tdL, if_pos h, if_pos hc]
theorem tdL_m {σ : St} {s i : Int} {r k c : Nat} (h : tdC σ s k) (hc : ¬ (c : Int) = i) : tdL σ s i (r + 1) k c = tdL σ s i r (k + 1) (c + 1) := by rw [tdL, if_pos h, if_neg hc]
theorem tdL_n {σ : St} {s i : Int} {r k c : Nat} (h : ¬ tdC σ s k) : tdL σ s i (r + 1) k c = tdL σ s i r (k + 1) c := by rw [tdL, if_neg h]
theorem eff_ring {σ : St} {w k d : Int} {r : Nat} {q : List Int32} {a : Int32} (h : fst1 q a < q.length) : eff σ w k d (r + 1) q a = (-1, q.drop (fst1 q a)) := by rw [eff, if_pos h]
theorem eff_none {σ : St} {w k d : Int} {r : Nat} {q : List Int32} {a : Int32} (h : ¬ fst1 q a < q.length) (hb : bst σ a.toInt w k d (sN σ) = none) : eff σ w k d (r + 1) q a = (a, sG σ) := by rw [eff, if_neg h, hb]
theorem eff_go {σ : St} {w k d : Int} {r b : Nat} {q : List Int32} {a : Int32} (h : ¬ fst1 q a < q.length) (hb : bst σ a.toInt w k d (sN σ) = some b) (hk : (oK (sO σ b)).toInt < 3) : eff σ w k d (r + 1) q a = eff σ w k d r (q ++ [a]) (oT (sO σ b)) := by
  rw [eff, if_neg h, hb]
  exact if_pos hk
theorem eff_held {σ : St} {w k d : Int} {r b : Nat} {q : List Int32} {a : Int32} (h : ¬ fst1 q a < q.length) (hb : bst σ a.toInt w k d (sN σ) = some b) (hk : ¬ (oK (sO σ b)).toInt < 3) (h6 : (oK (sO σ b)).toInt < 6) : eff σ w k d (r + 1) q a = (0, sG σ) := by
  rw [eff, if_neg h, hb]
  exact (if_neg hk).trans (if_pos h6)
theorem eff_refused {σ : St} {w k d : Int} {r b : Nat} {q : List Int32} {a : Int32} (h : ¬ fst1 q a < q.length) (hb : bst σ a.toInt w k d (sN σ) = some b) (hk : ¬ (oK (sO σ b)).toInt < 3) (h6 : ¬ (oK (sO σ b)).toInt < 6) : eff σ w k d (r + 1) q a = (-2, sG σ) := by
  rw [eff, if_neg h, hb]
  exact (if_neg hk).trans (if_neg h6)
abbrev kPR (κ : KP) (p g : Nat → Int32) : KP := (κ.1, κ.2.1, κ.2.2.1, κ.2.2.2.1, κ.2.2.2.2.1, p, g)
theorem gD_app {q : List Int32} {a : Int32} {i : Nat} (h : i < q.length) : (q ++ [a]).getD i 0 = q.getD i 0 := by
  rw [List.getD_eq_getElem?_getD, List.getD_eq_getElem?_getD, List.getElem?_append_left h]
theorem gD_last {q : List Int32} {a : Int32} : (q ++ [a]).getD q.length 0 = a := by
  rw [List.getD_eq_getElem?_getD, List.getElem?_append_right (Nat.le_refl _), Nat.sub_self]
  rfl
theorem gD_drop {q : List Int32} {i m : Nat} : (q.drop i).getD m 0 = q.getD (i + m) 0 := by
  rw [List.getD_eq_getElem?_getD, List.getD_eq_getElem?_getD, List.getElem?_drop]
theorem len_app {q : List Int32} {a : Int32} : (q ++ [a]).length = q.length + 1 := by rw [List.length_append]; rfl
theorem fst1_eq {pa : Nat → Int32} {q : List Int32} {a : Int32} (h : ∀ i, i < q.length → pa i = q.getD i 0) : fa_first (fun j => decide (pa j = a)) q.length = fst1 q a := ff_cong fun i hi => by rw [h i hi]
theorem pa_app {pa : Nat → Int32} {q : List Int32} {a : Int32} (h : ∀ i, i < q.length → pa i = q.getD i 0) : ∀ i, i < (q ++ [a]).length → upd pa q.length a i = (q ++ [a]).getD i 0 := by
  intro i hi
  rw [len_app] at hi
  rcases Nat.lt_or_eq_of_le (Nat.lt_succ_iff.mp hi) with z | z
  · rw [pk_un (Nat.ne_of_lt z), gD_app z, h i z]
  · subst z
    rw [pk_us, gD_last]
theorem fEff_of {σ : St} {e w k v : Int32} {d : Int64} {g : List Int32} (h1 : ¬ (¬ (1 ≤ e.toInt ∧ e.toInt ≤ 99) ∨ ¬ (0 ≤ w.toInt ∧ w.toInt ≤ 49))) (h2 : ¬ (¬ (0 ≤ k.toInt ∧ k.toInt ≤ 2) ∨ ¬ (0 ≤ d.toInt ∧ d.toInt ≤ 20000))) (hE : eff σ w.toInt k.toInt d.toInt 100 [] e = (v, g)) : fEff σ e w k d = (v, sGs σ g) := by
  unfold fEff
  rw [if_neg h1, if_neg h2, hE]
theorem app_last {α : Type} {ws : List α} {x : α} : (ws ++ [x])[ws.length]? = some x := by
  rw [List.getElem?_append_right (Nat.le_refl _), Nat.sub_self]; rfl
theorem set_last {α : Type} {ws : List α} {x y : α} : (ws ++ [x]).set ws.length y = ws ++ [y] := by
  rw [List.set_append_right _ _ (Nat.le_refl _), Nat.sub_self]; rfl
theorem re_P {D : va_G} {cl : List vw_C} {H : Heap} {x y z : Nat × va_E} {tl : va_W} (h : va_P D cl (x :: y :: (tl ++ [z])) H) : va_P D cl (x :: z :: tl) H := by
  intro k q hq
  match k, hq with
  | 0, hq => exact h 0 q hq
  | 1, hq => exact h (tl.length + 2) q (by show (tl ++ [z])[tl.length]? = _; rw [app_last]; exact hq)
  | k + 2, hq =>
    have hq : tl[k]? = some q := hq
    exact h (k + 2) q (by show (tl ++ [z])[k]? = _; rw [List.getElem?_append_left (List.getElem?_eq_some_iff.mp hq).1]; exact hq)
theorem re_D {A : Nat → Prop} {x y z : Nat × va_E} {tl : va_W} (h : va_D A (x :: y :: (tl ++ [z]))) : va_D A (x :: z :: tl) := by
  refine h.by (fun k => if k = 0 then 0 else if k = 1 then tl.length + 2 else k) (fun k q hq => ?_) (fun i j hi hj e => ?_)
  · match k, hq with
    | 0, hq => exact hq
    | 1, hq => show (tl ++ [z])[tl.length]? = _; rw [app_last]; exact hq
    | k + 2, hq =>
      have hq : tl[k]? = some q := hq
      show (x :: y :: (tl ++ [z]))[if k + 2 = 0 then 0 else if k + 2 = 1 then tl.length + 2 else k + 2]? = _
      rw [if_neg (by omega), if_neg (by omega)]
      show (tl ++ [z])[k]? = _
      rw [List.getElem?_append_left (List.getElem?_eq_some_iff.mp hq).1]; exact hq
  · have hi : i < tl.length + 2 := hi
    have hj : j < tl.length + 2 := hj
    split at e <;> split at e <;> (try split at e) <;> (try split at e) <;> omega
theorem re0_P {D : va_G} {cl : List vw_C} {H : Heap} {x z : Nat × va_E} {tl : va_W} (h : va_P D cl (x :: (tl ++ [z])) H) : va_P D cl (x :: z :: tl) H := by
  intro k q hq
  match k, hq with
  | 0, hq => exact h 0 q hq
  | 1, hq => exact h (tl.length + 1) q (by show (tl ++ [z])[tl.length]? = _; rw [app_last]; exact hq)
  | k + 2, hq =>
    have hq : tl[k]? = some q := hq
    exact h (k + 1) q (by show (tl ++ [z])[k]? = _; rw [List.getElem?_append_left (List.getElem?_eq_some_iff.mp hq).1]; exact hq)
theorem re0_D {A : Nat → Prop} {x z : Nat × va_E} {tl : va_W} (h : va_D A (x :: (tl ++ [z]))) : va_D A (x :: z :: tl) := by
  refine h.by (fun k => if k = 0 then 0 else if k = 1 then tl.length + 1 else k - 1) (fun k q hq => ?_) (fun i j hi hj e => ?_)
  · match k, hq with
    | 0, hq => exact hq
    | 1, hq => show (tl ++ [z])[tl.length]? = _; rw [app_last]; exact hq
    | k + 2, hq =>
      have hq : tl[k]? = some q := hq
      show (x :: (tl ++ [z]))[if k + 2 = 0 then 0 else if k + 2 = 1 then tl.length + 1 else k + 2 - 1]? = _
      rw [if_neg (by omega), if_neg (by omega)]
      show (tl ++ [z])[k]? = _
      rw [List.getElem?_append_left (List.getElem?_eq_some_iff.mp hq).1]; exact hq
  · have hi : i < tl.length + 2 := hi
    have hj : j < tl.length + 2 := hj
    split at e <;> split at e <;> (try split at e) <;> (try split at e) <;> omega
theorem ti_shr1 {x : Int32} {k : Nat} (h : x.toInt = (k : Int)) : (x >>> ((1 : Int32) &&& 31)).toInt = ((k / 2 : Nat) : Int) := by
  have hr := fb_rng x
  have e := pk_shrN (n := k) (by omega) ((1 : Int32) &&& 31) 1 (by decide)
  rw [Nat.pow_one] at e
  rw [nI_ofI h, e, ti_nI (by omega)]
theorem mxi_if (x y : Int32) : (if x < y then y else x).toInt = if x.toInt < y.toInt then y.toInt else x.toInt := by
  by_cases c : x < y
  · have h := (fa_lt x y).mp c
    rw [if_pos c, if_pos h]
  · have h := mt (fa_lt x y).mpr c
    rw [if_neg c, if_neg h]
theorem mni_if (x y : Int32) : (if y < x then y else x).toInt = if y.toInt < x.toInt then y.toInt else x.toInt := by
  by_cases c : y < x
  · have h := (fa_lt y x).mp c
    rw [if_pos c, if_pos h]
  · have h := mt (fa_lt y x).mpr c
    rw [if_neg c, if_neg h]
theorem arr_recv {G : GG} {s : State} {H : Heap} {a2 N : Nat} {f : Nat → Option Nat} {ws : va_W} (hK : KK G s) (hP : va_P G.1 vwCl ws H) (h0 : ws[0]? = some (aO G a2 N f)) : ∃ cell : Cell, H[a2]? = some cell ∧ cell.vm.isStatics = false ∧ s.vm.findClass "[Ljava/lang/Object;" = some cell.cls :=
  ⟨_, hP 0 _ h0, rfl, va_nmO (hK.1.2 3 _ rfl).2 (by decide +kernel)⟩
theorem ord_any {G : GG} {s : State} {H : Heap} {v j : Nat} {fs : List Value} {ws : va_W} (hK : KK G s) (hP : va_P G.1 vwCl ws H) (h : ws[j]? = some (v, .inr (1, fs))) : va_Any "java/lang/Object" s H v :=
  va_rAny hK.1 hP h (r := (RX0, TX0, 9)) rfl (vb_asgC hK.2.2.2.2.1)
def CX (G : GG) (a : AD) (rl : Int32) (now : Int64) (rk pa rg : Nat → Int32) : va_W := [(a.1, .inr (2, [.ref a.2.1, .ref a.2.2.1, .ref a.2.2.2.1, .ref a.2.2.2.2, .int rl, .long now])), aI G a.2.2.1 9 rk, aI G a.2.2.2.1 100 pa, aI G a.2.2.2.2 99 rg]
theorem ord_D {A : Nat → Prop} {x pl L nw : va_W} (h : va_D A ((x ++ (pl ++ L)) ++ nw)) : va_D A (x ++ (L ++ (pl ++ nw))) := by
  rw [← List.append_assoc] at h
  have h1 := va_D.swap h
  rw [List.append_assoc x pl nw] at h1
  have h2 := va_D.swap h1
  rw [List.append_assoc] at h2
  exact h2
theorem ord_P {D : va_G} {cl : List vw_C} {H : Heap} {x pl L nw : va_W} (h : va_P D cl ((x ++ (pl ++ L)) ++ nw) H) : va_P D cl (x ++ (L ++ (pl ++ nw))) H :=
  va_P.app h.left.left (va_P.app h.left.right.right (va_P.app h.left.right.left h.right))
theorem back_D {A : Nat → Prop} {x L tl : va_W} (h : va_D A (x ++ (L ++ tl))) : va_D A (x ++ (tl ++ L)) := by
  rw [← List.append_assoc] at h
  have h1 := va_D.swap h
  rw [List.append_assoc] at h1
  exact h1
theorem back_P {D : va_G} {cl : List vw_C} {H : Heap} {x L tl : va_W} (h : va_P D cl (x ++ (L ++ tl)) H) : va_P D cl (x ++ (tl ++ L)) H := va_P.app h.left h.right.comm
abbrev kNew (κ : KP) (ux : Int32 × Nat × Nat × (Nat → Option Nat)) (n q : Nat) : KP := (ux.1, ux.2.1, ux.2.2.1, ux.2.2.2, va_up κ.2.2.2.2.1 n q, κ.2.2.2.2.2.1, κ.2.2.2.2.2.2)
theorem tl_get {oa : Nat → Nat} {od : Nat → Ord} {n i : Nat} {nw : va_W} (h : i < n) : (pO oa od n ++ nw)[i]? = some (oa i, .inr (1, fl (od i))) := by
  rw [List.getElem?_append_left (by rw [pO_len]; exact h)]; exact pO_get h
theorem tl_new {oa : Nat → Nat} {od : Nat → Ord} {n : Nat} {x : Nat × va_E} : (pO oa od n ++ [x])[n]? = some x := by
  have h := app_last (ws := pO oa od n) (x := x)
  rw [pO_len] at h
  exact h
theorem CI_new {κ : KP} {σ : St} {ux : Int32 × Nat × Nat × (Nat → Option Nat)} {q : Nat} {o : Ord} (hC : CI κ σ) (h1 : sN σ + 1 ≤ ux.2.2.1) (h2 : ux.2.2.1 ≤ 400) (h3 : ux.2.2.2 (sN σ) = some q) (h4 : ∀ i, i < sN σ → ux.2.2.2 i = some (κ.2.2.2.2.1 i)) : CI (kNew κ ux (sN σ) q) (sN σ + 1, va_up (sO σ) (sN σ) o, sT σ, sR σ, sG σ) := by
  refine ⟨fun _ => ⟨h1, h2, fun i hi => ?_⟩, hC.2⟩
  show ux.2.2.2 i = some (va_up κ.2.2.2.2.1 (sN σ) q i)
  rcases Nat.lt_or_eq_of_le (Nat.lt_succ_iff.mp hi) with z | z
  · rw [va_up_ne _ _ (Nat.ne_of_lt z)]; exact h4 i z
  · rw [z, va_up_self]; exact h3
abbrev κ0 : KP := (0, 0, 0, fun _ => none, fun _ => 0, fun _ => 0, fun _ => 0)
abbrev σ0 : St := (0, fun _ => (0, 0, 0, 0, 0, 0, 0, 0, 0), 0, fun _ => 0, [])
