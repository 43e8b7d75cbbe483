/-! plain facts for the reference: the order that counts, found from the last on; its rows; ways and the number of addresses -/
def oN (x : Option Nat) : Nat := match x with
  | none => 0
  | some b => b + 1
def IsB (σ : St) (a w k d : Int) (lo hi : Nat) (x : Option Nat) : Prop := match x with
  | none => ∀ i, lo ≤ i → i < hi → ¬ mtC (sO σ i) a w k d
  | some b => lo ≤ b ∧ b < hi ∧ mtC (sO σ b) a w k d ∧ ∀ i, lo ≤ i → i < hi → mtC (sO σ i) a w k d → rkI σ i ≤ rkI σ b ∧ (b < i → rkI σ i < rkI σ b)
theorem bst_isB {σ : St} {a w k d : Int} : ∀ j : Nat, IsB σ a w k d 0 j (bst σ a w k d j) := by
  intro j
  induction j with
  | zero => exact fun i _ h => absurd h (Nat.not_lt_zero i)
  | succ j ih =>
    by_cases hm : mtC (sO σ j) a w k d
    · cases hb : bst σ a w k d j with
      | none =>
        rw [hb] at ih
        rw [bst_first hm hb]
        refine ⟨Nat.zero_le _, Nat.lt_succ_self j, hm, fun i _ hi hmi => ?_⟩
        rcases Nat.lt_or_eq_of_le (Nat.lt_succ_iff.mp hi) with z | z
        · exact absurd hmi (ih i (Nat.zero_le _) z)
        · subst z; exact ⟨Int.le_refl _, fun h => absurd h (Nat.lt_irrefl _)⟩
      | some b =>
        rw [hb] at ih
        obtain ⟨h1, h2, h3, h4⟩ := ih
        by_cases hr : rkI σ b ≤ rkI σ j
        · rw [bst_up hm hb hr]
          refine ⟨Nat.zero_le _, Nat.lt_succ_self j, hm, fun i _ hi hmi => ?_⟩
          rcases Nat.lt_or_eq_of_le (Nat.lt_succ_iff.mp hi) with z | z
          · exact ⟨Int.le_trans (h4 i (Nat.zero_le _) z hmi).1 hr, fun h => absurd h (by omega)⟩
          · subst z; exact ⟨Int.le_refl _, fun h => absurd h (Nat.lt_irrefl _)⟩
        · rw [bst_keep hm hb hr]
          refine ⟨h1, Nat.lt_succ_of_lt h2, h3, fun i _ hi hmi => ?_⟩
          rcases Nat.lt_or_eq_of_le (Nat.lt_succ_iff.mp hi) with z | z
          · exact h4 i (Nat.zero_le _) z hmi
          · subst z; exact ⟨Int.le_of_lt (Int.not_le.mp hr), fun _ => Int.not_le.mp hr⟩
    · rw [bst_no hm]
      cases hb : bst σ a w k d j with
      | none =>
        rw [hb] at ih
        intro i _ hi
        rcases Nat.lt_or_eq_of_le (Nat.lt_succ_iff.mp hi) with z | z
        · exact ih i (Nat.zero_le _) z
        · subst z; exact hm
      | some b =>
        rw [hb] at ih
        obtain ⟨h1, h2, h3, h4⟩ := ih
        refine ⟨h1, Nat.lt_succ_of_lt h2, h3, fun i _ hi hmi => ?_⟩
        rcases Nat.lt_or_eq_of_le (Nat.lt_succ_iff.mp hi) with z | z
        · exact h4 i (Nat.zero_le _) z hmi
        · subst z; exact absurd hmi hm
theorem IsB_uniq {σ : St} {a w k d : Int} {lo hi : Nat} {x y : Option Nat} (hx : IsB σ a w k d lo hi x) (hy : IsB σ a w k d lo hi y) : x = y := by
  cases x with
  | none =>
    cases y with
    | none => rfl
    | some b => exact absurd hy.2.2.1 (hx b hy.1 hy.2.1)
  | some c =>
    cases y with
    | none => exact absurd hx.2.2.1 (hy c hx.1 hx.2.1)
    | some b =>
      have h1 := hx.2.2.2 b hy.1 hy.2.1 hy.2.2.1
      have h2 := hy.2.2.2 c hx.1 hx.2.1 hx.2.2.1
      rcases Nat.lt_trichotomy c b with z | z | z
      · have := h1.2 z; have := h2.1; omega
      · rw [z]
      · have := h2.2 z; have := h1.1; omega
theorem IsB_nil {σ : St} {a w k d : Int} {n : Nat} : IsB σ a w k d n n none := fun i h1 h2 => absurd h2 (by omega)
theorem IsB_no {σ : St} {a w k d : Int} {j n : Nat} {x : Option Nat} (h : IsB σ a w k d (j + 1) n x) (hm : ¬ mtC (sO σ j) a w k d) : IsB σ a w k d j n x := by
  cases x with
  | none =>
    intro i h1 h2
    rcases Nat.lt_or_eq_of_le h1 with z | z
    · exact h i z h2
    · subst z; exact hm
  | some b =>
    refine ⟨by have := h.1; omega, h.2.1, h.2.2.1, fun i h1 h2 hmi => ?_⟩
    rcases Nat.lt_or_eq_of_le h1 with z | z
    · exact h.2.2.2 i z h2 hmi
    · subst z; exact absurd hmi hm
theorem IsB_first {σ : St} {a w k d : Int} {j n : Nat} (h : IsB σ a w k d (j + 1) n none) (hj : j < n) (hm : mtC (sO σ j) a w k d) : IsB σ a w k d j n (some j) := by
  refine ⟨Nat.le_refl _, hj, hm, fun i h1 h2 hmi => ?_⟩
  rcases Nat.lt_or_eq_of_le h1 with z | z
  · exact absurd hmi (h i z h2)
  · subst z; exact ⟨Int.le_refl _, fun h => absurd h (Nat.lt_irrefl _)⟩
theorem IsB_rep {σ : St} {a w k d : Int} {j n b : Nat} (h : IsB σ a w k d (j + 1) n (some b)) (hj : j < n) (hm : mtC (sO σ j) a w k d) (hr : rkI σ b < rkI σ j) : IsB σ a w k d j n (some j) := by
  refine ⟨Nat.le_refl _, hj, hm, fun i h1 h2 hmi => ?_⟩
  rcases Nat.lt_or_eq_of_le h1 with z | z
  · have := (h.2.2.2 i z h2 hmi).1
    exact ⟨by omega, fun _ => by omega⟩
  · subst z; exact ⟨Int.le_refl _, fun h => absurd h (Nat.lt_irrefl _)⟩
theorem IsB_keep {σ : St} {a w k d : Int} {j n b : Nat} (h : IsB σ a w k d (j + 1) n (some b)) (hr : ¬ rkI σ b < rkI σ j) : IsB σ a w k d j n (some b) := by
  refine ⟨by have := h.1; omega, h.2.1, h.2.2.1, fun i h1 h2 hmi => ?_⟩
  rcases Nat.lt_or_eq_of_le h1 with z | z
  · exact h.2.2.2 i z h2 hmi
  · subst z
    have := h.1
    exact ⟨by omega, fun q => absurd q (by omega)⟩
theorem XI_i {x y : Int64} (h : XI x y) : (x.toInt = 20001 ∧ y.toInt = -1) ∨ (x.toInt ≠ 20001 ∧ y.toInt = x.toInt) := by
  rcases h with ⟨h1, h2⟩ | ⟨h1, h2⟩
  · exact Or.inl ⟨h1, h2⟩
  · exact Or.inr ⟨h1, by rw [h2]⟩
abbrev mX (μ : MP) (g : Nat → Int64) : MP := (μ.1, μ.2.1, μ.2.2.1, μ.2.2.2.1, μ.2.2.2.2.1, μ.2.2.2.2.2.1, μ.2.2.2.2.2.2.1, μ.2.2.2.2.2.2.2.1, g, μ.2.2.2.2.2.2.2.2.2.1, μ.2.2.2.2.2.2.2.2.2.2)
abbrev mV (μ : MP) (g : Nat → Int32) : MP := (μ.1, μ.2.1, μ.2.2.1, μ.2.2.2.1, μ.2.2.2.2.1, μ.2.2.2.2.2.1, μ.2.2.2.2.2.2.1, g, μ.2.2.2.2.2.2.2.2.1, μ.2.2.2.2.2.2.2.2.2.1, μ.2.2.2.2.2.2.2.2.2.2)
abbrev mU (μ : MP) (g : Nat → Int64) : MP := (μ.1, μ.2.1, μ.2.2.1, μ.2.2.2.1, μ.2.2.2.2.1, g, μ.2.2.2.2.2.2.1, μ.2.2.2.2.2.2.2.1, μ.2.2.2.2.2.2.2.2.1, μ.2.2.2.2.2.2.2.2.2.1, μ.2.2.2.2.2.2.2.2.2.2)
abbrev mWG (μ : MP) (w g : Nat → Int32) : MP := (μ.1, μ.2.1, μ.2.2.1, μ.2.2.2.1, μ.2.2.2.2.1, μ.2.2.2.2.2.1, μ.2.2.2.2.2.2.1, μ.2.2.2.2.2.2.2.1, μ.2.2.2.2.2.2.2.2.1, w, g)
theorem lap1_or (t : Int) (o : Ord) : lap1 t o = o ∨ lap1 t o = oSX o (oM o + 15) := by
  by_cases h : lapC t o
  · exact Or.inr (if_pos h)
  · exact Or.inl (if_neg h)
theorem MI_mv {μ : MP} {σ : St} {t : Int64} {g : Nat → Int64} (hM : MI μ σ) (hg : ∀ j, j < sN σ → XI (oX (mvO σ t.toInt (sN σ) j)) (g (j + 1))) : MI (mX μ g) (mvS σ t) := by
  refine ⟨fun i hi => ?_, hM.2.1, hM.2.2⟩
  have h := hM.1 i hi
  have hx := hg i hi
  have e : mvO σ t.toInt (sN σ) i = lap1 t.toInt (sO σ i) := if_pos hi
  show MO (mX μ g) (i + 1) (mvO σ t.toInt (sN σ) i)
  obtain ⟨h1, h2, h3, h4, h5, h6, h7, h8, -⟩ := h
  refine ⟨?_, ?_, ?_, ?_, ?_, ?_, ?_, ?_, hx⟩ <;> rw [e] <;> rcases lap1_or t.toInt (sO σ i) with q | q <;> rw [q] <;> assumption
theorem MI_upd {μ μ' : MP} {σ : St} {i : Nat} {o : Ord} (hM : MI μ σ) (hs : ∀ (j : Nat) (o : Ord), j ≠ i + 1 → MO μ j o → MO μ' j o) (hn : MO μ' (i + 1) o) (hv : ∀ j, sN σ < j → uV μ' j = uV μ j) (hg : uG μ' = uG μ) : MI μ' (sPut σ i o) := by
  refine ⟨fun j hj => ?_, fun j hj => (hv j hj).trans (hM.2.1 j hj), fun j hj => by rw [hg]; exact hM.2.2 j hj⟩
  show MO μ' (j + 1) (va_up (sO σ) i o j)
  by_cases e : j = i
  · subst e; rw [va_up_self]; exact hn
  · rw [va_up_ne _ _ e]
    exact hs _ _ (by omega) (hM.1 j hj)
theorem mvO_ne {σ : St} {t : Int} {i j : Nat} (h : j ≠ i) : mvO σ t (i + 1) j = mvO σ t i j := by
  unfold mvO
  by_cases c : j < i
  · rw [if_pos c, if_pos (by omega)]
  · rw [if_neg c, if_neg (by omega)]
theorem mvO_in {σ : St} {t : Int} {i : Nat} : mvO σ t (i + 1) i = lap1 t (sO σ i) := if_pos (Nat.lt_succ_self i)
-- ways: addresses that differ are at most 99
def AdOk (x : Int32) : Prop := 1 ≤ x.toInt ∧ x.toInt ≤ 99
theorem way_len {q : List Int32} (h1 : ∀ i, i < q.length → AdOk (q.getD i 0)) (h2 : ∀ i j, i < j → j < q.length → q.getD i 0 ≠ q.getD j 0) : q.length ≤ 99 := by
  refine fb_holes 99 q.length (fun i => (q.getD i 0).toInt.toNat - 1) (fun i hi => ?_) (fun i j hij hj => ?_)
  · have := h1 i hi
    unfold AdOk at this
    show (q.getD i 0).toInt.toNat - 1 < 99
    omega
  · have a1 := h1 i (by omega)
    have a2 := h1 j hj
    have a3 := h2 i j hij hj
    unfold AdOk at a1 a2
    intro e
    have e : (q.getD i 0).toInt.toNat - 1 = (q.getD j 0).toInt.toNat - 1 := e
    exact a3 (ti_inj (by omega))
theorem way_ok {q : List Int32} {a : Int32} (h1 : ∀ i, i < q.length → AdOk (q.getD i 0)) (ha : AdOk a) : ∀ i, i < (q ++ [a]).length → AdOk ((q ++ [a]).getD i 0) := by
  intro i hi
  rw [len_app] at hi
  rcases Nat.lt_or_eq_of_le (Nat.lt_succ_iff.mp hi) with z | z
  · rw [gD_app z]; exact h1 i z
  · rw [z, gD_last]; exact ha
theorem fst1_no {q : List Int32} {a : Int32} {i : Nat} (h : i < fst1 q a) : q.getD i 0 ≠ a := by
  have := fa_first_no (fun j => decide (q.getD j 0 = a)) q.length i h
  exact of_decide_eq_false this
theorem fst1_yes {q : List Int32} {a : Int32} (h : fst1 q a < q.length) : q.getD (fst1 q a) 0 = a := by
  have := fa_first_yes (fun j => decide (q.getD j 0 = a)) q.length h
  exact of_decide_eq_true this
theorem way_ne {q : List Int32} {a : Int32} (h2 : ∀ i j, i < j → j < q.length → q.getD i 0 ≠ q.getD j 0) (ha : ¬ fst1 q a < q.length) : ∀ i j, i < j → j < (q ++ [a]).length → (q ++ [a]).getD i 0 ≠ (q ++ [a]).getD j 0 := by
  intro i j hij hj
  rw [len_app] at hj
  rcases Nat.lt_or_eq_of_le (Nat.lt_succ_iff.mp hj) with z | z
  · rw [gD_app z, gD_app (by omega)]; exact h2 i j hij z
  · subst z
    rw [gD_last, gD_app (by omega)]
    exact fst1_no (by omega)
theorem OI_to {t : Int} {o : Ord} (h : OI t o) (hk : (oK o).toInt < 3) : AdOk (oT o) := h.2.2.1 hk
theorem MI_new {μ μ' : MP} {σ : St} {o : Ord} (hM : MI μ σ) (hs : ∀ (j : Nat) (o : Ord), j ≠ sN σ + 1 → MO μ j o → MO μ' j o) (hn : MO μ' (sN σ + 1) o) (hv : uV μ' = uV μ) (hg : uG μ' = uG μ) : MI μ' (sN σ + 1, va_up (sO σ) (sN σ) o, sT σ, sR σ, sG σ) := by
  refine ⟨fun j hj => ?_, fun j hj => by rw [hv]; exact hM.2.1 j (by have hj : sN σ + 1 < j := hj; omega), fun j hj => by rw [hg]; exact hM.2.2 j hj⟩
  show MO μ' (j + 1) (va_up (sO σ) (sN σ) o j)
  have hj : j < sN σ + 1 := hj
  by_cases e : j = sN σ
  · rw [e, va_up_self]; exact hn
  · rw [va_up_ne _ _ e]
    exact hs _ _ (by omega) (hM.1 j (by omega))
theorem MI_W {μ : MP} {σ : St} (w : Nat → Int32) (h : MI μ σ) : MI (mWG μ w (uG μ)) σ := h
theorem upL_self {f : Nat → Int64} {k : Nat} : vp_updL f k (f k) = f := by
  funext j
  by_cases z : j = k
  · rw [z, pk_uLs]
  · rw [pk_uLn z]
theorem mx_or {a t mx : Int} (h : mx = if a < t then t else a) : (a < t ∧ mx = t) ∨ (¬ a < t ∧ mx = a) := by
  by_cases c : a < t
  · exact Or.inl ⟨c, h.trans (if_pos c)⟩
  · exact Or.inr ⟨c, h.trans (if_neg c)⟩
abbrev μ0 : MP := (fun _ => 0, fun _ => 0, fun _ => 0, fun _ => 0, fun _ => 0, fun _ => 0, fun _ => 0, fun _ => 0, fun _ => 0, fun _ => 0, fun _ => 0)
theorem SI_0 : SI σ0 := ⟨Nat.zero_le _, Int.le_refl _, by decide, fun i hi => absurd hi (Nat.not_lt_zero i), Nat.zero_le _⟩
theorem CI_0 : CI κ0 σ0 := ⟨fun h => absurd h (Nat.lt_irrefl 0), fun i hi => absurd hi (Nat.not_lt_zero i)⟩
theorem MI_0 : MI μ0 σ0 := ⟨fun i hi => absurd hi (Nat.not_lt_zero i), fun _ _ => rfl, fun i hi => absurd hi (Nat.not_lt_zero i)⟩
theorem CI_tick {κ : KP} {σ : St} {t : Int64} (h : CI κ σ) : CI κ (fTick σ t).2 := by
  unfold fTick
  split
  · exact h
  · exact h
theorem SI_tick {σ : St} {t : Int64} (h : SI σ) : SI (fTick σ t).2 := by
  unfold fTick
  split
  · exact h
  · rename_i hc
    exact SI_mv h (Decidable.not_not.mp hc)
theorem CI_rank {κ : KP} {σ : St} {k r : Int32} (h : CI κ σ) : CI κ (fRank σ k r).2 := by
  unfold fRank
  split
  · exact h
  · exact h
theorem SI_rank {σ : St} {k r : Int32} (h : SI σ) : SI (fRank σ k r).2 := by
  unfold fRank
  split
  · exact h
  · exact h
theorem CI_extend {κ : KP} {σ : St} {o : Int32} {u : Int64} (h : CI κ σ) : CI κ (fExtend σ o u).2 := by
  unfold fExtend
  split
  · exact h
  · split
    · exact h
    · split
      · exact h
      · split
        · exact h
        · exact h
theorem SI_extend {σ : St} {o : Int32} {u : Int64} (h : SI σ) : SI (fExtend σ o u).2 := by
  unfold fExtend
  split
  · exact h
  · rename_i ho
    split
    · exact h
    · rename_i hu
      split
      · exact h
      · split
        · exact h
        · rename_i hl
          have ho2 := h.2.2.2.1 (oi o) (by show (o.toInt - 1).toNat < sN σ; have h9 : 1 ≤ o.toInt ∧ o.toInt ≤ ((sN σ : Nat) : Int) := Decidable.not_not.mp ho; omega)
          unfold OI at ho2
          refine SI_put h ?_
          unfold OI
          refine ⟨ho2.1, ho2.2.1, ho2.2.2.1, ho2.2.2.2.1, ho2.2.2.2.2.1, ho2.2.2.2.2.2.1, ?_, ?_, ho2.2.2.2.2.2.2.2.2.1, ho2.2.2.2.2.2.2.2.2.2.1, ho2.2.2.2.2.2.2.2.2.2.2.1, ho2.2.2.2.2.2.2.2.2.2.2.2.1, ho2.2.2.2.2.2.2.2.2.2.2.2.2⟩
          · show (oF (sO σ (oi o))).toInt ≤ u.toInt; omega
          · show u.toInt ≤ 20000; omega
theorem OI_X {t : Int} {o : Ord} {x : Int64} (h : OI t o) (h1 : 0 ≤ x.toInt) (h2 : x.toInt ≤ 20001) : OI t (oSX o x) := by
  unfold OI at h ⊢
  exact ⟨h.1, h.2.1, h.2.2.1, h.2.2.2.1, h.2.2.2.2.1, h.2.2.2.2.2.1, h.2.2.2.2.2.2.1, h.2.2.2.2.2.2.2.1, h.2.2.2.2.2.2.2.2.1, h.2.2.2.2.2.2.2.2.2.1, h1, h2, h.2.2.2.2.2.2.2.2.2.2.2.2⟩
theorem OI_P {t : Int} {o : Ord} (h : OI t o) : OI t (oSP o 1) := by
  unfold OI at h ⊢
  exact ⟨h.1, h.2.1, h.2.2.1, h.2.2.2.1, h.2.2.2.2.1, h.2.2.2.2.2.1, h.2.2.2.2.2.2.1, h.2.2.2.2.2.2.2.1, h.2.2.2.2.2.2.2.2.1, h.2.2.2.2.2.2.2.2.2.1, h.2.2.2.2.2.2.2.2.2.2.1, h.2.2.2.2.2.2.2.2.2.2.2.1, Or.inr rfl⟩
theorem oi_lt {σ : St} {o : Int32} (ho : ¬ ¬ isO σ o) : oi o < sN σ := by
  have h9 : 1 ≤ o.toInt ∧ o.toInt ≤ ((sN σ : Nat) : Int) := Decidable.not_not.mp ho
  show (o.toInt - 1).toNat < sN σ
  omega
theorem CI_withdraw {κ : KP} {σ : St} {o : Int32} {t : Int64} (h : CI κ σ) : CI κ (fWithdraw σ o t).2 := by
  unfold fWithdraw
  split
  · exact h
  · split
    · exact h
    · split
      · exact h
      · exact h
theorem SI_withdraw {σ : St} {o : Int32} {t : Int64} (h : SI σ) : SI (fWithdraw σ o t).2 := by
  unfold fWithdraw
  split
  · exact h
  · rename_i ho
    split
    · exact h
    · rename_i hc
      have hc2 := Decidable.not_not.mp hc
      have h1 := SI_mv h hc2
      split
      · exact h1
      · refine SI_put h1 (OI_X (h1.2.2.2.1 _ (oi_lt ho)) hc2.1 ?_)
        have := hc2.2.1
        omega
theorem CI_proof {κ : KP} {σ : St} {o g : Int32} {t : Int64} (h : CI κ σ) : CI κ (fProof σ o g t).2 := by
  unfold fProof
  split
  · exact h
  · split
    · exact h
    · split
      · exact h
      · split
        · exact h
        · exact h
theorem SI_proof {σ : St} {o g : Int32} {t : Int64} (h : SI σ) : SI (fProof σ o g t).2 := by
  unfold fProof
  split
  · exact h
  · rename_i ho
    split
    · exact h
    · rename_i hc
      have hc2 := Decidable.not_not.mp hc
      have h1 := SI_mv h hc2
      split
      · exact h1
      · split
        · refine SI_put h1 (OI_X (h1.2.2.2.1 _ (oi_lt ho)) hc2.1 ?_)
          have := hc2.2.1
          omega
        · exact SI_put h1 (OI_P (h1.2.2.2.1 _ (oi_lt ho)))
theorem SI_order {σ : St} {k e w t : Int32} {f u : Int64} (h : SI σ) : SI (fOrder σ k e w t f u).2 := by
  unfold fOrder
  split
  · exact h
  · rename_i c1
    split
    · exact h
    · rename_i c2
      split
      · exact h
      · rename_i c3
        obtain ⟨h1, h2, h3, h4, h5⟩ := h
        refine ⟨by show sN σ + 1 ≤ 200; omega, h2, h3, fun i hi => ?_, h5⟩
        have hi : i < sN σ + 1 := hi
        show OI (sT σ).toInt (va_up (sO σ) (sN σ) (k, e, w, t, f, sT σ, u, 20001, 0) i)
        by_cases ei : i = sN σ
        · subst ei
          rw [va_up_self]
          unfold OI
          refine ⟨?_, ?_, ?_, ?_, ?_, ?_, ?_, ?_, h2, Int.le_refl _, (by show 0 ≤ (20001 : Int64).toInt; decide), (by show (20001 : Int64).toInt ≤ 20001; decide), Or.inl rfl⟩
          · show 0 ≤ k.toInt; omega
          · show k.toInt < 9; omega
          · show k.toInt < 3 → 1 ≤ t.toInt ∧ t.toInt ≤ 99; omega
          · show -1 ≤ w.toInt; omega
          · show w.toInt ≤ 49; omega
          · show 0 ≤ f.toInt; omega
          · show f.toInt ≤ u.toInt; omega
          · show u.toInt ≤ 20000; omega
        · rw [va_up_ne _ _ ei]
          exact h4 i (by omega)
theorem eff_len {σ : St} {w k d : Int} (h : (sG σ).length ≤ 99) : ∀ (r : Nat) (q : List Int32) (a : Int32), q.length + r ≤ 100 → (eff σ w k d r q a).2.length ≤ 99 := by
  intro r
  induction r with
  | zero => intro q a _; exact h
  | succ r ih =>
    intro q a hq
    by_cases hf : fst1 q a < q.length
    · rw [eff_ring hf]
      show (q.drop _).length ≤ 99
      rw [List.length_drop]
      omega
    · cases hb : bst σ a.toInt w k d (sN σ) with
      | none => rw [eff_none hf hb]; exact h
      | some b =>
        by_cases hk : (oK (sO σ b)).toInt < 3
        · rw [eff_go hf hb hk]
          exact ih _ _ (by rw [len_app]; omega)
        · by_cases h6 : (oK (sO σ b)).toInt < 6
          · rw [eff_held hf hb hk h6]; exact h
          · rw [eff_refused hf hb hk h6]; exact h
theorem SI_eff {σ : St} {e w k : Int32} {d : Int64} (h : SI σ) : SI (fEff σ e w k d).2 := by
  unfold fEff
  split
  · exact h
  · split
    · exact h
    · exact ⟨h.1, h.2.1, h.2.2.1, h.2.2.2.1, eff_len h.2.2.2.2 100 [] e (by decide)⟩
