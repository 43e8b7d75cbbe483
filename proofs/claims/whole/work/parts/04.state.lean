/-! what a state of the system is: numbers; and what each call answers, as functions of it -/
abbrev Ord : Type := Int32 × Int32 × Int32 × Int32 × Int64 × Int64 × Int64 × Int64 × Int32
abbrev oK (o : Ord) : Int32 := o.1
abbrev oE (o : Ord) : Int32 := o.2.1
abbrev oW (o : Ord) : Int32 := o.2.2.1
abbrev oT (o : Ord) : Int32 := o.2.2.2.1
abbrev oF (o : Ord) : Int64 := o.2.2.2.2.1
abbrev oM (o : Ord) : Int64 := o.2.2.2.2.2.1
abbrev oU (o : Ord) : Int64 := o.2.2.2.2.2.2.1
abbrev oX (o : Ord) : Int64 := o.2.2.2.2.2.2.2.1
abbrev oP (o : Ord) : Int32 := o.2.2.2.2.2.2.2.2
abbrev oSU (o : Ord) (u : Int64) : Ord := (o.1, o.2.1, o.2.2.1, o.2.2.2.1, o.2.2.2.2.1, o.2.2.2.2.2.1, u, o.2.2.2.2.2.2.2.1, o.2.2.2.2.2.2.2.2)
abbrev oSX (o : Ord) (x : Int64) : Ord := (o.1, o.2.1, o.2.2.1, o.2.2.2.1, o.2.2.2.2.1, o.2.2.2.2.2.1, o.2.2.2.2.2.2.1, x, o.2.2.2.2.2.2.2.2)
abbrev oSP (o : Ord) (p : Int32) : Ord := (o.1, o.2.1, o.2.2.1, o.2.2.2.1, o.2.2.2.2.1, o.2.2.2.2.2.1, o.2.2.2.2.2.2.1, o.2.2.2.2.2.2.2.1, p)
abbrev fl (o : Ord) : List Value := [.int o.1, .int o.2.1, .int o.2.2.1, .int o.2.2.2.1, .long o.2.2.2.2.1, .long o.2.2.2.2.2.1, .long o.2.2.2.2.2.2.1, .long o.2.2.2.2.2.2.2.1, .int o.2.2.2.2.2.2.2.2]
def pO (oa : Nat → Nat) (od : Nat → Ord) (n : Nat) : va_W := (List.range n).map (fun i => (oa i, .inr (1, fl (od i))))
theorem pO_get {oa : Nat → Nat} {od : Nat → Ord} {n i : Nat} (h : i < n) : (pO oa od n)[i]? = some (oa i, .inr (1, fl (od i))) := by simp [pO, h]
theorem pO_len {oa : Nat → Nat} {od : Nat → Ord} {n : Nat} : (pO oa od n).length = n := by simp [pO]
theorem pO_cong {oa oa' : Nat → Nat} {od od' : Nat → Ord} {n : Nat} (h1 : ∀ i, i < n → oa i = oa' i) (h2 : ∀ i, i < n → od i = od' i) : pO oa od n = pO oa' od' n := by
  unfold pO
  refine List.map_congr_left fun i hi => ?_
  rw [h1 i (List.mem_range.mp hi), h2 i (List.mem_range.mp hi)]
theorem pO_set {oa : Nat → Nat} {od : Nat → Ord} {n i : Nat} (h : i < n) (o : Ord) : (pO oa od n).set i (oa i, .inr (1, fl o)) = pO oa (va_up od i o) n := by
  refine List.ext_getElem? fun j => ?_
  rw [List.getElem?_set]
  by_cases e : i = j
  · subst e
    rw [if_pos rfl, if_pos (by rw [pO_len]; exact h), pO_get h, va_up_self]
  · rw [if_neg e]
    by_cases hj : j < n
    · rw [pO_get hj, pO_get hj, va_up_ne _ _ (Ne.symm e)]
    · rw [List.getElem?_eq_none (by rw [pO_len]; omega), List.getElem?_eq_none (by rw [pO_len]; omega)]
theorem pO_push {oa : Nat → Nat} {od : Nat → Ord} {n q : Nat} {o : Ord} : pO oa od n ++ [(q, .inr (1, fl o))] = pO (va_up oa n q) (va_up od n o) (n + 1) := by
  have e : pO oa od n = pO (va_up oa n q) (va_up od n o) n := pO_cong (fun i hi => (va_up_ne _ _ (Nat.ne_of_lt hi)).symm) (fun i hi => (va_up_ne _ _ (Nat.ne_of_lt hi)).symm)
  rw [e]
  unfold pO
  rw [List.range_succ, List.map_append, List.map_cons, List.map_nil, va_up_self, va_up_self]
/-- the class's addresses: itself, its list, ranks, path, ring -/
abbrev AD : Type := Nat × Nat × Nat × Nat × Nat
def CW (G : GG) (a : AD) (rl : Int32) (now : Int64) (rk pa rg : Nat → Int32) (pl L : va_W) : va_W := (a.1, .inr (2, [.ref a.2.1, .ref a.2.2.1, .ref a.2.2.2.1, .ref a.2.2.2.2, .int rl, .long now])) :: aI G a.2.2.1 9 rk :: aI G a.2.2.2.1 100 pa :: aI G a.2.2.2.2 99 rg :: (pl ++ L)
def LW (G : GG) (h : Nat) (md : Int32) (a2 N : Nat) (f : Nat → Option Nat) (n : Nat) : va_W := (h, .inr (0, [.int md, if n = 0 then .ref (gS G) else .ref a2, .int (nI n)])) :: (if n = 0 then [] else [aO G a2 N f])
theorem CW_get {G : GG} {a : AD} {rl : Int32} {now : Int64} {rk pa rg : Nat → Int32} {oa : Nat → Nat} {od : Nat → Ord} {n : Nat} {L : va_W} {i : Nat} (hi : i < n) : (CW G a rl now rk pa rg (pO oa od n) L)[i + 4]? = some (oa i, .inr (1, fl (od i))) := by
  show (pO oa od n ++ L)[i]? = _
  rw [List.getElem?_append_left (by rw [pO_len]; exact hi)]
  exact pO_get hi
theorem CW_set {G : GG} {a : AD} {rl : Int32} {now : Int64} {rk pa rg : Nat → Int32} {oa : Nat → Nat} {od : Nat → Ord} {n : Nat} {L : va_W} {i : Nat} (hi : i < n) (o : Ord) : (CW G a rl now rk pa rg (pO oa od n) L).set (i + 4) (oa i, .inr (1, fl o)) = CW G a rl now rk pa rg (pO oa (va_up od i o) n) L := by
  show _ :: _ :: _ :: _ :: (pO oa od n ++ L).set i _ = _
  rw [List.set_append_left _ _ (by rw [pO_len]; exact hi), pO_set hi]
  rfl
theorem CW_list {G : GG} {a : AD} {rl : Int32} {now : Int64} {rk pa rg : Nat → Int32} {pl L : va_W} {H : Heap} (h : va_P G.1 vwCl (CW G a rl now rk pa rg pl L) H) : va_P G.1 vwCl L H := va_P.right (a := _ :: _ :: _ :: _ :: pl) h
theorem CW_ord {G : GG} {a : AD} {rl : Int32} {now : Int64} {rk pa rg : Nat → Int32} {oa : Nat → Nat} {od : Nat → Ord} {n : Nat} {L : va_W} {H : Heap} {i : Nat} (h : va_P G.1 vwCl (CW G a rl now rk pa rg (pO oa od n) L) H) (hi : i < n) : va_P G.1 vwCl [(oa i, .inr (1, fl (od i)))] H :=
  h.sub [i + 4] (by rw [List.filterMap_cons, CW_get hi]; rfl)
theorem LW_one {G : GG} {h : Nat} {md : Int32} {a2 N : Nat} {f : Nat → Option Nat} {n : Nat} {H : Heap} (hP : va_P G.1 vwCl (LW G h md a2 N f n) H) : va_P G.1 vwCl [(h, .inr (0, [.int md, if n = 0 then .ref (gS G) else .ref a2, .int (nI n)]))] H := hP.sub [0] rfl
theorem LW_pos {G : GG} {h : Nat} {md : Int32} {a2 N : Nat} {f : Nat → Option Nat} {n : Nat} (hn : n ≠ 0) : LW G h md a2 N f n = [(h, .inr (0, [.int md, .ref a2, .int (nI n)])), aO G a2 N f] := by
  unfold LW; rw [if_neg hn, if_neg hn]
theorem LW_zero {G : GG} {h : Nat} {md : Int32} {a2 N : Nat} {f : Nat → Option Nat} {n : Nat} (hn : n = 0) : LW G h md a2 N f n = [(h, .inr (0, [.int md, .ref (gS G), .int 0]))] := by
  subst hn; rfl
theorem va_P.put1 {G : GG} {A : Nat → Prop} {ws : va_W} {p a : Nat} {e0 e : va_E} {H H1 : Heap} (hP : va_P G.1 vwCl ws H) (hD : va_D A ws) (hp : ws[p]? = some (a, e0)) (hP1 : va_P G.1 vwCl [(a, e)] H1) (hk : ∀ q : Nat, q < H.size → ¬ va_A [(a, e0)] H.size q → H1[q]? = H[q]?) : va_P G.1 vwCl (ws.set p (a, e)) H1 := by
  intro k q hq
  rw [List.getElem?_set] at hq
  by_cases c : p = k
  · rw [if_pos c] at hq
    split at hq
    · cases hq
      exact hP1 0 _ rfl
    · cases hq
  · rw [if_neg c] at hq
    have h1 := hP k q hq
    refine h1.kept (hk q.1 h1.lt ?_)
    rintro (⟨j, e', hj⟩ | hs)
    · cases j with
      | zero =>
        cases hj
        exact c (hD.1 p k _ _ hp hq rfl)
      | succ j => simp at hj
    · exact absurd h1.lt (Nat.not_lt.mpr hs)
/-- the state: how many orders, the orders, the clock, the ranks, the ring told last -/
abbrev St : Type := Nat × (Nat → Ord) × Int64 × (Nat → Int32) × List Int32
abbrev sN (σ : St) : Nat := σ.1
abbrev sO (σ : St) : Nat → Ord := σ.2.1
abbrev sT (σ : St) : Int64 := σ.2.2.1
abbrev sR (σ : St) : Nat → Int32 := σ.2.2.2.1
abbrev sG (σ : St) : List Int32 := σ.2.2.2.2
abbrev sPut (σ : St) (i : Nat) (o : Ord) : St := (σ.1, va_up σ.2.1 i o, σ.2.2.1, σ.2.2.2.1, σ.2.2.2.2)
def OI (t : Int) (o : Ord) : Prop := 0 ≤ (oK o).toInt ∧ (oK o).toInt < 9 ∧ ((oK o).toInt < 3 → 1 ≤ (oT o).toInt ∧ (oT o).toInt ≤ 99) ∧ -1 ≤ (oW o).toInt ∧ (oW o).toInt ≤ 49 ∧ 0 ≤ (oF o).toInt ∧ (oF o).toInt ≤ (oU o).toInt ∧ (oU o).toInt ≤ 20000 ∧ 0 ≤ (oM o).toInt ∧ (oM o).toInt ≤ t ∧ 0 ≤ (oX o).toInt ∧ (oX o).toInt ≤ 20001 ∧ ((oP o).toInt = 0 ∨ (oP o).toInt = 1)
def SI (σ : St) : Prop := sN σ ≤ 200 ∧ 0 ≤ (sT σ).toInt ∧ (sT σ).toInt ≤ 20000 ∧ (∀ i, i < sN σ → OI (sT σ).toInt (sO σ i)) ∧ (sG σ).length ≤ 99
/-- the class's own numbers: changes, the row's address, its length and contents, the orders' addresses, path, ring -/
abbrev KP : Type := Int32 × Nat × Nat × (Nat → Option Nat) × (Nat → Nat) × (Nat → Int32) × (Nat → Int32)
def CI (κ : KP) (σ : St) : Prop := (0 < sN σ → sN σ ≤ κ.2.2.1 ∧ κ.2.2.1 ≤ 400 ∧ ∀ i, i < sN σ → κ.2.2.2.1 i = some (κ.2.2.2.2.1 i)) ∧ ∀ i, i < (sG σ).length → κ.2.2.2.2.2.2 i = (sG σ).getD i 0
abbrev WC (G : GG) (a : AD) (κ : KP) (σ : St) : va_W := CW G a (nI (sG σ).length) (sT σ) (sR σ) κ.2.2.2.2.2.1 κ.2.2.2.2.2.2 (pO κ.2.2.2.2.1 (sO σ) (sN σ)) (LW G a.2.1 κ.1 κ.2.1 κ.2.2.1 κ.2.2.2.1 (sN σ))
/-- the reference's rows -/
abbrev MP : Type := (Nat → Int32) × (Nat → Int32) × (Nat → Int32) × (Nat → Int32) × (Nat → Int64) × (Nat → Int64) × (Nat → Int64) × (Nat → Int32) × (Nat → Int64) × (Nat → Int32) × (Nat → Int32)
def MW (G : GG) (b : Nat → Nat) (th n : Int32) (fk fe fp ft : Nat → Int32) (ff fu fm : Nat → Int64) (fv : Nat → Int32) (fx : Nat → Int64) (rk : Nat → Int32) (now : Int64) (wy : Nat → Int32) (rl : Int32) (rg : Nat → Int32) : va_W :=
  [(b 0, .inr (3, [.int th, .int n, .ref (b 1), .ref (b 2), .ref (b 3), .ref (b 4), .ref (b 5), .ref (b 6), .ref (b 7), .ref (b 8), .ref (b 9), .ref (b 10), .long now, .ref (b 11), .int 0, .int rl, .ref (b 12)])), aI G (b 1) 201 fk, aI G (b 2) 201 fe, aI G (b 3) 201 fp, aI G (b 4) 201 ft, aJ G (b 5) 201 ff, aJ G (b 6) 201 fu, aJ G (b 7) 201 fm, aZ G (b 8) 201 fv, aJ G (b 9) 201 fx, aI G (b 10) 9 rk, aI G (b 11) 101 wy, aI G (b 12) 100 rg]
abbrev uK (μ : MP) : Nat → Int32 := μ.1
abbrev uE (μ : MP) : Nat → Int32 := μ.2.1
abbrev uP (μ : MP) : Nat → Int32 := μ.2.2.1
abbrev uT (μ : MP) : Nat → Int32 := μ.2.2.2.1
abbrev uF (μ : MP) : Nat → Int64 := μ.2.2.2.2.1
abbrev uU (μ : MP) : Nat → Int64 := μ.2.2.2.2.2.1
abbrev uM (μ : MP) : Nat → Int64 := μ.2.2.2.2.2.2.1
abbrev uV (μ : MP) : Nat → Int32 := μ.2.2.2.2.2.2.2.1
abbrev uX (μ : MP) : Nat → Int64 := μ.2.2.2.2.2.2.2.2.1
abbrev uW (μ : MP) : Nat → Int32 := μ.2.2.2.2.2.2.2.2.2.1
abbrev uG (μ : MP) : Nat → Int32 := μ.2.2.2.2.2.2.2.2.2.2
abbrev WM (G : GG) (b : Nat → Nat) (μ : MP) (σ : St) : va_W := MW G b 0 (nI (sN σ)) (uK μ) (uE μ) (uP μ) (uT μ) (uF μ) (uU μ) (uM μ) (uV μ) (uX μ) (sR σ) (sT σ) (uW μ) (nI (sG σ).length) (uG μ)
/-- the end of an order as the reference keeps it -/
def XI (x y : Int64) : Prop := (x.toInt = 20001 ∧ y.toInt = -1) ∨ (x.toInt ≠ 20001 ∧ y = x)
def MO (μ : MP) (j : Nat) (o : Ord) : Prop := uK μ j = oK o ∧ uE μ j = oE o ∧ uP μ j = oW o ∧ ((oK o).toInt < 3 → uT μ j = oT o) ∧ uF μ j = oF o ∧ uU μ j = oU o ∧ uM μ j = oM o ∧ uV μ j = oP o ∧ XI (oX o) (uX μ j)
def MI (μ : MP) (σ : St) : Prop := (∀ i, i < sN σ → MO μ (i + 1) (sO σ i)) ∧ (∀ j, sN σ < j → uV μ j = 0) ∧ ∀ i, i < (sG σ).length → uG μ i = (sG σ).getD i 0
-- what the calls answer
abbrev clk (σ : St) (t : Int64) : Prop := 0 ≤ t.toInt ∧ t.toInt ≤ 20000 ∧ (sT σ).toInt ≤ t.toInt
abbrev lapC (t : Int) (o : Ord) : Prop := (oP o).toInt = 0 ∧ (oX o).toInt = 20001 ∧ (oM o).toInt + 14 < t
def lap1 (t : Int) (o : Ord) : Ord := if lapC t o then oSX o (oM o + 15) else o
def mvO (σ : St) (t : Int) (k : Nat) : Nat → Ord := fun i => if i < k then lap1 t (sO σ i) else sO σ i
def cntL (σ : St) (t : Int) : Nat → Nat
  | 0 => 0
  | k + 1 => cntL σ t k + if lapC t (sO σ k) then 1 else 0
abbrev mvS (σ : St) (t : Int64) : St := (sN σ, mvO σ t.toInt (sN σ), t, sR σ, sG σ)
def fTick (σ : St) (t : Int64) : Int32 × St := if ¬ clk σ t then (-102, σ) else (nI (cntL σ t.toInt (sN σ)), mvS σ t)
def fOrder (σ : St) (k e w t : Int32) (f u : Int64) : Int32 × St :=
  if ¬ (1 ≤ e.toInt ∧ e.toInt ≤ 99) ∨ ¬ (-1 ≤ w.toInt ∧ w.toInt ≤ 49) ∨ ((0 ≤ k.toInt ∧ k.toInt < 3) ∧ ¬ (1 ≤ t.toInt ∧ t.toInt ≤ 99)) then (-101, σ)
  else if ¬ (0 ≤ k.toInt ∧ k.toInt < 9) ∨ f.toInt < 0 ∨ u.toInt < f.toInt ∨ 20000 < u.toInt ∨ ((0 ≤ k.toInt ∧ k.toInt < 3) ∧ t.toInt = e.toInt) then (-102, σ)
  else if 200 ≤ sN σ then (-104, σ)
  else (nI (sN σ + 1), (sN σ + 1, va_up (sO σ) (sN σ) (k, e, w, t, f, sT σ, u, 20001, 0), sT σ, sR σ, sG σ))
abbrev isO (σ : St) (o : Int32) : Prop := 1 ≤ o.toInt ∧ o.toInt ≤ (sN σ : Int)
abbrev oi (o : Int32) : Nat := (o.toInt - 1).toNat
def fProof (σ : St) (o g : Int32) (t : Int64) : Int32 × St :=
  if ¬ isO σ o then (-101, σ) else if ¬ clk σ t then (-102, σ)
  else if (oX (sO (mvS σ t) (oi o))).toInt ≠ 20001 ∨ (oP (sO (mvS σ t) (oi o))).toInt ≠ 0 then (-103, mvS σ t)
  else if g.toInt = 0 then (0, sPut (mvS σ t) (oi o) (oSX (sO (mvS σ t) (oi o)) t))
  else (1, sPut (mvS σ t) (oi o) (oSP (sO (mvS σ t) (oi o)) 1))
def dys (o : Ord) (t : Int) : Nat := ((oU o).toInt - (if (oF o).toInt < t then t else (oF o).toInt) + 1).toNat
def fWithdraw (σ : St) (o : Int32) (t : Int64) : Int32 × St :=
  if ¬ isO σ o then (-101, σ) else if ¬ clk σ t then (-102, σ)
  else if (oX (sO (mvS σ t) (oi o))).toInt ≠ 20001 then (-103, mvS σ t)
  else (nI (dys (sO (mvS σ t) (oi o)) t.toInt), sPut (mvS σ t) (oi o) (oSX (sO (mvS σ t) (oi o)) t))
def fExtend (σ : St) (o : Int32) (u : Int64) : Int32 × St :=
  if ¬ isO σ o then (-101, σ) else if ¬ (0 ≤ u.toInt ∧ u.toInt ≤ 20000) then (-102, σ)
  else if (oX (sO σ (oi o))).toInt ≠ 20001 then (-103, σ)
  else if u.toInt ≤ (oU (sO σ (oi o))).toInt then (0, σ) else (1, sPut σ (oi o) (oSU (sO σ (oi o)) u))
def fRank (σ : St) (k r : Int32) : Int32 × St :=
  if ¬ (0 ≤ k.toInt ∧ k.toInt < 9) ∨ ¬ (0 ≤ r.toInt ∧ r.toInt ≤ 100) then (-102, σ) else (sR σ k.toInt.toNat, (sN σ, sO σ, sT σ, upd (sR σ) k.toInt.toNat r, sG σ))
def fRing (σ : St) (i : Int32) : Int32 := if 0 ≤ i.toInt ∧ i.toInt < ((sG σ).length : Int) then (sG σ).getD i.toInt.toNat 0 else 0
abbrev frc (o : Ord) (d : Int) : Prop := (oF o).toInt ≤ d ∧ d ≤ (oU o).toInt ∧ d < (oX o).toInt
abbrev tdC (σ : St) (s : Int) (k : Nat) : Prop := (oW (sO σ k)).toInt = s ∧ (oP (sO σ k)).toInt ≠ 0 ∧ (oK (sO σ k)).toInt < 3 ∧ frc (sO σ k) (sT σ).toInt
def tdL (σ : St) (s i : Int) : Nat → Nat → Nat → Int32
  | 0, _, _ => 0
  | r + 1, k, c => if tdC σ s k then (if (c : Int) = i then nI (k + 1) else tdL σ s i r (k + 1) (c + 1)) else tdL σ s i r (k + 1) c
def fTold (σ : St) (s i : Int32) : Int32 := if ¬ (0 ≤ s.toInt ∧ s.toInt ≤ 49) then -101 else tdL σ s.toInt i.toInt (sN σ) 0 0
abbrev mtC (o : Ord) (a w k d : Int) : Prop := (oE o).toInt = a ∧ ((oW o).toInt = -1 ∨ (oW o).toInt = w) ∧ (oK o).toInt % 3 = k ∧ frc o d
abbrev rkI (σ : St) (i : Nat) : Int := (sR σ (oK (sO σ i)).toInt.toNat).toInt
def bst (σ : St) (a w k d : Int) : Nat → Option Nat
  | 0 => none
  | j + 1 => if mtC (sO σ j) a w k d then (match bst σ a w k d j with
    | none => some j
    | some b => if rkI σ b ≤ rkI σ j then some j else some b) else bst σ a w k d j
def fst1 (p : List Int32) (a : Int32) : Nat := fa_first (fun j => decide (p.getD j 0 = a)) p.length
def eff (σ : St) (w k d : Int) : Nat → List Int32 → Int32 → Int32 × List Int32
  | 0, _, _ => (-1, sG σ)
  | r + 1, p, a => if fst1 p a < p.length then (-1, p.drop (fst1 p a)) else (match bst σ a.toInt w k d (sN σ) with
    | none => (a, sG σ)
    | some b => if (oK (sO σ b)).toInt < 3 then eff σ w k d r (p ++ [a]) (oT (sO σ b)) else if (oK (sO σ b)).toInt < 6 then (0, sG σ) else (-2, sG σ))
abbrev sGs (σ : St) (g : List Int32) : St := (sN σ, sO σ, sT σ, sR σ, g)
def fEff (σ : St) (e w k : Int32) (d : Int64) : Int32 × St :=
  if ¬ (1 ≤ e.toInt ∧ e.toInt ≤ 99) ∨ ¬ (0 ≤ w.toInt ∧ w.toInt ≤ 49) then (-101, σ)
  else if ¬ (0 ≤ k.toInt ∧ k.toInt ≤ 2) ∨ ¬ (0 ≤ d.toInt ∧ d.toInt ≤ 20000) then (-102, σ)
  else ((eff σ w.toInt k.toInt d.toInt 100 [] e).1, sGs σ (eff σ w.toInt k.toInt d.toInt 100 [] e).2)
-- numbers
theorem nI_ofI {x : Int32} {k : Nat} (h : x.toInt = (k : Int)) : x = nI k := by
  rw [← fb_asI x, h]
  rfl
theorem ti_nI {k : Nat} (h : k < 2147483648) : (nI k).toInt = (k : Int) := nI_toInt h
theorem ti_add {x y : Int32} {a b : Int} (ha : x.toInt = a) (hb : y.toInt = b) (h1 : -2147483648 ≤ a + b) (h2 : a + b < 2147483648) : (x + y).toInt = a + b := by
  subst ha; subst hb; exact fb_addI h1 h2
theorem ti_sub {x y : Int32} {a b : Int} (ha : x.toInt = a) (hb : y.toInt = b) (h1 : -2147483648 ≤ a - b) (h2 : a - b < 2147483648) : (x - y).toInt = a - b := by
  subst ha; subst hb; exact fb_subI h1 h2
theorem tl_add {x y : Int64} {a b : Int} (ha : x.toInt = a) (hb : y.toInt = b) (h1 : -9223372036854775808 ≤ a + b) (h2 : a + b < 9223372036854775808) : (x + y).toInt = a + b := by
  subst ha; subst hb; exact fb_addL h1 h2
theorem tl_sub {x y : Int64} {a b : Int} (ha : x.toInt = a) (hb : y.toInt = b) (h1 : -9223372036854775808 ≤ a - b) (h2 : a - b < 9223372036854775808) : (x - y).toInt = a - b := by
  subst ha; subst hb; exact fb_subL h1 h2
theorem tl_i2l {x : Int32} {a : Int} (ha : x.toInt = a) : x.toInt64.toInt = a := by rw [Int32.toInt_toInt64, ha]
theorem ti_l2i {x : Int64} {a : Int} (ha : x.toInt = a) (h1 : -2147483648 ≤ a) (h2 : a < 2147483648) : x.toInt32.toInt = a := by
  rw [Int64.toInt_toInt32, ha]
  exact fb_bmod h1 h2
theorem ti_div3 {x : Int32} {a : Int} (ha : x.toInt = a) (h0 : 0 ≤ a) : (x / 3).toInt = a / 3 := by
  obtain ⟨k, hk⟩ := Int.eq_ofNat_of_zero_le h0
  have hr := fb_rng x
  have e : x = nI k := nI_ofI (ha.trans hk)
  have e2 := pk_div (a := k) (d := 3) (by omega) (by decide) (by decide)
  rw [e, show (3 : Int32) = nI 3 from rfl, e2, ti_nI (by omega)]
  omega
theorem ti_rem3 {x : Int32} {a : Int} (ha : x.toInt = a) (h0 : 0 ≤ a) : (x - x / 3 * 3).toInt = a % 3 := by
  obtain ⟨k, hk⟩ := Int.eq_ofNat_of_zero_le h0
  have hr := fb_rng x
  have e : x = nI k := nI_ofI (ha.trans hk)
  have e2 := pk_rem (a := k) (d := 3) (by omega) (by decide) (by decide)
  rw [e, show (3 : Int32) = nI 3 from rfl, e2, ti_nI (by omega)]
  omega
theorem tl_inj {x y : Int64} (h : x.toInt = y.toInt) : x = y := (fa_eq64 x y).mpr h
theorem ti_inj {x y : Int32} (h : x.toInt = y.toInt) : x = y := (fa_eq x y).mpr h
theorem vp_inI {x : Int32} {k n : Nat} (h : x.toInt = (k : Int)) (hk : k < n) : vp_in x n := vp_in_iff.mpr (by omega)
theorem ix_I {x : Int32} {k : Nat} (h : x.toInt = (k : Int)) : x.toNatClampNeg = k := by
  have hr := fb_rng x
  rw [nI_ofI h, nI_clamp (by omega)]
section MYARR
variable {p : Program} {l : Launch} {e : Env} {R : Room} {s : State} {m : MethodId} {args : Array Value} {below : List Frame} {meth : Method} {c : Code} {H : Heap} {locs : List Loc} {cells slots : Nat} {Q : State → Prop}
variable {cc : ByteArray} {pc : Nat} {ls : Array Slot} {rest : List Value} {G : GG} {A : Nat → Prop} {a : Nat} {ws : va_W} {H0 : Heap}
theorem my_iald (hx : p.tables.exec = Jvm.exec) (hb : c.code = cc) (hK : KK G s) (hP : va_P G.1 vwCl ws H) (q0 : Nat) {n : Nat} {f : Nat → Int32} (ha : ws[q0]? = some (a, .inl (gI G, n, .inl f))) {i : Int32} (k : Nat) (hi : i.toInt = (k : Int)) (hk : k < n) (hdg : decode cc pc = .ok (.iaload, 1))
    (kk : W p l e R s m args below meth c H locs cells slots Q (F0 m (pc + 1) ls (.int (f k) :: rest))) : W p l e R s m args below meth c H locs cells slots Q (F0 m pc ls (.int i :: .ref a :: rest)) :=
  va_iald hx hb hK.1 hP q0 0 ha rfl (vp_inI hi hk) hdg (by rw [ix_I hi]; exact kk)
theorem my_lald (hx : p.tables.exec = Jvm.exec) (hb : c.code = cc) (hK : KK G s) (hP : va_P G.1 vwCl ws H) (q0 : Nat) {n : Nat} {f : Nat → Int64} (ha : ws[q0]? = some (a, .inl (gJ G, n, .inr (.inl f)))) {i : Int32} (k : Nat) (hi : i.toInt = (k : Int)) (hk : k < n) (hdg : decode cc pc = .ok (.laload, 1))
    (kk : W p l e R s m args below meth c H locs cells slots Q (F0 m (pc + 1) ls (.long (f k) :: rest))) : W p l e R s m args below meth c H locs cells slots Q (F0 m pc ls (.int i :: .ref a :: rest)) :=
  va_lald hx hb hK.1 hP q0 1 ha rfl (vp_inI hi hk) hdg (by rw [ix_I hi]; exact kk)
theorem my_zald (hx : p.tables.exec = Jvm.exec) (hb : c.code = cc) (hK : KK G s) (hP : va_P G.1 vwCl ws H) (q0 : Nat) {n : Nat} {f : Nat → Int32} (ha : ws[q0]? = some (a, .inl (gZ G, n, .inl f))) {i : Int32} (k : Nat) (hi : i.toInt = (k : Int)) (hk : k < n) (hdg : decode cc pc = .ok (.baload, 1))
    (kk : W p l e R s m args below meth c H locs cells slots Q (F0 m (pc + 1) ls (.int (f k) :: rest))) : W p l e R s m args below meth c H locs cells slots Q (F0 m pc ls (.int i :: .ref a :: rest)) :=
  va_zald hx hb hK.1 hP q0 2 ha rfl (vp_inI hi hk) hdg (by rw [ix_I hi]; exact kk)
theorem my_iast (hx : p.tables.exec = Jvm.exec) (hb : c.code = cc) (hK : KK G s) (hP : va_P G.1 vwCl ws H) (hD : va_D A ws) (hS : va_S A H0 H locs) (q0 : Nat) {n : Nat} {f : Nat → Int32} (ha : ws[q0]? = some (a, .inl (gI G, n, .inl f))) {i x : Int32} (k : Nat) (hi : i.toInt = (k : Int)) (hk : k < n) (hdg : decode cc pc = .ok (.iastore, 1))
    (kk : ∀ (H1 : Heap) (locs1 : List Loc), va_P G.1 vwCl (ws.set q0 (a, .inl (gI G, n, .inl (upd f k x)))) H1 → va_D A (ws.set q0 (a, .inl (gI G, n, .inl (upd f k x)))) → va_S A H0 H1 locs1 → W p l e R s m args below meth c H1 locs1 cells slots Q (F0 m (pc + 1) ls rest)) : W p l e R s m args below meth c H locs cells slots Q (F0 m pc ls (.int x :: .int i :: .ref a :: rest)) :=
  va_iast hx hb hK.1 hP hD hS q0 0 ha rfl (vp_inI hi hk) hdg (by rw [ix_I hi]; exact kk)
theorem my_last (hx : p.tables.exec = Jvm.exec) (hb : c.code = cc) (hK : KK G s) (hP : va_P G.1 vwCl ws H) (hD : va_D A ws) (hS : va_S A H0 H locs) (q0 : Nat) {n : Nat} {f : Nat → Int64} (ha : ws[q0]? = some (a, .inl (gJ G, n, .inr (.inl f)))) {i : Int32} {x : Int64} (k : Nat) (hi : i.toInt = (k : Int)) (hk : k < n) (hdg : decode cc pc = .ok (.lastore, 1))
    (kk : ∀ (H1 : Heap) (locs1 : List Loc), va_P G.1 vwCl (ws.set q0 (a, .inl (gJ G, n, .inr (.inl (vp_updL f k x))))) H1 → va_D A (ws.set q0 (a, .inl (gJ G, n, .inr (.inl (vp_updL f k x))))) → va_S A H0 H1 locs1 → W p l e R s m args below meth c H1 locs1 cells slots Q (F0 m (pc + 1) ls rest)) : W p l e R s m args below meth c H locs cells slots Q (F0 m pc ls (.long x :: .int i :: .ref a :: rest)) :=
  va_last hx hb hK.1 hP hD hS q0 1 ha rfl (vp_inI hi hk) hdg (by rw [ix_I hi]; exact kk)
theorem my_zast (hx : p.tables.exec = Jvm.exec) (hb : c.code = cc) (hK : KK G s) (hP : va_P G.1 vwCl ws H) (hD : va_D A ws) (hS : va_S A H0 H locs) (q0 : Nat) {n : Nat} {f : Nat → Int32} (ha : ws[q0]? = some (a, .inl (gZ G, n, .inl f))) {i x : Int32} (k : Nat) (hi : i.toInt = (k : Int)) (hk : k < n) (hx01 : vp_nar .boolean x = x) (hdg : decode cc pc = .ok (.bastore, 1))
    (kk : ∀ (H1 : Heap) (locs1 : List Loc), va_P G.1 vwCl (ws.set q0 (a, .inl (gZ G, n, .inl (upd f k x)))) H1 → va_D A (ws.set q0 (a, .inl (gZ G, n, .inl (upd f k x)))) → va_S A H0 H1 locs1 → W p l e R s m args below meth c H1 locs1 cells slots Q (F0 m (pc + 1) ls rest)) : W p l e R s m args below meth c H locs cells slots Q (F0 m pc ls (.int x :: .int i :: .ref a :: rest)) :=
  va_zast hx hb hK.1 hP hD hS q0 2 ha rfl (vp_inI hi hk) hdg (by rw [ix_I hi, hx01]; exact kk)
end MYARR
theorem nar_01 {x : Int32} (h : x = 0 ∨ x = 1) : vp_nar .boolean x = x := by
  rcases h with rfl | rfl <;> rfl
