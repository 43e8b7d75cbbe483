-- ===== laid by wip/whole/gen.py out of the decode rows =====
set_option maxHeartbeats 4000000 in
set_option maxRecDepth 100000 in
/-- stepAt -/
theorem c_X1_stepAt (l : Launch) (G : GG) (a : AD) (κ : KP) (σ : St) (hI : SI σ) (hC : CI κ σ) (x y : Int32) (k : Nat) (hk : (y).toInt = (k : Int)) (hk2 : k ≤ 100) : RdI l yX1_stepAt wsX1_stepAt (rmX 0 0 0 0) G [.ref a.1, .int x, .int y] (WC G a κ σ) (fun r => r.toInt = (fa_first (fun j => decide (κ.2.2.2.2.2.1 j = x)) k : Int)) := by
  refine rd_of_i (cc := cX1_stepAt) (maxL := 4) (t := .int) (by decide +kernel) rfl (Nat.le_of_ble_eq_true rfl) nar_int ?_
  intro p e s m args below meth c Q hx hb hml hown hts hP hK hret ls hl
  have hown : s.vm.findClass RX1 = some m.cls := hown
  have hl : lv_has ls 4 [(0, .ref a.1), (1, .int x), (2, .int y)] := hl
  have hP : va_P G.1 vwCl (CW G a (nI (sG σ).length) (sT σ) (sR σ) κ.2.2.2.2.2.1 κ.2.2.2.2.2.2 (pO κ.2.2.2.2.1 (sO σ) (sN σ)) (LW G a.2.1 κ.1 κ.2.1 κ.2.2.1 κ.2.2.2.1 (sN σ))) s.heap := hP
  obtain ⟨hI1, hI2, hI3, hI4, hI5⟩ := id hI
  have hiX1 := (show ∀ w ∈ u_ws RX1 TX1 6, w ∈ wsX1_stepAt by decide +kernel)
  have lf20 := hts (.fieldLink RX1 20 "OrderRows2" "path" "[I") (by decide +kernel)
  refine lv_iconst (v := 0) hx hb dX1_stepAt_0 (by decide) ?_
  refine lv_istore_n (lv' := [(3, .int 0), (0, .ref a.1), (1, .int x), (2, .int y)]) hx hb dX1_stepAt_1 rfl hl (by decide) rfl (fun ls hl => ?_)
  have loop2 : ∀ (fu : Nat) (j : Nat) (x3 : Int32), k < j + fu → j ≤ k → x3.toInt = (j : Int) → (∀ i, i < j → decide (κ.2.2.2.2.2.1 i = x) = false) → ∀ ls : Array Slot, lv_has ls 4 [(3, .int x3), (0, .ref a.1), (1, .int x), (2, .int y)] → W p l e (rmX 0 0 0 0) s m args below meth c s.heap [] 0 0 Q (F0 m 2 ls []) := by
    intro fu
    induction fu with
    | zero =>
      intro j x3 hfu hjk ej hno
      exact absurd hfu (by omega)
    | succ fu ih2 =>
      intro j x3 hfu hjk ej hno ls hl
      refine lv_iload_n hx hb dX1_stepAt_2 rfl (lv_at hl 0 rfl) ?_
      refine lv_iload_n hx hb dX1_stepAt_3 rfl (lv_at hl 3 rfl) ?_
      refine lv_icmp_ge (tgt := 25) hx hb dX1_stepAt_4 (by decide) (fun c4_1 => ?_) (fun c4_1 => ?_)
      · have c4_1 : ((k : Nat) : Int) ≤ ((j : Nat) : Int) := (ti_le (x := y) (y := x3) (a := ((k : Nat) : Int)) (b := ((j : Nat) : Int)) hk ej).mp c4_1
        refine lv_iload_n hx hb dX1_stepAt_25 rfl (lv_at hl 3 rfl) ?_
        exact hret _ _ _ dX1_stepAt_26 (Or.inr (Or.inr rfl)) (by rw [ff_none (p := fun j => decide (κ.2.2.2.2.2.1 j = x)) (fun i hi => hno i (by omega))]; exact hk)
      · have c4_1 : ¬ (((k : Nat) : Int) ≤ ((j : Nat) : Int)) := mt (ti_le (x := y) (y := x3) (a := ((k : Nat) : Int)) (b := ((j : Nat) : Int)) hk ej).mpr c4_1
        refine lv_aload_n hx hb dX1_stepAt_7 rfl (lv_at hl 1 rfl) ?_
        refine va_get (D := G.1) (ci := 2) (v := .ref a.2.2.2.1) (own := RX1) (C := RX1) (T := TX1) (N := 6) hx hb hts hiX1 hown hK.1 hP 0 rfl rfl 2 (by decide) lf20 (fun _ h9 => h9) rfl dX1_stepAt_8 ?_
        refine lv_iload_n hx hb dX1_stepAt_11 rfl (lv_at hl 0 rfl) ?_
        refine my_iald hx hb hK hP 2 rfl j ej (by omega) dX1_stepAt_12 ?_
        refine lv_iload_n hx hb dX1_stepAt_13 rfl (lv_at hl 2 rfl) ?_
        refine lv_icmp_ne (tgt := 19) hx hb dX1_stepAt_14 (by decide) (fun c14_2 => ?_) (fun c14_2 => ?_)
        · have c14_2 : ¬ (((κ.2.2.2.2.2.1 j)).toInt = (x).toInt) := mt (ti_eq (x := (κ.2.2.2.2.2.1 j)) (y := x) (a := ((κ.2.2.2.2.2.1 j)).toInt) (b := (x).toInt) rfl rfl).mpr c14_2
          have c14 := c14_2
          obtain ⟨x19_3, e19_3⟩ : ∃ y : Int32, y = x3 + 1 := ⟨_, rfl⟩
          have v19_3 : (x19_3).toInt = (((j + 1) : Nat) : Int) := by rw [e19_3]; exact (ti_add (a := ((j : Nat) : Int)) (b := 1) ej rfl (by omega) (by omega)).trans (by omega)
          refine lv_iinc (v := x19_3) (lv' := [(3, .int x19_3), (0, .ref a.1), (1, .int x), (2, .int y)]) hx hb dX1_stepAt_19 hl (k := 0) rfl (by rw [e19_3]; rfl) (by decide) rfl (fun ls hl => ?_)
          refine lv_goto (tgt := 2) hx hb dX1_stepAt_22 (by decide) ?_
          have hno2 : ∀ i, i < j + 1 → decide (κ.2.2.2.2.2.1 i = x) = false := fun i hi => by
            rcases Nat.lt_or_eq_of_le (Nat.lt_succ_iff.mp hi) with q | q
            · exact hno i q
            · subst q; exact decide_eq_false (fun z => c14 (by rw [z]))
          exact ih2 (j + 1) x19_3 (by omega) (by omega) v19_3 hno2 ls (lv_sub hl [0, 1, 2, 3] rfl)
        · have c14_2 : ((κ.2.2.2.2.2.1 j)).toInt = (x).toInt := (ti_eq (x := (κ.2.2.2.2.2.1 j)) (y := x) (a := ((κ.2.2.2.2.2.1 j)).toInt) (b := (x).toInt) rfl rfl).mp c14_2
          have c14 := c14_2
          refine lv_iload_n hx hb dX1_stepAt_17 rfl (lv_at hl 0 rfl) ?_
          exact hret _ _ _ dX1_stepAt_18 (Or.inr (Or.inr rfl)) (by rw [ff_found (j := j) (p := fun j => decide (κ.2.2.2.2.2.1 j = x)) (by omega) (decide_eq_true (ti_inj c14)) hno]; exact ej)
  exact loop2 (k + 1) 0 0 (by omega) (Nat.zero_le _) rfl (fun i hi => absurd hi (Nat.not_lt_zero i)) ls (lv_sub hl [0, 1, 2, 3] rfl)

set_option maxHeartbeats 4000000 in
set_option maxRecDepth 100000 in
/-- tellRing -/
theorem c_X1_tellRing (l : Launch) (G : GG) (a : AD) (κ : KP) (σ : St) (hI : SI σ) (hC : CI κ σ) (x y : Int32) (i j : Nat) (hx1 : (x).toInt = (i : Int)) (hy1 : (y).toInt = (j : Int)) (hij : i ≤ j) (hj : j ≤ 100) : WrV l yX1_tellRing wsX1_tellRing (rmX 0 0 0 0) G [.ref a.1, .int x, .int y] (WC G a κ σ) (fun u : (Nat → Int32) => ∀ q, q < j - i → u q = κ.2.2.2.2.2.1 (i + q)) (fun u : (Nat → Int32) => (CW G a (nI (j - i)) (sT σ) (sR σ) κ.2.2.2.2.2.1 u (pO κ.2.2.2.2.1 (sO σ) (sN σ)) (LW G a.2.1 κ.1 κ.2.1 κ.2.2.1 κ.2.2.2.1 (sN σ)))) 0 0 := by
  refine wr_of_v (cc := cX1_tellRing) (maxL := 4) (by decide +kernel) rfl (Nat.le_of_ble_eq_true rfl) ?_
  intro p e s m args below meth c Q A hx hb hml hown hts hK hZ hA hin hret ls hl hP hD hS
  have hown : s.vm.findClass RX1 = some m.cls := hown
  have hl : lv_has ls 4 [(0, .ref a.1), (1, .int x), (2, .int y)] := hl
  have hP : va_P G.1 vwCl (CW G a (nI (sG σ).length) (sT σ) (sR σ) κ.2.2.2.2.2.1 κ.2.2.2.2.2.2 (pO κ.2.2.2.2.1 (sO σ) (sN σ)) (LW G a.2.1 κ.1 κ.2.1 κ.2.2.1 κ.2.2.2.1 (sN σ))) s.heap := hP
  have hD : va_D A (CW G a (nI (sG σ).length) (sT σ) (sR σ) κ.2.2.2.2.2.1 κ.2.2.2.2.2.2 (pO κ.2.2.2.2.1 (sO σ) (sN σ)) (LW G a.2.1 κ.1 κ.2.1 κ.2.2.1 κ.2.2.2.1 (sN σ))) := hD
  obtain ⟨hI1, hI2, hI3, hI4, hI5⟩ := id hI
  have hiX1 := (show ∀ w ∈ u_ws RX1 TX1 6, w ∈ wsX1_tellRing by decide +kernel)
  have lf26 := hts (.fieldLink RX1 26 "OrderRows2" "ringLength" "I") (by decide +kernel)
  have lf23 := hts (.fieldLink RX1 23 "OrderRows2" "ringTold" "[I") (by decide +kernel)
  have lf20 := hts (.fieldLink RX1 20 "OrderRows2" "path" "[I") (by decide +kernel)
  refine lv_iload_n hx hb dX1_tellRing_0 rfl (lv_at hl 1 rfl) ?_
  refine lv_istore_n (lv' := [(3, .int x), (0, .ref a.1), (1, .int x), (2, .int y)]) hx hb dX1_tellRing_1 rfl hl (by decide) rfl (fun ls hl => ?_)
  have loop2 : ∀ (fu : Nat) (mq : Nat) (x3 : Int32) (g : Nat → Int32), j < i + mq + fu → i + mq ≤ j → x3.toInt = ((i + mq : Nat) : Int) → (∀ q, q < mq → g q = κ.2.2.2.2.2.1 (i + q)) → ∀ (H : Heap) (locs : List Loc), va_P G.1 vwCl (CW G a (nI (sG σ).length) (sT σ) (sR σ) κ.2.2.2.2.2.1 g (pO κ.2.2.2.2.1 (sO σ) (sN σ)) (LW G a.2.1 κ.1 κ.2.1 κ.2.2.1 κ.2.2.2.1 (sN σ))) H → va_D A (CW G a (nI (sG σ).length) (sT σ) (sR σ) κ.2.2.2.2.2.1 g (pO κ.2.2.2.2.1 (sO σ) (sN σ)) (LW G a.2.1 κ.1 κ.2.1 κ.2.2.1 κ.2.2.2.1 (sN σ))) → va_S A s.heap H locs → ∀ ls : Array Slot, lv_has ls 4 [(3, .int x3), (0, .ref a.1), (1, .int x), (2, .int y)] → W p l e (rmX 0 0 0 0) s m args below meth c H locs 0 0 Q (F0 m 2 ls []) := by
    intro fu
    induction fu with
    | zero =>
      intro mq x3 g hfu hmk ej hg
      exact absurd hfu (by omega)
    | succ fu ih2 =>
      intro mq x3 g hfu hmk ej hg H locs hP hD hS ls hl
      refine lv_iload_n hx hb dX1_tellRing_2 rfl (lv_at hl 0 rfl) ?_
      refine lv_iload_n hx hb dX1_tellRing_3 rfl (lv_at hl 3 rfl) ?_
      refine lv_icmp_ge (tgt := 27) hx hb dX1_tellRing_4 (by decide) (fun c4_1 => ?_) (fun c4_1 => ?_)
      · have c4_1 : ((j : Nat) : Int) ≤ (((i + mq) : Nat) : Int) := (ti_le (x := y) (y := x3) (a := ((j : Nat) : Int)) (b := (((i + mq) : Nat) : Int)) hy1 ej).mp c4_1
        refine lv_aload_n hx hb dX1_tellRing_27 rfl (lv_at hl 1 rfl) ?_
        refine lv_iload_n hx hb dX1_tellRing_28 rfl (lv_at hl 3 rfl) ?_
        refine lv_iload_n hx hb dX1_tellRing_29 rfl (lv_at hl 2 rfl) ?_
        refine lv_isub hx hb dX1_tellRing_30 ?_
        refine lv_topi (fun y30_2 e30_2 => ?_)
        have v30_2 : (y30_2).toInt = (((j : Nat) : Int) - ((i : Nat) : Int)) := by rw [e30_2]; exact ti_sub (a := ((j : Nat) : Int)) (b := ((i : Nat) : Int)) hy1 hx1 (by omega) (by omega)
        refine va_put (D := G.1) (ci := 2) (v := .int y30_2) (ty := .int) (own := RX1) (C := RX1) (T := TX1) (N := 6) hx hb hts hiX1 tyX1 tyX1_ok nmX1 hown hK.1 hP hD hS 0 rfl rfl 4 (by decide) lf26 (fun _ h9 => h9) rfl (by decide +kernel) rfl rfl (Nat.le_of_ble_eq_true rfl) dX1_tellRing_31 (fun H locs hP hD hS => ?_)
        have hP : va_P G.1 vwCl (CW G a y30_2 (sT σ) (sR σ) κ.2.2.2.2.2.1 g (pO κ.2.2.2.2.1 (sO σ) (sN σ)) (LW G a.2.1 κ.1 κ.2.1 κ.2.2.1 κ.2.2.2.1 (sN σ))) H := hP
        have hD : va_D A (CW G a y30_2 (sT σ) (sR σ) κ.2.2.2.2.2.1 g (pO κ.2.2.2.2.1 (sO σ) (sN σ)) (LW G a.2.1 κ.1 κ.2.1 κ.2.2.1 κ.2.2.2.1 (sN σ))) := hD
        obtain rfl : y30_2 = nI (j - i) := nI_ofI (v30_2.trans (by omega))
        exact hret _ _ _ _ _ _ g dX1_tellRing_34 (fun q hq => hg q (by omega)) hP hD hS (Nat.le_refl _) (Nat.le_refl _)
      · have c4_1 : ¬ (((j : Nat) : Int) ≤ (((i + mq) : Nat) : Int)) := mt (ti_le (x := y) (y := x3) (a := ((j : Nat) : Int)) (b := (((i + mq) : Nat) : Int)) hy1 ej).mpr c4_1
        refine lv_aload_n hx hb dX1_tellRing_7 rfl (lv_at hl 1 rfl) ?_
        refine va_get (D := G.1) (ci := 2) (v := .ref a.2.2.2.2) (own := RX1) (C := RX1) (T := TX1) (N := 6) hx hb hts hiX1 hown hK.1 hP 0 rfl rfl 3 (by decide) lf23 (fun _ h9 => h9) rfl dX1_tellRing_8 ?_
        refine lv_iload_n hx hb dX1_tellRing_11 rfl (lv_at hl 0 rfl) ?_
        refine lv_iload_n hx hb dX1_tellRing_12 rfl (lv_at hl 2 rfl) ?_
        refine lv_isub hx hb dX1_tellRing_13 ?_
        refine lv_topi (fun y13_3 e13_3 => ?_)
        have v13_3 : (y13_3).toInt = ((((i + mq) : Nat) : Int) - ((i : Nat) : Int)) := by rw [e13_3]; exact ti_sub (a := (((i + mq) : Nat) : Int)) (b := ((i : Nat) : Int)) ej hx1 (by omega) (by omega)
        refine lv_aload_n hx hb dX1_tellRing_14 rfl (lv_at hl 1 rfl) ?_
        refine va_get (D := G.1) (ci := 2) (v := .ref a.2.2.2.1) (own := RX1) (C := RX1) (T := TX1) (N := 6) hx hb hts hiX1 hown hK.1 hP 0 rfl rfl 2 (by decide) lf20 (fun _ h9 => h9) rfl dX1_tellRing_15 ?_
        refine lv_iload_n hx hb dX1_tellRing_18 rfl (lv_at hl 0 rfl) ?_
        refine my_iald hx hb hK hP 2 rfl (i + mq) ej (by omega) dX1_tellRing_19 ?_
        refine my_iast hx hb hK hP hD hS 3 rfl (x := (κ.2.2.2.2.2.1 (i + mq))) mq (v13_3.trans (by omega)) (by omega) dX1_tellRing_20 (fun H locs hP hD hS => ?_)
        have hP : va_P G.1 vwCl (CW G a (nI (sG σ).length) (sT σ) (sR σ) κ.2.2.2.2.2.1 (upd g mq (κ.2.2.2.2.2.1 (i + mq))) (pO κ.2.2.2.2.1 (sO σ) (sN σ)) (LW G a.2.1 κ.1 κ.2.1 κ.2.2.1 κ.2.2.2.1 (sN σ))) H := hP
        have hD : va_D A (CW G a (nI (sG σ).length) (sT σ) (sR σ) κ.2.2.2.2.2.1 (upd g mq (κ.2.2.2.2.2.1 (i + mq))) (pO κ.2.2.2.2.1 (sO σ) (sN σ)) (LW G a.2.1 κ.1 κ.2.1 κ.2.2.1 κ.2.2.2.1 (sN σ))) := hD
        obtain ⟨x21_4, e21_4⟩ : ∃ y : Int32, y = x3 + 1 := ⟨_, rfl⟩
        have v21_4 : (x21_4).toInt = ((((i + mq) + 1) : Nat) : Int) := by rw [e21_4]; exact (ti_add (a := (((i + mq) : Nat) : Int)) (b := 1) ej rfl (by omega) (by omega)).trans (by omega)
        refine lv_iinc (v := x21_4) (lv' := [(3, .int x21_4), (0, .ref a.1), (1, .int x), (2, .int y)]) hx hb dX1_tellRing_21 hl (k := 0) rfl (by rw [e21_4]; rfl) (by decide) rfl (fun ls hl => ?_)
        refine lv_goto (tgt := 2) hx hb dX1_tellRing_24 (by decide) ?_
        have hg2 : ∀ q, q < mq + 1 → (upd g mq (κ.2.2.2.2.2.1 (i + mq))) q = κ.2.2.2.2.2.1 (i + q) := fun q hq => by
          rcases Nat.lt_or_eq_of_le (Nat.lt_succ_iff.mp hq) with z | z
          · rw [pk_un (Nat.ne_of_lt z)]; exact hg q z
          · subst z; exact pk_us
        exact ih2 (mq + 1) x21_4 (upd g mq (κ.2.2.2.2.2.1 (i + mq))) (by omega) (by omega) (v21_4.trans (by omega)) hg2 _ _ hP hD hS ls (lv_sub hl [0, 1, 2, 3] rfl)
  exact loop2 (j + 1) 0 x κ.2.2.2.2.2.2 (by omega) (by omega) hx1 (fun q hq => absurd hq (Nat.not_lt_zero q)) _ _ hP hD hS ls (lv_sub hl [0, 1, 2, 3] rfl)

set_option maxHeartbeats 4000000 in
set_option maxRecDepth 100000 in
/-- ring -/
theorem c_X1_ring (l : Launch) (G : GG) (a : AD) (κ : KP) (σ : St) (hI : SI σ) (hC : CI κ σ) (i : Int32) : RdI l yX1_ring wsX1_ring (rmX 0 0 0 0) G [.ref a.1, .int i] (WC G a κ σ) (fun r => r = fRing σ i) := by
  refine rd_of_i (cc := cX1_ring) (maxL := 2) (t := .int) (by decide +kernel) rfl (Nat.le_of_ble_eq_true rfl) nar_int ?_
  intro p e s m args below meth c Q hx hb hml hown hts hP hK hret ls hl
  have hown : s.vm.findClass RX1 = some m.cls := hown
  have hl : lv_has ls 2 [(0, .ref a.1), (1, .int i)] := hl
  have hP : va_P G.1 vwCl (CW G a (nI (sG σ).length) (sT σ) (sR σ) κ.2.2.2.2.2.1 κ.2.2.2.2.2.2 (pO κ.2.2.2.2.1 (sO σ) (sN σ)) (LW G a.2.1 κ.1 κ.2.1 κ.2.2.1 κ.2.2.2.1 (sN σ))) s.heap := hP
  obtain ⟨hI1, hI2, hI3, hI4, hI5⟩ := id hI
  have hiX1 := (show ∀ w ∈ u_ws RX1 TX1 6, w ∈ wsX1_ring by decide +kernel)
  have lf26 := hts (.fieldLink RX1 26 "OrderRows2" "ringLength" "I") (by decide +kernel)
  have lf23 := hts (.fieldLink RX1 23 "OrderRows2" "ringTold" "[I") (by decide +kernel)
  refine lv_iload_n hx hb dX1_ring_0 rfl (lv_at hl 1 rfl) ?_
  refine lv_if_lt (tgt := 12) hx hb dX1_ring_1 (by decide) (fun c1_1 => ?_) (fun c1_1 => ?_)
  · have c1_1 : (i).toInt < 0 := (ti_lt (x := i) (y := 0) (a := (i).toInt) (b := 0) rfl rfl).mp c1_1
    refine lv_iconst (v := 0) hx hb dX1_ring_12 (by decide) ?_
    refine lv_goto (tgt := 22) hx hb dX1_ring_13 (by decide) ?_
    exact hret _ _ _ dX1_ring_22 (Or.inr (Or.inr rfl)) (if_neg (by omega)).symm
  · have c1_1 : ¬ ((i).toInt < 0) := mt (ti_lt (x := i) (y := 0) (a := (i).toInt) (b := 0) rfl rfl).mpr c1_1
    refine lv_iload_n hx hb dX1_ring_4 rfl (lv_at hl 1 rfl) ?_
    refine lv_aload_n hx hb dX1_ring_5 rfl (lv_at hl 0 rfl) ?_
    refine va_get (D := G.1) (ci := 2) (v := .int (nI (sG σ).length)) (own := RX1) (C := RX1) (T := TX1) (N := 6) hx hb hts hiX1 hown hK.1 hP 0 rfl rfl 4 (by decide) lf26 (fun _ h9 => h9) rfl dX1_ring_6 ?_
    refine lv_icmp_lt (tgt := 16) hx hb dX1_ring_9 (by decide) (fun c9_2 => ?_) (fun c9_2 => ?_)
    · have c9_2 : (i).toInt < (((sG σ).length : Nat) : Int) := (ti_lt (x := i) (y := (nI (sG σ).length)) (a := (i).toInt) (b := (((sG σ).length : Nat) : Int)) rfl (ti_nI (by omega))).mp c9_2
      refine lv_aload_n hx hb dX1_ring_16 rfl (lv_at hl 0 rfl) ?_
      refine va_get (D := G.1) (ci := 2) (v := .ref a.2.2.2.2) (own := RX1) (C := RX1) (T := TX1) (N := 6) hx hb hts hiX1 hown hK.1 hP 0 rfl rfl 3 (by decide) lf23 (fun _ h9 => h9) rfl dX1_ring_17 ?_
      refine lv_iload_n hx hb dX1_ring_20 rfl (lv_at hl 1 rfl) ?_
      refine my_iald hx hb hK hP 3 rfl ((i).toInt.toNat) (show (i).toInt = (((i).toInt.toNat : Nat) : Int) by omega) (by omega) dX1_ring_21 ?_
      exact hret _ _ _ dX1_ring_22 (Or.inr (Or.inr rfl)) ((hC.2 (i).toInt.toNat (by omega)).trans (if_pos (show 0 ≤ (i).toInt ∧ (i).toInt < ((sG σ).length : Int) by omega)).symm)
    · have c9_2 : ¬ ((i).toInt < (((sG σ).length : Nat) : Int)) := mt (ti_lt (x := i) (y := (nI (sG σ).length)) (a := (i).toInt) (b := (((sG σ).length : Nat) : Int)) rfl (ti_nI (by omega))).mpr c9_2
      refine lv_iconst (v := 0) hx hb dX1_ring_12 (by decide) ?_
      refine lv_goto (tgt := 22) hx hb dX1_ring_13 (by decide) ?_
      exact hret _ _ _ dX1_ring_22 (Or.inr (Or.inr rfl)) (if_neg (by omega)).symm

set_option maxHeartbeats 4000000 in
set_option maxRecDepth 100000 in
/-- strongest -/
theorem c_X1_strongest (l : Launch) (G : GG) (a : AD) (κ : KP) (σ : St) (hI : SI σ) (hC : CI κ σ) (ad wh kd : Int32) (dy : Int64) : RdQ l yX1_strongest wsX1_strongest (rmX 3 110 0 0) G [.ref a.1, .int ad, .int wh, .int kd, .long dy] (WC G a κ σ) (fun r => r = (bst σ ad.toInt wh.toInt kd.toInt dy.toInt (sN σ)).map κ.2.2.2.2.1) := by
  refine rd_of_q (cc := cX1_strongest) (maxL := 9) (by decide +kernel) rfl (Nat.le_of_ble_eq_true rfl) ?_
  intro p e s m args below meth c Q hx hb hml hown hts hP hK hret ls hl
  have hown : s.vm.findClass RX1 = some m.cls := hown
  have hl : lv_has ls 9 [(0, .ref a.1), (1, .int ad), (2, .int wh), (3, .int kd), (4, .long dy)] := hl
  have hP : va_P G.1 vwCl (CW G a (nI (sG σ).length) (sT σ) (sR σ) κ.2.2.2.2.2.1 κ.2.2.2.2.2.2 (pO κ.2.2.2.2.1 (sO σ) (sN σ)) (LW G a.2.1 κ.1 κ.2.1 κ.2.2.1 κ.2.2.2.1 (sN σ))) s.heap := hP
  obtain ⟨hI1, hI2, hI3, hI4, hI5⟩ := id hI
  have hiX1 := (show ∀ w ∈ u_ws RX1 TX1 6, w ∈ wsX1_strongest by decide +kernel)
  have lf10 := hts (.fieldLink RX1 10 "OrderRows2" "orders" "Ljava/util/ArrayList;") (by decide +kernel)
  have cw52 := cwV (R := (rmX 3 110 0 0)) (s := s) (args := args) (rm := (rmX 0 0 0 0)) (mc := 0) (ms := 0) 0 hts gX1_strongest_Jx4a65c_size_8abf5 rfl rfl rfl (by decide +kernel) ⟨Nat.le_of_ble_eq_true rfl, Nat.le_of_ble_eq_true rfl⟩
  have cw114 := cwV (R := (rmX 3 110 0 0)) (s := s) (args := args) (rm := (rmX 2 70 0 0)) (mc := 0) (ms := 0) 1 hts gX1_strongest_Jx4a65c_get_915e3 rfl rfl rfl (by decide +kernel) ⟨Nat.le_of_ble_eq_true rfl, Nat.le_of_ble_eq_true rfl⟩
  have cl56 := hts (.classLink RX1 56 RX0) (by decide +kernel)
  have cw129 := cwV (R := (rmX 3 110 0 0)) (s := s) (args := args) (rm := (rmX 0 0 0 0)) (mc := 0) (ms := 0) 3 hts gX1_strongest_X0_concerns rfl rfl rfl (by decide +kernel) ⟨Nat.le_of_ble_eq_true rfl, Nat.le_of_ble_eq_true rfl⟩
  have cw121 := cwV (R := (rmX 3 110 0 0)) (s := s) (args := args) (rm := (rmX 0 0 0 0)) (mc := 0) (ms := 0) 1 hts gX1_strongest_X0_isInForce rfl rfl rfl (by decide +kernel) ⟨Nat.le_of_ble_eq_true rfl, Nat.le_of_ble_eq_true rfl⟩
  have lf16 := hts (.fieldLink RX1 16 "OrderRows2" "rankOfKind" "[I") (by decide +kernel)
  have hiX0 := (show ∀ w ∈ u_ws RX0 TX0 9, w ∈ wsX1_strongest by decide +kernel)
  have lf105 := hts (.fieldLink RX1 105 "OrderRows2$Order" "kind" "I") (by decide +kernel)
  refine lv_null hx hb dX1_strongest_0 ?_
  refine lv_astoreN (lv' := [(6, .null), (0, .ref a.1), (1, .int ad), (2, .int wh), (3, .int kd), (4, .long dy)]) hx hb dX1_strongest_1 hl (by decide) rfl (fun ls hl => ?_)
  refine lv_iconst (v := 0) hx hb dX1_strongest_3 (by decide) ?_
  refine lv_istore (lv' := [(7, .int 0), (6, .null), (0, .ref a.1), (1, .int ad), (2, .int wh), (3, .int kd), (4, .long dy)]) hx hb dX1_strongest_4 hl (by decide) rfl (fun ls hl => ?_)
  have loop6 : ∀ (fu : Nat) (j : Nat) (x7 : Int32), sN σ < j + fu → j ≤ sN σ → x7.toInt = (j : Int) → ∀ ls : Array Slot, lv_has ls 9 [(7, .int x7), (6, (va_rf ((bst σ ad.toInt wh.toInt kd.toInt dy.toInt j).map κ.2.2.2.2.1))), (0, .ref a.1), (1, .int ad), (2, .int wh), (3, .int kd), (4, .long dy)] → W p l e (rmX 3 110 0 0) s m args below meth c s.heap [] 0 0 Q (F0 m 6 ls []) := by
    intro fu
    induction fu with
    | zero =>
      intro j x7 hfu hjk ej
      exact absurd hfu (by omega)
    | succ fu ih6 =>
      intro j x7 hfu hjk ej ls hl
      cases hbs : (bst σ ad.toInt wh.toInt kd.toInt dy.toInt j) with
      | none =>
        rw [hbs] at hl
        have hl : lv_has ls 9 [(7, .int x7), (6, .null), (0, .ref a.1), (1, .int ad), (2, .int wh), (3, .int kd), (4, .long dy)] := hl
        refine lv_iload hx hb dX1_strongest_6 (lv_at hl 0 rfl) ?_
        refine lv_aload_n hx hb dX1_strongest_8 rfl (lv_at hl 2 rfl) ?_
        refine va_get (D := G.1) (ci := 2) (v := .ref a.2.1) (own := RX1) (C := RX1) (T := TX1) (N := 6) hx hb hts hiX1 hown hK.1 hP 0 rfl rfl 0 (by decide) lf10 (fun _ h9 => h9) rfl dX1_strongest_9 ?_
        refine rdV_i (b := a.2.1) (As := []) (rest := [.int x7]) ⟨hx, hb, hml, hown, hts⟩ (c_Jx4a65c_size_8abf5 l G a.2.1 κ.1 (nI (sN σ)) _) cw52 hK (LW_one (CW_list hP)) 0 rfl rfl rfl rfl hl.1 rfl (Nat.le_of_ble_eq_true rfl) dX1_strongest_12 ⟨Nat.zero_le _, Nat.zero_le _⟩ (fun r1 w1 => ?_)
        have w1 : r1.toInt = (((sN σ) : Nat) : Int) := by rw [w1]; exact ti_nI (by omega)
        refine lv_icmp_ge (tgt := 91) hx hb dX1_strongest_15 (by decide) (fun c15_2 => ?_) (fun c15_2 => ?_)
        · have c15_2 : (((sN σ) : Nat) : Int) ≤ ((j : Nat) : Int) := (ti_le (x := r1) (y := x7) (a := (((sN σ) : Nat) : Int)) (b := ((j : Nat) : Int)) w1 ej).mp c15_2
          refine lv_aloadN hx hb dX1_strongest_91 (lv_at hl 1 rfl) ?_
          obtain rfl : j = sN σ := by omega
          exact hret _ _ none _ dX1_strongest_93 rfl (by rw [hbs]; rfl)
        · have c15_2 : ¬ ((((sN σ) : Nat) : Int) ≤ ((j : Nat) : Int)) := mt (ti_le (x := r1) (y := x7) (a := (((sN σ) : Nat) : Int)) (b := ((j : Nat) : Int)) w1 ej).mpr c15_2
          refine lv_aload_n hx hb dX1_strongest_18 rfl (lv_at hl 2 rfl) ?_
          refine va_get (D := G.1) (ci := 2) (v := .ref a.2.1) (own := RX1) (C := RX1) (T := TX1) (N := 6) hx hb hts hiX1 hown hK.1 hP 0 rfl rfl 0 (by decide) lf10 (fun _ h9 => h9) rfl dX1_strongest_19 ?_
          refine lv_iload hx hb dX1_strongest_22 (lv_at hl 0 rfl) ?_
          have hk3 : j < (sN σ) := by omega
          obtain ⟨hc3, hd3, he3⟩ := hC.1 (by omega)
          refine rdV_q (b := a.2.1) (As := [.int x7]) (rest := []) ⟨hx, hb, hml, hown, hts⟩ (c_Jx4a65c_get_915e3 l G a.2.1 κ.1 x7 κ.2.1 κ.2.2.1 (sN σ) j κ.2.2.2.1 ej hk3 hc3 (by omega)) cw114 hK (LW_pos (show (sN σ) ≠ 0 by omega) ▸ CW_list hP) 0 rfl rfl rfl rfl hl.1 rfl (Nat.le_of_ble_eq_true rfl) dX1_strongest_24 ⟨Nat.zero_le _, Nat.zero_le _⟩ (fun r3 w3 => ?_)
          obtain rfl : r3 = some (κ.2.2.2.2.1 j) := w3.trans (he3 j hk3)
          refine W.eq (g2 := F0 m 27 ls [.ref (κ.2.2.2.2.1 j)]) rfl ?_
          refine va_castS (own := RX1) (nm := RX0) hx hb hown cl56 (hK.1.1 1 _ rfl).2 (va_recv hK.1 hP (ci := 1) (q0 := j + 4) rfl (CW_get hk3)) dX1_strongest_27 ?_
          have hoj := hI4 j hk3
          unfold OI at hoj
          refine lv_astore (lv' := [(8, .ref (κ.2.2.2.2.1 j)), (7, .int x7), (6, .null), (0, .ref a.1), (1, .int ad), (2, .int wh), (3, .int kd), (4, .long dy)]) hx hb dX1_strongest_30 hl (by decide) rfl (fun ls hl => ?_)
          refine lv_aload hx hb dX1_strongest_32 (lv_at hl 0 rfl) ?_
          refine lv_iload_n hx hb dX1_strongest_34 rfl (lv_at hl 4 rfl) ?_
          refine lv_iload_n hx hb dX1_strongest_35 rfl (lv_at hl 5 rfl) ?_
          refine lv_iload_n hx hb dX1_strongest_36 rfl (lv_at hl 6 rfl) ?_
          refine rdV_i (b := (κ.2.2.2.2.1 j)) (As := [.int ad, .int wh, .int kd]) (rest := []) ⟨hx, hb, hml, hown, hts⟩ (c_X0_concerns l G (κ.2.2.2.2.1 j) ((sO σ) j) ad wh kd (by omega)) cw129 hK (CW_ord hP hk3) 1 rfl rfl rfl rfl hl.1 rfl (Nat.le_of_ble_eq_true rfl) dX1_strongest_37 ⟨Nat.zero_le _, Nat.zero_le _⟩ (fun r37_4 w37_4 => ?_)
          have w37_4 : ((r37_4.toInt = 1 ∧ ((oE ((sO σ) j)).toInt = (ad).toInt ∧ ((oW ((sO σ) j)).toInt = -1 ∨ (oW ((sO σ) j)).toInt = (wh).toInt) ∧ (oK ((sO σ) j)).toInt % 3 = (kd).toInt)) ∨ (r37_4.toInt = 0 ∧ ¬ ((oE ((sO σ) j)).toInt = (ad).toInt ∧ ((oW ((sO σ) j)).toInt = -1 ∨ (oW ((sO σ) j)).toInt = (wh).toInt) ∧ (oK ((sO σ) j)).toInt % 3 = (kd).toInt))) := w37_4
          refine lv_if_eq (tgt := 85) hx hb dX1_strongest_40 (by decide) (fun c40_5 => ?_) (fun c40_5 => ?_)
          · have c40_5 : (r37_4).toInt = 0 := (ti_eq (x := r37_4) (y := 0) (a := (r37_4).toInt) (b := 0) rfl rfl).mp c40_5
            obtain ⟨x85_6, e85_6⟩ : ∃ y : Int32, y = x7 + 1 := ⟨_, rfl⟩
            have v85_6 : (x85_6).toInt = (((j + 1) : Nat) : Int) := by rw [e85_6]; exact (ti_add (a := ((j : Nat) : Int)) (b := 1) ej rfl (by omega) (by omega)).trans (by omega)
            refine lv_iinc (v := x85_6) (lv' := [(7, .int x85_6), (8, .ref (κ.2.2.2.2.1 j)), (6, .null), (0, .ref a.1), (1, .int ad), (2, .int wh), (3, .int kd), (4, .long dy)]) hx hb dX1_strongest_85 hl (k := 1) rfl (by rw [e85_6]; rfl) (by decide) rfl (fun ls hl => ?_)
            refine lv_goto (tgt := 6) hx hb dX1_strongest_88 (by decide) ?_
            have hb2 : (bst σ ad.toInt wh.toInt kd.toInt dy.toInt (j + 1)) = none := by
              first | exact (bst_no (by omega)).trans hbs | exact bst_first (by omega) hbs | exact bst_up (by omega) hbs (by show (sR σ (oK (sO σ b)).toInt.toNat).toInt ≤ (sR σ (oK (sO σ j)).toInt.toNat).toInt; omega) | exact bst_keep (by omega) hbs (by show ¬ (sR σ (oK (sO σ b)).toInt.toNat).toInt ≤ (sR σ (oK (sO σ j)).toInt.toNat).toInt; omega)
            exact ih6 (j + 1) x85_6 (by omega) (by omega) v85_6 ls (by rw [hb2]; exact lv_sub hl [0, 2, 3, 4, 5, 6, 7] rfl)
          · have c40_5 : ¬ ((r37_4).toInt = 0) := mt (ti_eq (x := r37_4) (y := 0) (a := (r37_4).toInt) (b := 0) rfl rfl).mpr c40_5
            refine lv_aload hx hb dX1_strongest_43 (lv_at hl 0 rfl) ?_
            refine lv_lload hx hb dX1_strongest_45 (lv_at hl 7 rfl) ?_
            refine rdV_i (b := (κ.2.2.2.2.1 j)) (As := [.long dy]) (rest := []) ⟨hx, hb, hml, hown, hts⟩ (c_X0_isInForce l G (κ.2.2.2.2.1 j) ((sO σ) j) dy) cw121 hK (CW_ord hP hk3) 1 rfl rfl rfl rfl hl.1 rfl (Nat.le_of_ble_eq_true rfl) dX1_strongest_47 ⟨Nat.zero_le _, Nat.zero_le _⟩ (fun r47_7 w47_7 => ?_)
            have w47_7 : ((r47_7.toInt = 1 ∧ ((oF ((sO σ) j)).toInt ≤ (dy).toInt ∧ (dy).toInt ≤ (oU ((sO σ) j)).toInt ∧ (dy).toInt < (oX ((sO σ) j)).toInt)) ∨ (r47_7.toInt = 0 ∧ ¬ ((oF ((sO σ) j)).toInt ≤ (dy).toInt ∧ (dy).toInt ≤ (oU ((sO σ) j)).toInt ∧ (dy).toInt < (oX ((sO σ) j)).toInt))) := w47_7
            refine lv_if_eq (tgt := 85) hx hb dX1_strongest_50 (by decide) (fun c50_8 => ?_) (fun c50_8 => ?_)
            · have c50_8 : (r47_7).toInt = 0 := (ti_eq (x := r47_7) (y := 0) (a := (r47_7).toInt) (b := 0) rfl rfl).mp c50_8
              obtain ⟨x85_9, e85_9⟩ : ∃ y : Int32, y = x7 + 1 := ⟨_, rfl⟩
              have v85_9 : (x85_9).toInt = (((j + 1) : Nat) : Int) := by rw [e85_9]; exact (ti_add (a := ((j : Nat) : Int)) (b := 1) ej rfl (by omega) (by omega)).trans (by omega)
              refine lv_iinc (v := x85_9) (lv' := [(7, .int x85_9), (8, .ref (κ.2.2.2.2.1 j)), (6, .null), (0, .ref a.1), (1, .int ad), (2, .int wh), (3, .int kd), (4, .long dy)]) hx hb dX1_strongest_85 hl (k := 1) rfl (by rw [e85_9]; rfl) (by decide) rfl (fun ls hl => ?_)
              refine lv_goto (tgt := 6) hx hb dX1_strongest_88 (by decide) ?_
              have hb2 : (bst σ ad.toInt wh.toInt kd.toInt dy.toInt (j + 1)) = none := by
                first | exact (bst_no (by omega)).trans hbs | exact bst_first (by omega) hbs | exact bst_up (by omega) hbs (by show (sR σ (oK (sO σ b)).toInt.toNat).toInt ≤ (sR σ (oK (sO σ j)).toInt.toNat).toInt; omega) | exact bst_keep (by omega) hbs (by show ¬ (sR σ (oK (sO σ b)).toInt.toNat).toInt ≤ (sR σ (oK (sO σ j)).toInt.toNat).toInt; omega)
              exact ih6 (j + 1) x85_9 (by omega) (by omega) v85_9 ls (by rw [hb2]; exact lv_sub hl [0, 2, 3, 4, 5, 6, 7] rfl)
            · have c50_8 : ¬ ((r47_7).toInt = 0) := mt (ti_eq (x := r47_7) (y := 0) (a := (r47_7).toInt) (b := 0) rfl rfl).mpr c50_8
              refine lv_aloadN hx hb dX1_strongest_53 (lv_at hl 2 rfl) ?_
              refine lv_ifnullN (tgt := 81) hx hb dX1_strongest_55 (by decide) ?_
              refine lv_aload hx hb dX1_strongest_81 (lv_at hl 0 rfl) ?_
              refine lv_astore (lv' := [(6, .ref (κ.2.2.2.2.1 j)), (8, .ref (κ.2.2.2.2.1 j)), (7, .int x7), (0, .ref a.1), (1, .int ad), (2, .int wh), (3, .int kd), (4, .long dy)]) hx hb dX1_strongest_83 hl (by decide) rfl (fun ls hl => ?_)
              obtain ⟨x85_10, e85_10⟩ : ∃ y : Int32, y = x7 + 1 := ⟨_, rfl⟩
              have v85_10 : (x85_10).toInt = (((j + 1) : Nat) : Int) := by rw [e85_10]; exact (ti_add (a := ((j : Nat) : Int)) (b := 1) ej rfl (by omega) (by omega)).trans (by omega)
              refine lv_iinc (v := x85_10) (lv' := [(7, .int x85_10), (6, .ref (κ.2.2.2.2.1 j)), (8, .ref (κ.2.2.2.2.1 j)), (0, .ref a.1), (1, .int ad), (2, .int wh), (3, .int kd), (4, .long dy)]) hx hb dX1_strongest_85 hl (k := 2) rfl (by rw [e85_10]; rfl) (by decide) rfl (fun ls hl => ?_)
              refine lv_goto (tgt := 6) hx hb dX1_strongest_88 (by decide) ?_
              have hb2 : (bst σ ad.toInt wh.toInt kd.toInt dy.toInt (j + 1)) = some j := by
                first | exact (bst_no (by omega)).trans hbs | exact bst_first (by omega) hbs | exact bst_up (by omega) hbs (by show (sR σ (oK (sO σ b)).toInt.toNat).toInt ≤ (sR σ (oK (sO σ j)).toInt.toNat).toInt; omega) | exact bst_keep (by omega) hbs (by show ¬ (sR σ (oK (sO σ b)).toInt.toNat).toInt ≤ (sR σ (oK (sO σ j)).toInt.toNat).toInt; omega)
              exact ih6 (j + 1) x85_10 (by omega) (by omega) v85_10 ls (by rw [hb2]; exact lv_sub hl [0, 1, 3, 4, 5, 6, 7] rfl)
      | some b =>
        rw [hbs] at hl
        have hl : lv_has ls 9 [(7, .int x7), (6, .ref (κ.2.2.2.2.1 b)), (0, .ref a.1), (1, .int ad), (2, .int wh), (3, .int kd), (4, .long dy)] := hl
        have hbj := bst_lt hbs
        have hbn : b < sN σ := by omega
        have hob := hI4 b hbn
        unfold OI at hob
        refine lv_iload hx hb dX1_strongest_6 (lv_at hl 0 rfl) ?_
        refine lv_aload_n hx hb dX1_strongest_8 rfl (lv_at hl 2 rfl) ?_
        refine va_get (D := G.1) (ci := 2) (v := .ref a.2.1) (own := RX1) (C := RX1) (T := TX1) (N := 6) hx hb hts hiX1 hown hK.1 hP 0 rfl rfl 0 (by decide) lf10 (fun _ h9 => h9) rfl dX1_strongest_9 ?_
        refine rdV_i (b := a.2.1) (As := []) (rest := [.int x7]) ⟨hx, hb, hml, hown, hts⟩ (c_Jx4a65c_size_8abf5 l G a.2.1 κ.1 (nI (sN σ)) _) cw52 hK (LW_one (CW_list hP)) 0 rfl rfl rfl rfl hl.1 rfl (Nat.le_of_ble_eq_true rfl) dX1_strongest_12 ⟨Nat.zero_le _, Nat.zero_le _⟩ (fun r11 w11 => ?_)
        have w11 : r11.toInt = (((sN σ) : Nat) : Int) := by rw [w11]; exact ti_nI (by omega)
        refine lv_icmp_ge (tgt := 91) hx hb dX1_strongest_15 (by decide) (fun c15_12 => ?_) (fun c15_12 => ?_)
        · have c15_12 : (((sN σ) : Nat) : Int) ≤ ((j : Nat) : Int) := (ti_le (x := r11) (y := x7) (a := (((sN σ) : Nat) : Int)) (b := ((j : Nat) : Int)) w11 ej).mp c15_12
          refine lv_aload hx hb dX1_strongest_91 (lv_at hl 1 rfl) ?_
          obtain rfl : j = sN σ := by omega
          exact hret _ _ (some (κ.2.2.2.2.1 b)) _ dX1_strongest_93 rfl (by rw [hbs]; rfl)
        · have c15_12 : ¬ ((((sN σ) : Nat) : Int) ≤ ((j : Nat) : Int)) := mt (ti_le (x := r11) (y := x7) (a := (((sN σ) : Nat) : Int)) (b := ((j : Nat) : Int)) w11 ej).mpr c15_12
          refine lv_aload_n hx hb dX1_strongest_18 rfl (lv_at hl 2 rfl) ?_
          refine va_get (D := G.1) (ci := 2) (v := .ref a.2.1) (own := RX1) (C := RX1) (T := TX1) (N := 6) hx hb hts hiX1 hown hK.1 hP 0 rfl rfl 0 (by decide) lf10 (fun _ h9 => h9) rfl dX1_strongest_19 ?_
          refine lv_iload hx hb dX1_strongest_22 (lv_at hl 0 rfl) ?_
          have hk13 : j < (sN σ) := by omega
          obtain ⟨hc13, hd13, he13⟩ := hC.1 (by omega)
          refine rdV_q (b := a.2.1) (As := [.int x7]) (rest := []) ⟨hx, hb, hml, hown, hts⟩ (c_Jx4a65c_get_915e3 l G a.2.1 κ.1 x7 κ.2.1 κ.2.2.1 (sN σ) j κ.2.2.2.1 ej hk13 hc13 (by omega)) cw114 hK (LW_pos (show (sN σ) ≠ 0 by omega) ▸ CW_list hP) 0 rfl rfl rfl rfl hl.1 rfl (Nat.le_of_ble_eq_true rfl) dX1_strongest_24 ⟨Nat.zero_le _, Nat.zero_le _⟩ (fun r13 w13 => ?_)
          obtain rfl : r13 = some (κ.2.2.2.2.1 j) := w13.trans (he13 j hk13)
          refine W.eq (g2 := F0 m 27 ls [.ref (κ.2.2.2.2.1 j)]) rfl ?_
          refine va_castS (own := RX1) (nm := RX0) hx hb hown cl56 (hK.1.1 1 _ rfl).2 (va_recv hK.1 hP (ci := 1) (q0 := j + 4) rfl (CW_get hk13)) dX1_strongest_27 ?_
          have hoj := hI4 j hk13
          unfold OI at hoj
          refine lv_astore (lv' := [(8, .ref (κ.2.2.2.2.1 j)), (7, .int x7), (6, .ref (κ.2.2.2.2.1 b)), (0, .ref a.1), (1, .int ad), (2, .int wh), (3, .int kd), (4, .long dy)]) hx hb dX1_strongest_30 hl (by decide) rfl (fun ls hl => ?_)
          refine lv_aload hx hb dX1_strongest_32 (lv_at hl 0 rfl) ?_
          refine lv_iload_n hx hb dX1_strongest_34 rfl (lv_at hl 4 rfl) ?_
          refine lv_iload_n hx hb dX1_strongest_35 rfl (lv_at hl 5 rfl) ?_
          refine lv_iload_n hx hb dX1_strongest_36 rfl (lv_at hl 6 rfl) ?_
          refine rdV_i (b := (κ.2.2.2.2.1 j)) (As := [.int ad, .int wh, .int kd]) (rest := []) ⟨hx, hb, hml, hown, hts⟩ (c_X0_concerns l G (κ.2.2.2.2.1 j) ((sO σ) j) ad wh kd (by omega)) cw129 hK (CW_ord hP hk13) 1 rfl rfl rfl rfl hl.1 rfl (Nat.le_of_ble_eq_true rfl) dX1_strongest_37 ⟨Nat.zero_le _, Nat.zero_le _⟩ (fun r37_14 w37_14 => ?_)
          have w37_14 : ((r37_14.toInt = 1 ∧ ((oE ((sO σ) j)).toInt = (ad).toInt ∧ ((oW ((sO σ) j)).toInt = -1 ∨ (oW ((sO σ) j)).toInt = (wh).toInt) ∧ (oK ((sO σ) j)).toInt % 3 = (kd).toInt)) ∨ (r37_14.toInt = 0 ∧ ¬ ((oE ((sO σ) j)).toInt = (ad).toInt ∧ ((oW ((sO σ) j)).toInt = -1 ∨ (oW ((sO σ) j)).toInt = (wh).toInt) ∧ (oK ((sO σ) j)).toInt % 3 = (kd).toInt))) := w37_14
          refine lv_if_eq (tgt := 85) hx hb dX1_strongest_40 (by decide) (fun c40_15 => ?_) (fun c40_15 => ?_)
          · have c40_15 : (r37_14).toInt = 0 := (ti_eq (x := r37_14) (y := 0) (a := (r37_14).toInt) (b := 0) rfl rfl).mp c40_15
            obtain ⟨x85_16, e85_16⟩ : ∃ y : Int32, y = x7 + 1 := ⟨_, rfl⟩
            have v85_16 : (x85_16).toInt = (((j + 1) : Nat) : Int) := by rw [e85_16]; exact (ti_add (a := ((j : Nat) : Int)) (b := 1) ej rfl (by omega) (by omega)).trans (by omega)
            refine lv_iinc (v := x85_16) (lv' := [(7, .int x85_16), (8, .ref (κ.2.2.2.2.1 j)), (6, .ref (κ.2.2.2.2.1 b)), (0, .ref a.1), (1, .int ad), (2, .int wh), (3, .int kd), (4, .long dy)]) hx hb dX1_strongest_85 hl (k := 1) rfl (by rw [e85_16]; rfl) (by decide) rfl (fun ls hl => ?_)
            refine lv_goto (tgt := 6) hx hb dX1_strongest_88 (by decide) ?_
            have hb2 : (bst σ ad.toInt wh.toInt kd.toInt dy.toInt (j + 1)) = some b := by
              first | exact (bst_no (by omega)).trans hbs | exact bst_first (by omega) hbs | exact bst_up (by omega) hbs (by show (sR σ (oK (sO σ b)).toInt.toNat).toInt ≤ (sR σ (oK (sO σ j)).toInt.toNat).toInt; omega) | exact bst_keep (by omega) hbs (by show ¬ (sR σ (oK (sO σ b)).toInt.toNat).toInt ≤ (sR σ (oK (sO σ j)).toInt.toNat).toInt; omega)
            exact ih6 (j + 1) x85_16 (by omega) (by omega) v85_16 ls (by rw [hb2]; exact lv_sub hl [0, 2, 3, 4, 5, 6, 7] rfl)
          · have c40_15 : ¬ ((r37_14).toInt = 0) := mt (ti_eq (x := r37_14) (y := 0) (a := (r37_14).toInt) (b := 0) rfl rfl).mpr c40_15
            refine lv_aload hx hb dX1_strongest_43 (lv_at hl 0 rfl) ?_
            refine lv_lload hx hb dX1_strongest_45 (lv_at hl 7 rfl) ?_
            refine rdV_i (b := (κ.2.2.2.2.1 j)) (As := [.long dy]) (rest := []) ⟨hx, hb, hml, hown, hts⟩ (c_X0_isInForce l G (κ.2.2.2.2.1 j) ((sO σ) j) dy) cw121 hK (CW_ord hP hk13) 1 rfl rfl rfl rfl hl.1 rfl (Nat.le_of_ble_eq_true rfl) dX1_strongest_47 ⟨Nat.zero_le _, Nat.zero_le _⟩ (fun r47_17 w47_17 => ?_)
            have w47_17 : ((r47_17.toInt = 1 ∧ ((oF ((sO σ) j)).toInt ≤ (dy).toInt ∧ (dy).toInt ≤ (oU ((sO σ) j)).toInt ∧ (dy).toInt < (oX ((sO σ) j)).toInt)) ∨ (r47_17.toInt = 0 ∧ ¬ ((oF ((sO σ) j)).toInt ≤ (dy).toInt ∧ (dy).toInt ≤ (oU ((sO σ) j)).toInt ∧ (dy).toInt < (oX ((sO σ) j)).toInt))) := w47_17
            refine lv_if_eq (tgt := 85) hx hb dX1_strongest_50 (by decide) (fun c50_18 => ?_) (fun c50_18 => ?_)
            · have c50_18 : (r47_17).toInt = 0 := (ti_eq (x := r47_17) (y := 0) (a := (r47_17).toInt) (b := 0) rfl rfl).mp c50_18
              obtain ⟨x85_19, e85_19⟩ : ∃ y : Int32, y = x7 + 1 := ⟨_, rfl⟩
              have v85_19 : (x85_19).toInt = (((j + 1) : Nat) : Int) := by rw [e85_19]; exact (ti_add (a := ((j : Nat) : Int)) (b := 1) ej rfl (by omega) (by omega)).trans (by omega)
              refine lv_iinc (v := x85_19) (lv' := [(7, .int x85_19), (8, .ref (κ.2.2.2.2.1 j)), (6, .ref (κ.2.2.2.2.1 b)), (0, .ref a.1), (1, .int ad), (2, .int wh), (3, .int kd), (4, .long dy)]) hx hb dX1_strongest_85 hl (k := 1) rfl (by rw [e85_19]; rfl) (by decide) rfl (fun ls hl => ?_)
              refine lv_goto (tgt := 6) hx hb dX1_strongest_88 (by decide) ?_
              have hb2 : (bst σ ad.toInt wh.toInt kd.toInt dy.toInt (j + 1)) = some b := by
                first | exact (bst_no (by omega)).trans hbs | exact bst_first (by omega) hbs | exact bst_up (by omega) hbs (by show (sR σ (oK (sO σ b)).toInt.toNat).toInt ≤ (sR σ (oK (sO σ j)).toInt.toNat).toInt; omega) | exact bst_keep (by omega) hbs (by show ¬ (sR σ (oK (sO σ b)).toInt.toNat).toInt ≤ (sR σ (oK (sO σ j)).toInt.toNat).toInt; omega)
              exact ih6 (j + 1) x85_19 (by omega) (by omega) v85_19 ls (by rw [hb2]; exact lv_sub hl [0, 2, 3, 4, 5, 6, 7] rfl)
            · have c50_18 : ¬ ((r47_17).toInt = 0) := mt (ti_eq (x := r47_17) (y := 0) (a := (r47_17).toInt) (b := 0) rfl rfl).mpr c50_18
              refine lv_aload hx hb dX1_strongest_53 (lv_at hl 2 rfl) ?_
              refine lv_ifnull hx hb dX1_strongest_55 ?_
              refine lv_aload_n hx hb dX1_strongest_58 rfl (lv_at hl 3 rfl) ?_
              refine va_get (D := G.1) (ci := 2) (v := .ref a.2.2.1) (own := RX1) (C := RX1) (T := TX1) (N := 6) hx hb hts hiX1 hown hK.1 hP 0 rfl rfl 1 (by decide) lf16 (fun _ h9 => h9) rfl dX1_strongest_59 ?_
              refine lv_aload hx hb dX1_strongest_62 (lv_at hl 0 rfl) ?_
              refine va_get (D := G.1) (ci := 1) (v := .int (oK ((sO σ) j))) (own := RX1) (C := RX0) (T := TX0) (N := 9) hx hb hts hiX0 hown hK.1 hP (j + 4) (CW_get hk13) rfl 0 (by decide) lf105 (fun _ h9 => h9) rfl dX1_strongest_64 ?_
              refine my_iald hx hb hK hP 1 rfl (((oK ((sO σ) j))).toInt.toNat) (show ((oK ((sO σ) j))).toInt = ((((oK ((sO σ) j))).toInt.toNat : Nat) : Int) by omega) (by omega) dX1_strongest_67 ?_
              refine lv_aload_n hx hb dX1_strongest_68 rfl (lv_at hl 3 rfl) ?_
              refine va_get (D := G.1) (ci := 2) (v := .ref a.2.2.1) (own := RX1) (C := RX1) (T := TX1) (N := 6) hx hb hts hiX1 hown hK.1 hP 0 rfl rfl 1 (by decide) lf16 (fun _ h9 => h9) rfl dX1_strongest_69 ?_
              refine lv_aload hx hb dX1_strongest_72 (lv_at hl 2 rfl) ?_
              refine va_get (D := G.1) (ci := 1) (v := .int (oK (sO σ b))) (own := RX1) (C := RX0) (T := TX0) (N := 9) hx hb hts hiX0 hown hK.1 hP (b + 4) (CW_get hbn) rfl 0 (by decide) lf105 (fun _ h9 => h9) rfl dX1_strongest_74 ?_
              refine my_iald hx hb hK hP 1 rfl (((oK (sO σ b))).toInt.toNat) (show ((oK (sO σ b))).toInt = ((((oK (sO σ b))).toInt.toNat : Nat) : Int) by omega) (by omega) dX1_strongest_77 ?_
              refine lv_icmp_lt (tgt := 85) hx hb dX1_strongest_78 (by decide) (fun c78_20 => ?_) (fun c78_20 => ?_)
              · have c78_20 : (((sR σ) (((oK ((sO σ) j))).toInt.toNat))).toInt < (((sR σ) (((oK (sO σ b))).toInt.toNat))).toInt := (ti_lt (x := ((sR σ) (((oK ((sO σ) j))).toInt.toNat))) (y := ((sR σ) (((oK (sO σ b))).toInt.toNat))) (a := (((sR σ) (((oK ((sO σ) j))).toInt.toNat))).toInt) (b := (((sR σ) (((oK (sO σ b))).toInt.toNat))).toInt) rfl rfl).mp c78_20
                obtain ⟨x85_21, e85_21⟩ : ∃ y : Int32, y = x7 + 1 := ⟨_, rfl⟩
                have v85_21 : (x85_21).toInt = (((j + 1) : Nat) : Int) := by rw [e85_21]; exact (ti_add (a := ((j : Nat) : Int)) (b := 1) ej rfl (by omega) (by omega)).trans (by omega)
                refine lv_iinc (v := x85_21) (lv' := [(7, .int x85_21), (8, .ref (κ.2.2.2.2.1 j)), (6, .ref (κ.2.2.2.2.1 b)), (0, .ref a.1), (1, .int ad), (2, .int wh), (3, .int kd), (4, .long dy)]) hx hb dX1_strongest_85 hl (k := 1) rfl (by rw [e85_21]; rfl) (by decide) rfl (fun ls hl => ?_)
                refine lv_goto (tgt := 6) hx hb dX1_strongest_88 (by decide) ?_
                have hb2 : (bst σ ad.toInt wh.toInt kd.toInt dy.toInt (j + 1)) = some b := by
                  first | exact (bst_no (by omega)).trans hbs | exact bst_first (by omega) hbs | exact bst_up (by omega) hbs (by show (sR σ (oK (sO σ b)).toInt.toNat).toInt ≤ (sR σ (oK (sO σ j)).toInt.toNat).toInt; omega) | exact bst_keep (by omega) hbs (by show ¬ (sR σ (oK (sO σ b)).toInt.toNat).toInt ≤ (sR σ (oK (sO σ j)).toInt.toNat).toInt; omega)
                exact ih6 (j + 1) x85_21 (by omega) (by omega) v85_21 ls (by rw [hb2]; exact lv_sub hl [0, 2, 3, 4, 5, 6, 7] rfl)
              · have c78_20 : ¬ ((((sR σ) (((oK ((sO σ) j))).toInt.toNat))).toInt < (((sR σ) (((oK (sO σ b))).toInt.toNat))).toInt) := mt (ti_lt (x := ((sR σ) (((oK ((sO σ) j))).toInt.toNat))) (y := ((sR σ) (((oK (sO σ b))).toInt.toNat))) (a := (((sR σ) (((oK ((sO σ) j))).toInt.toNat))).toInt) (b := (((sR σ) (((oK (sO σ b))).toInt.toNat))).toInt) rfl rfl).mpr c78_20
                refine lv_aload hx hb dX1_strongest_81 (lv_at hl 0 rfl) ?_
                refine lv_astore (lv' := [(6, .ref (κ.2.2.2.2.1 j)), (8, .ref (κ.2.2.2.2.1 j)), (7, .int x7), (0, .ref a.1), (1, .int ad), (2, .int wh), (3, .int kd), (4, .long dy)]) hx hb dX1_strongest_83 hl (by decide) rfl (fun ls hl => ?_)
                obtain ⟨x85_22, e85_22⟩ : ∃ y : Int32, y = x7 + 1 := ⟨_, rfl⟩
                have v85_22 : (x85_22).toInt = (((j + 1) : Nat) : Int) := by rw [e85_22]; exact (ti_add (a := ((j : Nat) : Int)) (b := 1) ej rfl (by omega) (by omega)).trans (by omega)
                refine lv_iinc (v := x85_22) (lv' := [(7, .int x85_22), (6, .ref (κ.2.2.2.2.1 j)), (8, .ref (κ.2.2.2.2.1 j)), (0, .ref a.1), (1, .int ad), (2, .int wh), (3, .int kd), (4, .long dy)]) hx hb dX1_strongest_85 hl (k := 2) rfl (by rw [e85_22]; rfl) (by decide) rfl (fun ls hl => ?_)
                refine lv_goto (tgt := 6) hx hb dX1_strongest_88 (by decide) ?_
                have hb2 : (bst σ ad.toInt wh.toInt kd.toInt dy.toInt (j + 1)) = some j := by
                  first | exact (bst_no (by omega)).trans hbs | exact bst_first (by omega) hbs | exact bst_up (by omega) hbs (by show (sR σ (oK (sO σ b)).toInt.toNat).toInt ≤ (sR σ (oK (sO σ j)).toInt.toNat).toInt; omega) | exact bst_keep (by omega) hbs (by show ¬ (sR σ (oK (sO σ b)).toInt.toNat).toInt ≤ (sR σ (oK (sO σ j)).toInt.toNat).toInt; omega)
                exact ih6 (j + 1) x85_22 (by omega) (by omega) v85_22 ls (by rw [hb2]; exact lv_sub hl [0, 1, 3, 4, 5, 6, 7] rfl)
  exact loop6 (sN σ + 1) 0 0 (by omega) (Nat.zero_le _) rfl ls (lv_sub hl [0, 1, 2, 3, 4, 5, 6] rfl)

set_option maxHeartbeats 4000000 in
set_option maxRecDepth 100000 in
/-- told -/
theorem c_X1_told (l : Launch) (G : GG) (a : AD) (κ : KP) (σ : St) (hI : SI σ) (hC : CI κ σ) (s0 i : Int32) : RdI l yX1_told wsX1_told (rmX 3 110 0 0) G [.ref a.1, .int s0, .int i] (WC G a κ σ) (fun r => r = fTold σ s0 i) := by
  refine rd_of_i (cc := cX1_told) (maxL := 6) (t := .int) (by decide +kernel) rfl (Nat.le_of_ble_eq_true rfl) nar_int ?_
  intro p e s m args below meth c Q hx hb hml hown hts hP hK hret ls hl
  have hown : s.vm.findClass RX1 = some m.cls := hown
  have hl : lv_has ls 6 [(0, .ref a.1), (1, .int s0), (2, .int i)] := hl
  have hP : va_P G.1 vwCl (CW G a (nI (sG σ).length) (sT σ) (sR σ) κ.2.2.2.2.2.1 κ.2.2.2.2.2.2 (pO κ.2.2.2.2.1 (sO σ) (sN σ)) (LW G a.2.1 κ.1 κ.2.1 κ.2.2.1 κ.2.2.2.1 (sN σ))) s.heap := hP
  obtain ⟨hI1, hI2, hI3, hI4, hI5⟩ := id hI
  have cw45 := va_cwS (R := (rmX 3 110 0 0)) (s := s) (args := args) (rm := (rmX 0 0 0 0)) (mc := 0) (ms := 0) 1 hts gX1_told_X1_isPerson rfl rfl rfl (by decide +kernel) ⟨Nat.le_of_ble_eq_true rfl, Nat.le_of_ble_eq_true rfl⟩
  have hiX1 := (show ∀ w ∈ u_ws RX1 TX1 6, w ∈ wsX1_told by decide +kernel)
  have lf10 := hts (.fieldLink RX1 10 "OrderRows2" "orders" "Ljava/util/ArrayList;") (by decide +kernel)
  have cw52 := cwV (R := (rmX 3 110 0 0)) (s := s) (args := args) (rm := (rmX 0 0 0 0)) (mc := 0) (ms := 0) 0 hts gX1_told_Jx4a65c_size_8abf5 rfl rfl rfl (by decide +kernel) ⟨Nat.le_of_ble_eq_true rfl, Nat.le_of_ble_eq_true rfl⟩
  have cw114 := cwV (R := (rmX 3 110 0 0)) (s := s) (args := args) (rm := (rmX 2 70 0 0)) (mc := 0) (ms := 0) 1 hts gX1_told_Jx4a65c_get_915e3 rfl rfl rfl (by decide +kernel) ⟨Nat.le_of_ble_eq_true rfl, Nat.le_of_ble_eq_true rfl⟩
  have cl56 := hts (.classLink RX1 56 RX0) (by decide +kernel)
  have hiX0 := (show ∀ w ∈ u_ws RX0 TX0 9, w ∈ wsX1_told by decide +kernel)
  have lf118 := hts (.fieldLink RX1 118 "OrderRows2$Order" "who" "I") (by decide +kernel)
  have lf80 := hts (.fieldLink RX1 80 "OrderRows2$Order" "isProved" "Z") (by decide +kernel)
  have cw102 := cwV (R := (rmX 3 110 0 0)) (s := s) (args := args) (rm := (rmX 1 40 0 0)) (mc := 0) (ms := 0) 0 hts gX1_told_X0_sendsOn rfl rfl rfl (by decide +kernel) ⟨Nat.le_of_ble_eq_true rfl, Nat.le_of_ble_eq_true rfl⟩
  have lf30 := hts (.fieldLink RX1 30 "OrderRows2" "clock" "J") (by decide +kernel)
  have cw121 := cwV (R := (rmX 3 110 0 0)) (s := s) (args := args) (rm := (rmX 0 0 0 0)) (mc := 0) (ms := 0) 1 hts gX1_told_X0_isInForce rfl rfl rfl (by decide +kernel) ⟨Nat.le_of_ble_eq_true rfl, Nat.le_of_ble_eq_true rfl⟩
  refine lv_iload_n hx hb dX1_told_0 rfl (lv_at hl 1 rfl) ?_
  refine rdS_i (As := [.int s0]) (rest := []) ⟨hx, hb, hml, hown, hts⟩ (c_X1_isPerson l G s0) cw45 hK va_P.nil rfl hl.1 rfl (Nat.le_of_ble_eq_true rfl) dX1_told_1 ⟨Nat.zero_le _, Nat.zero_le _⟩ (fun r1_1 w1_1 => ?_)
  have w1_1 : ((r1_1.toInt = 1 ∧ (0 ≤ (s0).toInt ∧ (s0).toInt ≤ 49)) ∨ (r1_1.toInt = 0 ∧ ¬ (0 ≤ (s0).toInt ∧ (s0).toInt ≤ 49))) := w1_1
  refine lv_if_ne (tgt := 10) hx hb dX1_told_4 (by decide) (fun c4_2 => ?_) (fun c4_2 => ?_)
  · have c4_2 : ¬ ((r1_1).toInt = 0) := mt (ti_eq (x := r1_1) (y := 0) (a := (r1_1).toInt) (b := 0) rfl rfl).mpr c4_2
    refine lv_iconst (v := 0) hx hb dX1_told_10 (by decide) ?_
    refine lv_istore_n (lv' := [(3, .int 0), (0, .ref a.1), (1, .int s0), (2, .int i)]) hx hb dX1_told_11 rfl hl (by decide) rfl (fun ls hl => ?_)
    refine lv_iconst (v := 0) hx hb dX1_told_12 (by decide) ?_
    refine lv_istore (lv' := [(4, .int 0), (3, .int 0), (0, .ref a.1), (1, .int s0), (2, .int i)]) hx hb dX1_told_13 hl (by decide) rfl (fun ls hl => ?_)
    have loop15 : ∀ (fu : Nat) (k cn : Nat) (x4 x3 : Int32), sN σ < k + fu → k ≤ sN σ → cn ≤ k → x4.toInt = (k : Int) → x3.toInt = (cn : Int) → tdL σ s0.toInt i.toInt (sN σ - k) k cn = tdL σ s0.toInt i.toInt (sN σ) 0 0 → ∀ ls : Array Slot, lv_has ls 6 [(4, .int x4), (3, .int x3), (0, .ref a.1), (1, .int s0), (2, .int i)] → W p l e (rmX 3 110 0 0) s m args below meth c s.heap [] 0 0 Q (F0 m 15 ls []) := by
      intro fu
      induction fu with
      | zero =>
        intro k cn x4 x3 hfu hkn hcn e4 e3 hT
        exact absurd hfu (by omega)
      | succ fu ih15 =>
        intro k cn x4 x3 hfu hkn hcn e4 e3 hT ls hl
        refine lv_iload hx hb dX1_told_15 (lv_at hl 0 rfl) ?_
        refine lv_aload_n hx hb dX1_told_17 rfl (lv_at hl 2 rfl) ?_
        refine va_get (D := G.1) (ci := 2) (v := .ref a.2.1) (own := RX1) (C := RX1) (T := TX1) (N := 6) hx hb hts hiX1 hown hK.1 hP 0 rfl rfl 0 (by decide) lf10 (fun _ h9 => h9) rfl dX1_told_18 ?_
        refine rdV_i (b := a.2.1) (As := []) (rest := [.int x4]) ⟨hx, hb, hml, hown, hts⟩ (c_Jx4a65c_size_8abf5 l G a.2.1 κ.1 (nI (sN σ)) _) cw52 hK (LW_one (CW_list hP)) 0 rfl rfl rfl rfl hl.1 rfl (Nat.le_of_ble_eq_true rfl) dX1_told_21 ⟨Nat.zero_le _, Nat.zero_le _⟩ (fun r3 w3 => ?_)
        have w3 : r3.toInt = (((sN σ) : Nat) : Int) := by rw [w3]; exact ti_nI (by omega)
        refine lv_icmp_ge (tgt := 97) hx hb dX1_told_24 (by decide) (fun c24_4 => ?_) (fun c24_4 => ?_)
        · have c24_4 : (((sN σ) : Nat) : Int) ≤ ((k : Nat) : Int) := (ti_le (x := r3) (y := x4) (a := (((sN σ) : Nat) : Int)) (b := ((k : Nat) : Int)) w3 e4).mp c24_4
          refine lv_iconst (v := 0) hx hb dX1_told_97 (by decide) ?_
          have er : sN σ - k = 0 := by omega
          rw [er] at hT
          exact hret _ _ _ dX1_told_98 (Or.inr (Or.inr rfl)) ((if_neg (show ¬ ¬ (0 ≤ s0.toInt ∧ s0.toInt ≤ 49) by omega)).trans hT.symm).symm
        · have c24_4 : ¬ ((((sN σ) : Nat) : Int) ≤ ((k : Nat) : Int)) := mt (ti_le (x := r3) (y := x4) (a := (((sN σ) : Nat) : Int)) (b := ((k : Nat) : Int)) w3 e4).mpr c24_4
          refine lv_aload_n hx hb dX1_told_27 rfl (lv_at hl 2 rfl) ?_
          refine va_get (D := G.1) (ci := 2) (v := .ref a.2.1) (own := RX1) (C := RX1) (T := TX1) (N := 6) hx hb hts hiX1 hown hK.1 hP 0 rfl rfl 0 (by decide) lf10 (fun _ h9 => h9) rfl dX1_told_28 ?_
          refine lv_iload hx hb dX1_told_31 (lv_at hl 0 rfl) ?_
          have hk5 : k < (sN σ) := by omega
          obtain ⟨hc5, hd5, he5⟩ := hC.1 (by omega)
          refine rdV_q (b := a.2.1) (As := [.int x4]) (rest := []) ⟨hx, hb, hml, hown, hts⟩ (c_Jx4a65c_get_915e3 l G a.2.1 κ.1 x4 κ.2.1 κ.2.2.1 (sN σ) k κ.2.2.2.1 e4 hk5 hc5 (by omega)) cw114 hK (LW_pos (show (sN σ) ≠ 0 by omega) ▸ CW_list hP) 0 rfl rfl rfl rfl hl.1 rfl (Nat.le_of_ble_eq_true rfl) dX1_told_33 ⟨Nat.zero_le _, Nat.zero_le _⟩ (fun r5 w5 => ?_)
          obtain rfl : r5 = some (κ.2.2.2.2.1 k) := w5.trans (he5 k hk5)
          refine W.eq (g2 := F0 m 36 ls [.ref (κ.2.2.2.2.1 k)]) rfl ?_
          refine va_castS (own := RX1) (nm := RX0) hx hb hown cl56 (hK.1.1 1 _ rfl).2 (va_recv hK.1 hP (ci := 1) (q0 := k + 4) rfl (CW_get hk5)) dX1_told_36 ?_
          have hoj := hI4 k hk5
          unfold OI at hoj
          refine lv_astore (lv' := [(5, .ref (κ.2.2.2.2.1 k)), (4, .int x4), (3, .int x3), (0, .ref a.1), (1, .int s0), (2, .int i)]) hx hb dX1_told_39 hl (by decide) rfl (fun ls hl => ?_)
          refine lv_aload hx hb dX1_told_41 (lv_at hl 0 rfl) ?_
          refine va_get (D := G.1) (ci := 1) (v := .int (oW ((sO σ) k))) (own := RX1) (C := RX0) (T := TX0) (N := 9) hx hb hts hiX0 hown hK.1 hP (k + 4) (CW_get hk5) rfl 2 (by decide) lf118 (fun _ h9 => h9) rfl dX1_told_43 ?_
          refine lv_iload_n hx hb dX1_told_46 rfl (lv_at hl 4 rfl) ?_
          refine lv_icmp_ne (tgt := 91) hx hb dX1_told_47 (by decide) (fun c47_6 => ?_) (fun c47_6 => ?_)
          · have c47_6 : ¬ (((oW ((sO σ) k))).toInt = (s0).toInt) := mt (ti_eq (x := (oW ((sO σ) k))) (y := s0) (a := ((oW ((sO σ) k))).toInt) (b := (s0).toInt) rfl rfl).mpr c47_6
            obtain ⟨x91_7, e91_7⟩ : ∃ y : Int32, y = x4 + 1 := ⟨_, rfl⟩
            have v91_7 : (x91_7).toInt = (((k + 1) : Nat) : Int) := by rw [e91_7]; exact (ti_add (a := ((k : Nat) : Int)) (b := 1) e4 rfl (by omega) (by omega)).trans (by omega)
            refine lv_iinc (v := x91_7) (lv' := [(4, .int x91_7), (5, .ref (κ.2.2.2.2.1 k)), (3, .int x3), (0, .ref a.1), (1, .int s0), (2, .int i)]) hx hb dX1_told_91 hl (k := 1) rfl (by rw [e91_7]; rfl) (by decide) rfl (fun ls hl => ?_)
            refine lv_goto (tgt := 15) hx hb dX1_told_94 (by decide) ?_
            have er : sN σ - k = (sN σ - (k + 1)) + 1 := by omega
            exact ih15 (k + 1) cn x91_7 x3 (by omega) (by omega) (by omega) v91_7 e3 (by rw [← hT, er]; exact (tdL_n (by omega)).symm) ls (lv_sub hl [0, 2, 3, 4, 5] rfl)
          · have c47_6 : ((oW ((sO σ) k))).toInt = (s0).toInt := (ti_eq (x := (oW ((sO σ) k))) (y := s0) (a := ((oW ((sO σ) k))).toInt) (b := (s0).toInt) rfl rfl).mp c47_6
            refine lv_aload hx hb dX1_told_50 (lv_at hl 0 rfl) ?_
            refine va_get (D := G.1) (ci := 1) (v := .int (oP ((sO σ) k))) (own := RX1) (C := RX0) (T := TX0) (N := 9) hx hb hts hiX0 hown hK.1 hP (k + 4) (CW_get hk5) rfl 8 (by decide) lf80 (fun _ h9 => h9) rfl dX1_told_52 ?_
            refine lv_if_eq (tgt := 91) hx hb dX1_told_55 (by decide) (fun c55_8 => ?_) (fun c55_8 => ?_)
            · have c55_8 : ((oP ((sO σ) k))).toInt = 0 := (ti_eq (x := (oP ((sO σ) k))) (y := 0) (a := ((oP ((sO σ) k))).toInt) (b := 0) rfl rfl).mp c55_8
              obtain ⟨x91_9, e91_9⟩ : ∃ y : Int32, y = x4 + 1 := ⟨_, rfl⟩
              have v91_9 : (x91_9).toInt = (((k + 1) : Nat) : Int) := by rw [e91_9]; exact (ti_add (a := ((k : Nat) : Int)) (b := 1) e4 rfl (by omega) (by omega)).trans (by omega)
              refine lv_iinc (v := x91_9) (lv' := [(4, .int x91_9), (5, .ref (κ.2.2.2.2.1 k)), (3, .int x3), (0, .ref a.1), (1, .int s0), (2, .int i)]) hx hb dX1_told_91 hl (k := 1) rfl (by rw [e91_9]; rfl) (by decide) rfl (fun ls hl => ?_)
              refine lv_goto (tgt := 15) hx hb dX1_told_94 (by decide) ?_
              have er : sN σ - k = (sN σ - (k + 1)) + 1 := by omega
              exact ih15 (k + 1) cn x91_9 x3 (by omega) (by omega) (by omega) v91_9 e3 (by rw [← hT, er]; exact (tdL_n (by omega)).symm) ls (lv_sub hl [0, 2, 3, 4, 5] rfl)
            · have c55_8 : ¬ (((oP ((sO σ) k))).toInt = 0) := mt (ti_eq (x := (oP ((sO σ) k))) (y := 0) (a := ((oP ((sO σ) k))).toInt) (b := 0) rfl rfl).mpr c55_8
              refine lv_aload hx hb dX1_told_58 (lv_at hl 0 rfl) ?_
              refine rdV_i (b := (κ.2.2.2.2.1 k)) (As := []) (rest := []) ⟨hx, hb, hml, hown, hts⟩ (c_X0_sendsOn l G (κ.2.2.2.2.1 k) ((sO σ) k)  (by omega)) cw102 hK (CW_ord hP hk5) 1 rfl rfl rfl rfl hl.1 rfl (Nat.le_of_ble_eq_true rfl) dX1_told_60 ⟨Nat.zero_le _, Nat.zero_le _⟩ (fun r60_10 w60_10 => ?_)
              have w60_10 : ((r60_10.toInt = 1 ∧ ((oK ((sO σ) k)).toInt < 3)) ∨ (r60_10.toInt = 0 ∧ ¬ ((oK ((sO σ) k)).toInt < 3))) := w60_10
              refine lv_if_eq (tgt := 91) hx hb dX1_told_63 (by decide) (fun c63_11 => ?_) (fun c63_11 => ?_)
              · have c63_11 : (r60_10).toInt = 0 := (ti_eq (x := r60_10) (y := 0) (a := (r60_10).toInt) (b := 0) rfl rfl).mp c63_11
                obtain ⟨x91_12, e91_12⟩ : ∃ y : Int32, y = x4 + 1 := ⟨_, rfl⟩
                have v91_12 : (x91_12).toInt = (((k + 1) : Nat) : Int) := by rw [e91_12]; exact (ti_add (a := ((k : Nat) : Int)) (b := 1) e4 rfl (by omega) (by omega)).trans (by omega)
                refine lv_iinc (v := x91_12) (lv' := [(4, .int x91_12), (5, .ref (κ.2.2.2.2.1 k)), (3, .int x3), (0, .ref a.1), (1, .int s0), (2, .int i)]) hx hb dX1_told_91 hl (k := 1) rfl (by rw [e91_12]; rfl) (by decide) rfl (fun ls hl => ?_)
                refine lv_goto (tgt := 15) hx hb dX1_told_94 (by decide) ?_
                have er : sN σ - k = (sN σ - (k + 1)) + 1 := by omega
                exact ih15 (k + 1) cn x91_12 x3 (by omega) (by omega) (by omega) v91_12 e3 (by rw [← hT, er]; exact (tdL_n (by omega)).symm) ls (lv_sub hl [0, 2, 3, 4, 5] rfl)
              · have c63_11 : ¬ ((r60_10).toInt = 0) := mt (ti_eq (x := r60_10) (y := 0) (a := (r60_10).toInt) (b := 0) rfl rfl).mpr c63_11
                refine lv_aload hx hb dX1_told_66 (lv_at hl 0 rfl) ?_
                refine lv_aload_n hx hb dX1_told_68 rfl (lv_at hl 3 rfl) ?_
                refine va_get (D := G.1) (ci := 2) (v := .long (sT σ)) (own := RX1) (C := RX1) (T := TX1) (N := 6) hx hb hts hiX1 hown hK.1 hP 0 rfl rfl 5 (by decide) lf30 (fun _ h9 => h9) rfl dX1_told_69 ?_
                refine rdV_i (b := (κ.2.2.2.2.1 k)) (As := [.long (sT σ)]) (rest := []) ⟨hx, hb, hml, hown, hts⟩ (c_X0_isInForce l G (κ.2.2.2.2.1 k) ((sO σ) k) (sT σ)) cw121 hK (CW_ord hP hk5) 1 rfl rfl rfl rfl hl.1 rfl (Nat.le_of_ble_eq_true rfl) dX1_told_72 ⟨Nat.zero_le _, Nat.zero_le _⟩ (fun r72_13 w72_13 => ?_)
                have w72_13 : ((r72_13.toInt = 1 ∧ ((oF ((sO σ) k)).toInt ≤ ((sT σ)).toInt ∧ ((sT σ)).toInt ≤ (oU ((sO σ) k)).toInt ∧ ((sT σ)).toInt < (oX ((sO σ) k)).toInt)) ∨ (r72_13.toInt = 0 ∧ ¬ ((oF ((sO σ) k)).toInt ≤ ((sT σ)).toInt ∧ ((sT σ)).toInt ≤ (oU ((sO σ) k)).toInt ∧ ((sT σ)).toInt < (oX ((sO σ) k)).toInt))) := w72_13
                refine lv_if_eq (tgt := 91) hx hb dX1_told_75 (by decide) (fun c75_14 => ?_) (fun c75_14 => ?_)
                · have c75_14 : (r72_13).toInt = 0 := (ti_eq (x := r72_13) (y := 0) (a := (r72_13).toInt) (b := 0) rfl rfl).mp c75_14
                  obtain ⟨x91_15, e91_15⟩ : ∃ y : Int32, y = x4 + 1 := ⟨_, rfl⟩
                  have v91_15 : (x91_15).toInt = (((k + 1) : Nat) : Int) := by rw [e91_15]; exact (ti_add (a := ((k : Nat) : Int)) (b := 1) e4 rfl (by omega) (by omega)).trans (by omega)
                  refine lv_iinc (v := x91_15) (lv' := [(4, .int x91_15), (5, .ref (κ.2.2.2.2.1 k)), (3, .int x3), (0, .ref a.1), (1, .int s0), (2, .int i)]) hx hb dX1_told_91 hl (k := 1) rfl (by rw [e91_15]; rfl) (by decide) rfl (fun ls hl => ?_)
                  refine lv_goto (tgt := 15) hx hb dX1_told_94 (by decide) ?_
                  have er : sN σ - k = (sN σ - (k + 1)) + 1 := by omega
                  exact ih15 (k + 1) cn x91_15 x3 (by omega) (by omega) (by omega) v91_15 e3 (by rw [← hT, er]; exact (tdL_n (by omega)).symm) ls (lv_sub hl [0, 2, 3, 4, 5] rfl)
                · have c75_14 : ¬ ((r72_13).toInt = 0) := mt (ti_eq (x := r72_13) (y := 0) (a := (r72_13).toInt) (b := 0) rfl rfl).mpr c75_14
                  refine lv_iload_n hx hb dX1_told_78 rfl (lv_at hl 2 rfl) ?_
                  refine lv_iload_n hx hb dX1_told_79 rfl (lv_at hl 5 rfl) ?_
                  refine lv_icmp_ne (tgt := 88) hx hb dX1_told_80 (by decide) (fun c80_16 => ?_) (fun c80_16 => ?_)
                  · have c80_16 : ¬ (((cn : Nat) : Int) = (i).toInt) := mt (ti_eq (x := x3) (y := i) (a := ((cn : Nat) : Int)) (b := (i).toInt) e3 rfl).mpr c80_16
                    obtain ⟨x88_17, e88_17⟩ : ∃ y : Int32, y = x3 + 1 := ⟨_, rfl⟩
                    have v88_17 : (x88_17).toInt = (((cn + 1) : Nat) : Int) := by rw [e88_17]; exact (ti_add (a := ((cn : Nat) : Int)) (b := 1) e3 rfl (by omega) (by omega)).trans (by omega)
                    refine lv_iinc (v := x88_17) (lv' := [(3, .int x88_17), (5, .ref (κ.2.2.2.2.1 k)), (4, .int x4), (0, .ref a.1), (1, .int s0), (2, .int i)]) hx hb dX1_told_88 hl (k := 2) rfl (by rw [e88_17]; rfl) (by decide) rfl (fun ls hl => ?_)
                    obtain ⟨x91_18, e91_18⟩ : ∃ y : Int32, y = x4 + 1 := ⟨_, rfl⟩
                    have v91_18 : (x91_18).toInt = (((k + 1) : Nat) : Int) := by rw [e91_18]; exact (ti_add (a := ((k : Nat) : Int)) (b := 1) e4 rfl (by omega) (by omega)).trans (by omega)
                    refine lv_iinc (v := x91_18) (lv' := [(4, .int x91_18), (3, .int x88_17), (5, .ref (κ.2.2.2.2.1 k)), (0, .ref a.1), (1, .int s0), (2, .int i)]) hx hb dX1_told_91 hl (k := 2) rfl (by rw [e91_18]; rfl) (by decide) rfl (fun ls hl => ?_)
                    refine lv_goto (tgt := 15) hx hb dX1_told_94 (by decide) ?_
                    have er : sN σ - k = (sN σ - (k + 1)) + 1 := by omega
                    exact ih15 (k + 1) (cn + 1) x91_18 x88_17 (by omega) (by omega) (by omega) v91_18 v88_17 (by rw [← hT, er]; exact (tdL_m (by omega) (by omega)).symm) ls (lv_sub hl [0, 1, 3, 4, 5] rfl)
                  · have c80_16 : ((cn : Nat) : Int) = (i).toInt := (ti_eq (x := x3) (y := i) (a := ((cn : Nat) : Int)) (b := (i).toInt) e3 rfl).mp c80_16
                    refine lv_iload hx hb dX1_told_83 (lv_at hl 1 rfl) ?_
                    refine lv_iconst (v := 1) hx hb dX1_told_85 (by decide) ?_
                    refine lv_iadd hx hb dX1_told_86 ?_
                    refine lv_topi (fun y86_19 e86_19 => ?_)
                    have v86_19 : (y86_19).toInt = (((k + 1) : Nat) : Int) := by rw [e86_19]; exact (ti_add (a := ((k : Nat) : Int)) (b := 1) e4 rfl (by omega) (by omega)).trans (by omega)
                    have er : sN σ - k = (sN σ - (k + 1)) + 1 := by omega
                    rw [er] at hT
                    exact hret _ _ _ dX1_told_87 (Or.inr (Or.inr rfl)) ((nI_ofI v86_19).trans (((if_neg (show ¬ ¬ (0 ≤ s0.toInt ∧ s0.toInt ≤ 49) by omega)).trans (hT.symm.trans (tdL_y (by omega) (by omega)))).symm))
    exact loop15 (sN σ + 1) 0 0 0 0 (by omega) (Nat.zero_le _) (Nat.le_refl _) rfl rfl rfl ls (lv_sub hl [0, 1, 2, 3, 4] rfl)
  · have c4_2 : (r1_1).toInt = 0 := (ti_eq (x := r1_1) (y := 0) (a := (r1_1).toInt) (b := 0) rfl rfl).mp c4_2
    refine lv_bipush (v := (-101)) hx hb dX1_told_7 (by decide) ?_
    exact hret _ _ _ dX1_told_9 (Or.inr (Or.inr rfl)) (if_pos (by omega)).symm

set_option maxHeartbeats 4000000 in
set_option maxRecDepth 100000 in
/-- moveClock -/
theorem c_X1_moveClock (l : Launch) (G : GG) (a : AD) (κ : KP) (σ : St) (hI : SI σ) (hC : CI κ σ) (t : Int64) : WrI l yX1_moveClock wsX1_moveClock (rmX 3 110 0 0) G [.ref a.1, .long t] (WC G a κ σ) (fun (r : Int32) (u : Unit) => r = nI (cntL σ t.toInt (sN σ))) (fun u : Unit => WC G a κ (mvS σ t)) 0 0 := by
  refine wr_of_i (cc := cX1_moveClock) (maxL := 5) (t := .int) (by decide +kernel) rfl (Nat.le_of_ble_eq_true rfl) nar_int ?_
  intro p e s m args below meth c Q A hx hb hml hown hts hK hZ hA hret ls hl hP hD hS
  have hown : s.vm.findClass RX1 = some m.cls := hown
  have hl : lv_has ls 5 [(0, .ref a.1), (1, .long t)] := hl
  have hP : va_P G.1 vwCl (CW G a (nI (sG σ).length) (sT σ) (sR σ) κ.2.2.2.2.2.1 κ.2.2.2.2.2.2 (pO κ.2.2.2.2.1 (sO σ) (sN σ)) (LW G a.2.1 κ.1 κ.2.1 κ.2.2.1 κ.2.2.2.1 (sN σ))) s.heap := hP
  have hD : va_D A (CW G a (nI (sG σ).length) (sT σ) (sR σ) κ.2.2.2.2.2.1 κ.2.2.2.2.2.2 (pO κ.2.2.2.2.1 (sO σ) (sN σ)) (LW G a.2.1 κ.1 κ.2.1 κ.2.2.1 κ.2.2.2.1 (sN σ))) := hD
  obtain ⟨hI1, hI2, hI3, hI4, hI5⟩ := id hI
  have hiX1 := (show ∀ w ∈ u_ws RX1 TX1 6, w ∈ wsX1_moveClock by decide +kernel)
  have lf30 := hts (.fieldLink RX1 30 "OrderRows2" "clock" "J") (by decide +kernel)
  have lf10 := hts (.fieldLink RX1 10 "OrderRows2" "orders" "Ljava/util/ArrayList;") (by decide +kernel)
  have cw52 := cwV (R := (rmX 3 110 0 0)) (s := s) (args := args) (rm := (rmX 0 0 0 0)) (mc := 0) (ms := 0) 0 hts gX1_moveClock_Jx4a65c_size_8abf5 rfl rfl rfl (by decide +kernel) ⟨Nat.le_of_ble_eq_true rfl, Nat.le_of_ble_eq_true rfl⟩
  have cw114 := cwV (R := (rmX 3 110 0 0)) (s := s) (args := args) (rm := (rmX 2 70 0 0)) (mc := 0) (ms := 0) 1 hts gX1_moveClock_Jx4a65c_get_915e3 rfl rfl rfl (by decide +kernel) ⟨Nat.le_of_ble_eq_true rfl, Nat.le_of_ble_eq_true rfl⟩
  have cl56 := hts (.classLink RX1 56 RX0) (by decide +kernel)
  have cw126 := cwV (R := (rmX 3 110 0 0)) (s := s) (args := args) (rm := (rmX 1 40 0 0)) (mc := 0) (ms := 0) 1 hts gX1_moveClock_X0_lapseIfDue rfl rfl rfl (by decide +kernel) ⟨Nat.le_of_ble_eq_true rfl, Nat.le_of_ble_eq_true rfl⟩
  refine lv_aload_n hx hb dX1_moveClock_0 rfl (lv_at hl 0 rfl) ?_
  refine lv_lload_n hx hb dX1_moveClock_1 rfl (lv_at hl 1 rfl) ?_
  refine va_put (D := G.1) (ci := 2) (v := .long t) (ty := .long) (own := RX1) (C := RX1) (T := TX1) (N := 6) hx hb hts hiX1 tyX1 tyX1_ok nmX1 hown hK.1 hP hD hS 0 rfl rfl 5 (by decide) lf30 (fun _ h9 => h9) rfl (by decide +kernel) rfl rfl (Nat.le_of_ble_eq_true rfl) dX1_moveClock_2 (fun H locs hP hD hS => ?_)
  have hP : va_P G.1 vwCl (CW G a (nI (sG σ).length) t (sR σ) κ.2.2.2.2.2.1 κ.2.2.2.2.2.2 (pO κ.2.2.2.2.1 (sO σ) (sN σ)) (LW G a.2.1 κ.1 κ.2.1 κ.2.2.1 κ.2.2.2.1 (sN σ))) H := hP
  have hD : va_D A (CW G a (nI (sG σ).length) t (sR σ) κ.2.2.2.2.2.1 κ.2.2.2.2.2.2 (pO κ.2.2.2.2.1 (sO σ) (sN σ)) (LW G a.2.1 κ.1 κ.2.1 κ.2.2.1 κ.2.2.2.1 (sN σ))) := hD
  refine lv_iconst (v := 0) hx hb dX1_moveClock_5 (by decide) ?_
  refine lv_istore_n (lv' := [(3, .int 0), (0, .ref a.1), (1, .long t)]) hx hb dX1_moveClock_6 rfl hl (by decide) rfl (fun ls hl => ?_)
  refine lv_iconst (v := 0) hx hb dX1_moveClock_7 (by decide) ?_
  refine lv_istore (lv' := [(4, .int 0), (3, .int 0), (0, .ref a.1), (1, .long t)]) hx hb dX1_moveClock_8 hl (by decide) rfl (fun ls hl => ?_)
  have hP : va_P G.1 vwCl (CW G a (nI (sG σ).length) t (sR σ) κ.2.2.2.2.2.1 κ.2.2.2.2.2.2 (pO κ.2.2.2.2.1 (mvO σ t.toInt 0) (sN σ)) (LW G a.2.1 κ.1 κ.2.1 κ.2.2.1 κ.2.2.2.1 (sN σ))) H := by rw [mvO_0]; exact hP
  have hD : va_D A (CW G a (nI (sG σ).length) t (sR σ) κ.2.2.2.2.2.1 κ.2.2.2.2.2.2 (pO κ.2.2.2.2.1 (mvO σ t.toInt 0) (sN σ)) (LW G a.2.1 κ.1 κ.2.1 κ.2.2.1 κ.2.2.2.1 (sN σ))) := by rw [mvO_0]; exact hD
  have loop10 : ∀ (fu : Nat) (k : Nat) (x4 x3 : Int32), sN σ < k + fu → k ≤ sN σ → x4.toInt = (k : Int) → x3.toInt = ((cntL σ t.toInt k : Nat) : Int) → ∀ (H : Heap) (locs : List Loc), va_P G.1 vwCl (CW G a (nI (sG σ).length) t (sR σ) κ.2.2.2.2.2.1 κ.2.2.2.2.2.2 (pO κ.2.2.2.2.1 (mvO σ t.toInt k) (sN σ)) (LW G a.2.1 κ.1 κ.2.1 κ.2.2.1 κ.2.2.2.1 (sN σ))) H → va_D A (CW G a (nI (sG σ).length) t (sR σ) κ.2.2.2.2.2.1 κ.2.2.2.2.2.2 (pO κ.2.2.2.2.1 (mvO σ t.toInt k) (sN σ)) (LW G a.2.1 κ.1 κ.2.1 κ.2.2.1 κ.2.2.2.1 (sN σ))) → va_S A s.heap H locs → ∀ ls : Array Slot, lv_has ls 5 [(4, .int x4), (3, .int x3), (0, .ref a.1), (1, .long t)] → W p l e (rmX 3 110 0 0) s m args below meth c H locs 0 0 Q (F0 m 10 ls []) := by
    intro fu
    induction fu with
    | zero =>
      intro k x4 x3 hfu hkn e4 e3
      exact absurd hfu (by omega)
    | succ fu ih10 =>
      intro k x4 x3 hfu hkn e4 e3 H locs hP hD hS ls hl
      have hcl := cntL_le (σ := σ) (t := t.toInt) k
      refine lv_iload hx hb dX1_moveClock_10 (lv_at hl 0 rfl) ?_
      refine lv_aload_n hx hb dX1_moveClock_12 rfl (lv_at hl 2 rfl) ?_
      refine va_get (D := G.1) (ci := 2) (v := .ref a.2.1) (own := RX1) (C := RX1) (T := TX1) (N := 6) hx hb hts hiX1 hown hK.1 hP 0 rfl rfl 0 (by decide) lf10 (fun _ h9 => h9) rfl dX1_moveClock_13 ?_
      refine rdV_i (b := a.2.1) (As := []) (rest := [.int x4]) ⟨hx, hb, hml, hown, hts⟩ (c_Jx4a65c_size_8abf5 l G a.2.1 κ.1 (nI (sN σ)) _) cw52 hK (LW_one (CW_list hP)) 0 rfl rfl rfl rfl hl.1 rfl (Nat.le_of_ble_eq_true rfl) dX1_moveClock_16 ⟨Nat.zero_le _, Nat.zero_le _⟩ (fun r1 w1 => ?_)
      have w1 : r1.toInt = (((sN σ) : Nat) : Int) := by rw [w1]; exact ti_nI (by omega)
      refine lv_icmp_ge (tgt := 53) hx hb dX1_moveClock_19 (by decide) (fun c19_2 => ?_) (fun c19_2 => ?_)
      · have c19_2 : (((sN σ) : Nat) : Int) ≤ ((k : Nat) : Int) := (ti_le (x := r1) (y := x4) (a := (((sN σ) : Nat) : Int)) (b := ((k : Nat) : Int)) w1 e4).mp c19_2
        refine lv_iload_n hx hb dX1_moveClock_53 rfl (lv_at hl 1 rfl) ?_
        obtain rfl : k = sN σ := by omega
        exact hret _ _ _ _ _ _ _ () dX1_moveClock_54 (Or.inr (Or.inr rfl)) (nI_ofI e3) hP hD hS (Nat.le_refl _) (Nat.le_refl _)
      · have c19_2 : ¬ ((((sN σ) : Nat) : Int) ≤ ((k : Nat) : Int)) := mt (ti_le (x := r1) (y := x4) (a := (((sN σ) : Nat) : Int)) (b := ((k : Nat) : Int)) w1 e4).mpr c19_2
        refine lv_aload_n hx hb dX1_moveClock_22 rfl (lv_at hl 2 rfl) ?_
        refine va_get (D := G.1) (ci := 2) (v := .ref a.2.1) (own := RX1) (C := RX1) (T := TX1) (N := 6) hx hb hts hiX1 hown hK.1 hP 0 rfl rfl 0 (by decide) lf10 (fun _ h9 => h9) rfl dX1_moveClock_23 ?_
        refine lv_iload hx hb dX1_moveClock_26 (lv_at hl 0 rfl) ?_
        have hk3 : k < (sN σ) := by omega
        obtain ⟨hc3, hd3, he3⟩ := hC.1 (by omega)
        refine rdV_q (b := a.2.1) (As := [.int x4]) (rest := []) ⟨hx, hb, hml, hown, hts⟩ (c_Jx4a65c_get_915e3 l G a.2.1 κ.1 x4 κ.2.1 κ.2.2.1 (sN σ) k κ.2.2.2.1 e4 hk3 hc3 (by omega)) cw114 hK (LW_pos (show (sN σ) ≠ 0 by omega) ▸ CW_list hP) 0 rfl rfl rfl rfl hl.1 rfl (Nat.le_of_ble_eq_true rfl) dX1_moveClock_28 ⟨Nat.zero_le _, Nat.zero_le _⟩ (fun r3 w3 => ?_)
        obtain rfl : r3 = some (κ.2.2.2.2.1 k) := w3.trans (he3 k hk3)
        refine W.eq (g2 := F0 m 31 ls [.ref (κ.2.2.2.2.1 k)]) rfl ?_
        refine va_castS (own := RX1) (nm := RX0) hx hb hown cl56 (hK.1.1 1 _ rfl).2 (va_recv hK.1 hP (ci := 1) (q0 := k + 4) rfl (CW_get hk3)) dX1_moveClock_31 ?_
        have em : mvO σ t.toInt k k = sO σ k := mvO_at
        have hoj := hI4 k hk3
        unfold OI at hoj
        rw [← em] at hoj
        refine lv_aload_n hx hb dX1_moveClock_34 rfl (lv_at hl 2 rfl) ?_
        refine va_get (D := G.1) (ci := 2) (v := .long t) (own := RX1) (C := RX1) (T := TX1) (N := 6) hx hb hts hiX1 hown hK.1 hP 0 rfl rfl 5 (by decide) lf30 (fun _ h9 => h9) rfl dX1_moveClock_35 ?_
        refine wrV_raw (b := (κ.2.2.2.2.1 k)) (As := [.long t]) (rest := []) ⟨hx, hb, hml, hown, hts⟩ (c_X0_lapseIfDue l G (κ.2.2.2.2.1 k) (mvO σ t.toInt k k) t (by omega) (by omega)) cw126 hK hZ (CW_ord hP hk3) (CW_ordD hD hk3) hS hA 1 rfl rfl rfl rfl hl.1 rfl (Nat.le_of_ble_eq_true rfl) dX1_moveClock_38 ⟨Nat.zero_le _, Nat.zero_le _⟩ (fun r38_4 _ H1 locs w38_4 hP1 hk1 hS => ?_)
        have w38_4 : ((r38_4.toInt = 1 ∧ ((oP (mvO σ t.toInt k k)).toInt = 0 ∧ (oX (mvO σ t.toInt k k)).toInt = 20001 ∧ (oM (mvO σ t.toInt k k)).toInt + 14 < (t).toInt)) ∨ (r38_4.toInt = 0 ∧ ¬ ((oP (mvO σ t.toInt k k)).toInt = 0 ∧ (oX (mvO σ t.toInt k k)).toInt = 20001 ∧ (oM (mvO σ t.toInt k k)).toInt + 14 < (t).toInt))) := w38_4
        rw [em] at w38_4
        have hP2 := va_P.put1 hP hD (CW_get hk3) hP1 hk1
        rw [CW_set hk3, mvO_up] at hP2
        have hD2 := va_D.set (e := .inr (1, fl (lap1 t.toInt (mvO σ t.toInt k k)))) hD (CW_get hk3)
        rw [CW_set hk3, mvO_up] at hD2
        have hP : va_P G.1 vwCl (CW G a (nI (sG σ).length) t (sR σ) κ.2.2.2.2.2.1 κ.2.2.2.2.2.2 (pO κ.2.2.2.2.1 (mvO σ t.toInt (k + 1)) (sN σ)) (LW G a.2.1 κ.1 κ.2.1 κ.2.2.1 κ.2.2.2.1 (sN σ))) H1 := hP2
        have hD : va_D A (CW G a (nI (sG σ).length) t (sR σ) κ.2.2.2.2.2.1 κ.2.2.2.2.2.2 (pO κ.2.2.2.2.1 (mvO σ t.toInt (k + 1)) (sN σ)) (LW G a.2.1 κ.1 κ.2.1 κ.2.2.1 κ.2.2.2.1 (sN σ))) := hD2
        generalize H1 = H at hP hS ⊢
        refine lv_if_eq (tgt := 47) hx hb dX1_moveClock_41 (by decide) (fun c41_5 => ?_) (fun c41_5 => ?_)
        · have c41_5 : (r38_4).toInt = 0 := (ti_eq (x := r38_4) (y := 0) (a := (r38_4).toInt) (b := 0) rfl rfl).mp c41_5
          obtain ⟨x47_6, e47_6⟩ : ∃ y : Int32, y = x4 + 1 := ⟨_, rfl⟩
          have v47_6 : (x47_6).toInt = (((k + 1) : Nat) : Int) := by rw [e47_6]; exact (ti_add (a := ((k : Nat) : Int)) (b := 1) e4 rfl (by omega) (by omega)).trans (by omega)
          refine lv_iinc (v := x47_6) (lv' := [(4, .int x47_6), (3, .int x3), (0, .ref a.1), (1, .long t)]) hx hb dX1_moveClock_47 hl (k := 0) rfl (by rw [e47_6]; rfl) (by decide) rfl (fun ls hl => ?_)
          refine lv_goto (tgt := 10) hx hb dX1_moveClock_50 (by decide) ?_
          have hcn := cntL_n (σ := σ) (t := t.toInt) (k := k) (by omega)
          exact ih10 (k + 1) x47_6 x3 (by omega) (by omega) v47_6 (e3.trans (by omega)) _ _ hP hD hS ls (lv_sub hl [0, 1, 2, 3] rfl)
        · have c41_5 : ¬ ((r38_4).toInt = 0) := mt (ti_eq (x := r38_4) (y := 0) (a := (r38_4).toInt) (b := 0) rfl rfl).mpr c41_5
          obtain ⟨x44_7, e44_7⟩ : ∃ y : Int32, y = x3 + 1 := ⟨_, rfl⟩
          have v44_7 : (x44_7).toInt = ((((cntL σ t.toInt k) + 1) : Nat) : Int) := by rw [e44_7]; exact (ti_add (a := (((cntL σ t.toInt k) : Nat) : Int)) (b := 1) e3 rfl (by omega) (by omega)).trans (by omega)
          refine lv_iinc (v := x44_7) (lv' := [(3, .int x44_7), (4, .int x4), (0, .ref a.1), (1, .long t)]) hx hb dX1_moveClock_44 hl (k := 1) rfl (by rw [e44_7]; rfl) (by decide) rfl (fun ls hl => ?_)
          obtain ⟨x47_8, e47_8⟩ : ∃ y : Int32, y = x4 + 1 := ⟨_, rfl⟩
          have v47_8 : (x47_8).toInt = (((k + 1) : Nat) : Int) := by rw [e47_8]; exact (ti_add (a := ((k : Nat) : Int)) (b := 1) e4 rfl (by omega) (by omega)).trans (by omega)
          refine lv_iinc (v := x47_8) (lv' := [(4, .int x47_8), (3, .int x44_7), (0, .ref a.1), (1, .long t)]) hx hb dX1_moveClock_47 hl (k := 1) rfl (by rw [e47_8]; rfl) (by decide) rfl (fun ls hl => ?_)
          refine lv_goto (tgt := 10) hx hb dX1_moveClock_50 (by decide) ?_
          have hcn := cntL_y (σ := σ) (t := t.toInt) (k := k) (by omega)
          exact ih10 (k + 1) x47_8 x44_7 (by omega) (by omega) v47_8 (v44_7.trans (by omega)) _ _ hP hD hS ls (lv_sub hl [0, 1, 2, 3] rfl)
  exact loop10 (sN σ + 1) 0 0 0 (by omega) (Nat.zero_le _) rfl rfl _ _ hP hD hS ls (lv_sub hl [0, 1, 2, 3] rfl)

set_option maxHeartbeats 4000000 in
set_option maxRecDepth 100000 in
/-- tick -/
theorem c_X1_tick (l : Launch) (G : GG) (a : AD) (κ : KP) (σ : St) (hI : SI σ) (hC : CI κ σ) (t : Int64) : WrI l yX1_tick wsX1_tick (rmX 4 140 0 0) G [.ref a.1, .long t] (WC G a κ σ) (fun (r : Int32) (u : Unit) => r = (fTick σ t).1) (fun u : Unit => WC G a κ (fTick σ t).2) 0 0 := by
  refine wr_of_i (cc := cX1_tick) (maxL := 3) (t := .int) (by decide +kernel) rfl (Nat.le_of_ble_eq_true rfl) nar_int ?_
  intro p e s m args below meth c Q A hx hb hml hown hts hK hZ hA hret ls hl hP hD hS
  have hown : s.vm.findClass RX1 = some m.cls := hown
  have hl : lv_has ls 3 [(0, .ref a.1), (1, .long t)] := hl
  have hP : va_P G.1 vwCl (CW G a (nI (sG σ).length) (sT σ) (sR σ) κ.2.2.2.2.2.1 κ.2.2.2.2.2.2 (pO κ.2.2.2.2.1 (sO σ) (sN σ)) (LW G a.2.1 κ.1 κ.2.1 κ.2.2.1 κ.2.2.2.1 (sN σ))) s.heap := hP
  have hD : va_D A (CW G a (nI (sG σ).length) (sT σ) (sR σ) κ.2.2.2.2.2.1 κ.2.2.2.2.2.2 (pO κ.2.2.2.2.1 (sO σ) (sN σ)) (LW G a.2.1 κ.1 κ.2.1 κ.2.2.1 κ.2.2.2.1 (sN σ))) := hD
  obtain ⟨hI1, hI2, hI3, hI4, hI5⟩ := id hI
  have cw69 := cwV (R := (rmX 4 140 0 0)) (s := s) (args := args) (rm := (rmX 1 40 0 0)) (mc := 0) (ms := 0) 1 hts gX1_tick_X1_canBeClock rfl rfl rfl (by decide +kernel) ⟨Nat.le_of_ble_eq_true rfl, Nat.le_of_ble_eq_true rfl⟩
  have cw72 := cwV (R := (rmX 4 140 0 0)) (s := s) (args := args) (rm := (rmX 3 110 0 0)) (mc := 0) (ms := 0) 1 hts gX1_tick_X1_moveClock rfl rfl rfl (by decide +kernel) ⟨Nat.le_of_ble_eq_true rfl, Nat.le_of_ble_eq_true rfl⟩
  refine lv_aload_n hx hb dX1_tick_0 rfl (lv_at hl 0 rfl) ?_
  refine lv_lload_n hx hb dX1_tick_1 rfl (lv_at hl 1 rfl) ?_
  refine rdV_i (b := a.1) (As := [.long t]) (rest := []) ⟨hx, hb, hml, hown, hts⟩ (c_X1_canBeClock l G a κ σ hI hC t) cw69 hK hP 2 rfl rfl rfl rfl hl.1 rfl (Nat.le_of_ble_eq_true rfl) dX1_tick_2 ⟨Nat.zero_le _, Nat.zero_le _⟩ (fun r1 w1 => ?_)
  have w1 : ((r1.toInt = 1 ∧ (0 ≤ (t).toInt ∧ (t).toInt ≤ 20000 ∧ (sT σ).toInt ≤ (t).toInt)) ∨ (r1.toInt = 0 ∧ ¬ (0 ≤ (t).toInt ∧ (t).toInt ≤ 20000 ∧ (sT σ).toInt ≤ (t).toInt))) := w1
  refine lv_if_eq (tgt := 16) hx hb dX1_tick_5 (by decide) (fun c5_2 => ?_) (fun c5_2 => ?_)
  · have c5_2 : (r1).toInt = 0 := (ti_eq (x := r1) (y := 0) (a := (r1).toInt) (b := 0) rfl rfl).mp c5_2
    refine lv_bipush (v := (-102)) hx hb dX1_tick_16 (by decide) ?_
    have hF : fTick σ t = ((-102), σ) := if_pos (by omega)
    exact hret _ _ _ _ _ _ _ () dX1_tick_18 (Or.inr (Or.inr rfl)) (by rw [hF]) (by rw [hF]; exact hP) (by rw [hF]; exact hD) hS (Nat.le_refl _) (Nat.le_refl _)
  · have c5_2 : ¬ ((r1).toInt = 0) := mt (ti_eq (x := r1) (y := 0) (a := (r1).toInt) (b := 0) rfl rfl).mpr c5_2
    refine lv_aload_n hx hb dX1_tick_8 rfl (lv_at hl 0 rfl) ?_
    refine lv_lload_n hx hb dX1_tick_9 rfl (lv_at hl 1 rfl) ?_
    refine wrV_i (wr := []) (b := a.1) (As := [.long t]) (rest := []) ⟨hx, hb, hml, hown, hts⟩ (c_X1_moveClock l G a κ σ hI hC t) cw72 hK hZ hP hD hS hA 2 rfl rfl rfl rfl hl.1 rfl (Nat.le_of_ble_eq_true rfl) dX1_tick_10 ⟨Nat.zero_le _, Nat.zero_le _⟩ (fun r3 _ H locs w3 hP hD hS => ?_)
    have hP : va_P G.1 vwCl (CW G a (nI (sG σ).length) t (sR σ) κ.2.2.2.2.2.1 κ.2.2.2.2.2.2 (pO κ.2.2.2.2.1 (sO (mvS σ t)) (sN σ)) (LW G a.2.1 κ.1 κ.2.1 κ.2.2.1 κ.2.2.2.1 (sN σ))) H := hP
    have hD : va_D A (CW G a (nI (sG σ).length) t (sR σ) κ.2.2.2.2.2.1 κ.2.2.2.2.2.2 (pO κ.2.2.2.2.1 (sO (mvS σ t)) (sN σ)) (LW G a.2.1 κ.1 κ.2.1 κ.2.2.1 κ.2.2.2.1 (sN σ))) := hD
    refine lv_goto (tgt := 18) hx hb dX1_tick_13 (by decide) ?_
    rw [w3]
    have hF : fTick σ t = (nI (cntL σ t.toInt (sN σ)), mvS σ t) := if_neg (by omega)
    exact hret _ _ _ _ _ _ _ () dX1_tick_18 (Or.inr (Or.inr rfl)) (by rw [hF]) (by rw [hF]; exact hP) (by rw [hF]; exact hD) hS (Nat.le_refl _) (Nat.le_refl _)

set_option maxHeartbeats 4000000 in
set_option maxRecDepth 100000 in
/-- rank -/
theorem c_X1_rank (l : Launch) (G : GG) (a : AD) (κ : KP) (σ : St) (hI : SI σ) (hC : CI κ σ) (k q : Int32) : WrI l yX1_rank wsX1_rank (rmX 2 90 0 0) G [.ref a.1, .int k, .int q] (WC G a κ σ) (fun (r : Int32) (u : Unit) => r = (fRank σ k q).1) (fun u : Unit => WC G a κ (fRank σ k q).2) 0 0 := by
  refine wr_of_i (cc := cX1_rank) (maxL := 4) (t := .int) (by decide +kernel) rfl (Nat.le_of_ble_eq_true rfl) nar_int ?_
  intro p e s m args below meth c Q A hx hb hml hown hts hK hZ hA hret ls hl hP hD hS
  have hown : s.vm.findClass RX1 = some m.cls := hown
  have hl : lv_has ls 4 [(0, .ref a.1), (1, .int k), (2, .int q)] := hl
  have hP : va_P G.1 vwCl (CW G a (nI (sG σ).length) (sT σ) (sR σ) κ.2.2.2.2.2.1 κ.2.2.2.2.2.2 (pO κ.2.2.2.2.1 (sO σ) (sN σ)) (LW G a.2.1 κ.1 κ.2.1 κ.2.2.1 κ.2.2.2.1 (sN σ))) s.heap := hP
  have hD : va_D A (CW G a (nI (sG σ).length) (sT σ) (sR σ) κ.2.2.2.2.2.1 κ.2.2.2.2.2.2 (pO κ.2.2.2.2.1 (sO σ) (sN σ)) (LW G a.2.1 κ.1 κ.2.1 κ.2.2.1 κ.2.2.2.1 (sN σ))) := hD
  obtain ⟨hI1, hI2, hI3, hI4, hI5⟩ := id hI
  have cw34 := va_cwS (R := (rmX 2 90 0 0)) (s := s) (args := args) (rm := (rmX 0 0 0 0)) (mc := 0) (ms := 0) 1 hts gX1_rank_X1_isKind rfl rfl rfl (by decide +kernel) ⟨Nat.le_of_ble_eq_true rfl, Nat.le_of_ble_eq_true rfl⟩
  have hiX1 := (show ∀ w ∈ u_ws RX1 TX1 6, w ∈ wsX1_rank by decide +kernel)
  have lf16 := hts (.fieldLink RX1 16 "OrderRows2" "rankOfKind" "[I") (by decide +kernel)
  refine lv_iload_n hx hb dX1_rank_0 rfl (lv_at hl 1 rfl) ?_
  refine rdS_i (As := [.int k]) (rest := []) ⟨hx, hb, hml, hown, hts⟩ (c_X1_isKind l G k) cw34 hK va_P.nil rfl hl.1 rfl (Nat.le_of_ble_eq_true rfl) dX1_rank_1 ⟨Nat.zero_le _, Nat.zero_le _⟩ (fun r1_1 w1_1 => ?_)
  have w1_1 : ((r1_1.toInt = 1 ∧ (0 ≤ (k).toInt ∧ (k).toInt < 9)) ∨ (r1_1.toInt = 0 ∧ ¬ (0 ≤ (k).toInt ∧ (k).toInt < 9))) := w1_1
  refine lv_if_eq (tgt := 17) hx hb dX1_rank_4 (by decide) (fun c4_2 => ?_) (fun c4_2 => ?_)
  · have c4_2 : (r1_1).toInt = 0 := (ti_eq (x := r1_1) (y := 0) (a := (r1_1).toInt) (b := 0) rfl rfl).mp c4_2
    refine lv_bipush (v := (-102)) hx hb dX1_rank_17 (by decide) ?_
    have hF : fRank σ k q = ((-102), σ) := if_pos (by omega)
    exact hret _ _ _ _ _ _ _ () dX1_rank_19 (Or.inr (Or.inr rfl)) (by rw [hF]) (by rw [hF]; exact hP) (by rw [hF]; exact hD) hS (Nat.le_refl _) (Nat.le_refl _)
  · have c4_2 : ¬ ((r1_1).toInt = 0) := mt (ti_eq (x := r1_1) (y := 0) (a := (r1_1).toInt) (b := 0) rfl rfl).mpr c4_2
    refine lv_iload_n hx hb dX1_rank_7 rfl (lv_at hl 2 rfl) ?_
    refine lv_if_lt (tgt := 17) hx hb dX1_rank_8 (by decide) (fun c8_3 => ?_) (fun c8_3 => ?_)
    · have c8_3 : (q).toInt < 0 := (ti_lt (x := q) (y := 0) (a := (q).toInt) (b := 0) rfl rfl).mp c8_3
      refine lv_bipush (v := (-102)) hx hb dX1_rank_17 (by decide) ?_
      have hF : fRank σ k q = ((-102), σ) := if_pos (by omega)
      exact hret _ _ _ _ _ _ _ () dX1_rank_19 (Or.inr (Or.inr rfl)) (by rw [hF]) (by rw [hF]; exact hP) (by rw [hF]; exact hD) hS (Nat.le_refl _) (Nat.le_refl _)
    · have c8_3 : ¬ ((q).toInt < 0) := mt (ti_lt (x := q) (y := 0) (a := (q).toInt) (b := 0) rfl rfl).mpr c8_3
      refine lv_iload_n hx hb dX1_rank_11 rfl (lv_at hl 2 rfl) ?_
      refine lv_bipush (v := 100) hx hb dX1_rank_12 (by decide) ?_
      refine lv_icmp_le (tgt := 20) hx hb dX1_rank_14 (by decide) (fun c14_4 => ?_) (fun c14_4 => ?_)
      · have c14_4 : (q).toInt ≤ 100 := (ti_le (x := q) (y := 100) (a := (q).toInt) (b := 100) rfl rfl).mp c14_4
        refine lv_aload_n hx hb dX1_rank_20 rfl (lv_at hl 0 rfl) ?_
        refine va_get (D := G.1) (ci := 2) (v := .ref a.2.2.1) (own := RX1) (C := RX1) (T := TX1) (N := 6) hx hb hts hiX1 hown hK.1 hP 0 rfl rfl 1 (by decide) lf16 (fun _ h9 => h9) rfl dX1_rank_21 ?_
        refine lv_iload_n hx hb dX1_rank_24 rfl (lv_at hl 1 rfl) ?_
        refine my_iald hx hb hK hP 1 rfl ((k).toInt.toNat) (show (k).toInt = (((k).toInt.toNat : Nat) : Int) by omega) (by omega) dX1_rank_25 ?_
        refine lv_istore_n (lv' := [(3, .int ((sR σ) ((k).toInt.toNat))), (0, .ref a.1), (1, .int k), (2, .int q)]) hx hb dX1_rank_26 rfl hl (by decide) rfl (fun ls hl => ?_)
        refine lv_aload_n hx hb dX1_rank_27 rfl (lv_at hl 1 rfl) ?_
        refine va_get (D := G.1) (ci := 2) (v := .ref a.2.2.1) (own := RX1) (C := RX1) (T := TX1) (N := 6) hx hb hts hiX1 hown hK.1 hP 0 rfl rfl 1 (by decide) lf16 (fun _ h9 => h9) rfl dX1_rank_28 ?_
        refine lv_iload_n hx hb dX1_rank_31 rfl (lv_at hl 2 rfl) ?_
        refine lv_iload_n hx hb dX1_rank_32 rfl (lv_at hl 3 rfl) ?_
        refine my_iast hx hb hK hP hD hS 1 rfl (x := q) ((k).toInt.toNat) (show (k).toInt = (((k).toInt.toNat : Nat) : Int) by omega) (by omega) dX1_rank_33 (fun H locs hP hD hS => ?_)
        have hP : va_P G.1 vwCl (CW G a (nI (sG σ).length) (sT σ) (upd (sR σ) ((k).toInt.toNat) q) κ.2.2.2.2.2.1 κ.2.2.2.2.2.2 (pO κ.2.2.2.2.1 (sO σ) (sN σ)) (LW G a.2.1 κ.1 κ.2.1 κ.2.2.1 κ.2.2.2.1 (sN σ))) H := hP
        have hD : va_D A (CW G a (nI (sG σ).length) (sT σ) (upd (sR σ) ((k).toInt.toNat) q) κ.2.2.2.2.2.1 κ.2.2.2.2.2.2 (pO κ.2.2.2.2.1 (sO σ) (sN σ)) (LW G a.2.1 κ.1 κ.2.1 κ.2.2.1 κ.2.2.2.1 (sN σ))) := hD
        refine lv_iload_n hx hb dX1_rank_34 rfl (lv_at hl 0 rfl) ?_
        have hF : fRank σ k q = (((sR σ) ((k).toInt.toNat)), (sN σ, sO σ, sT σ, upd (sR σ) (k).toInt.toNat q, sG σ)) := if_neg (by omega)
        exact hret _ _ _ _ _ _ _ () dX1_rank_35 (Or.inr (Or.inr rfl)) (by rw [hF]) (by rw [hF]; exact hP) (by rw [hF]; exact hD) hS (Nat.le_refl _) (Nat.le_refl _)
      · have c14_4 : ¬ ((q).toInt ≤ 100) := mt (ti_le (x := q) (y := 100) (a := (q).toInt) (b := 100) rfl rfl).mpr c14_4
        refine lv_bipush (v := (-102)) hx hb dX1_rank_17 (by decide) ?_
        have hF : fRank σ k q = ((-102), σ) := if_pos (by omega)
        exact hret _ _ _ _ _ _ _ () dX1_rank_19 (Or.inr (Or.inr rfl)) (by rw [hF]) (by rw [hF]; exact hP) (by rw [hF]; exact hD) hS (Nat.le_refl _) (Nat.le_refl _)

set_option maxHeartbeats 4000000 in
set_option maxRecDepth 100000 in
/-- extend -/
theorem c_X1_extend (l : Launch) (G : GG) (a : AD) (κ : KP) (σ : St) (hI : SI σ) (hC : CI κ σ) (o : Int32) (v : Int64) : WrI l yX1_extend wsX1_extend (rmX 4 140 0 0) G [.ref a.1, .int o, .long v] (WC G a κ σ) (fun (r : Int32) (u : Unit) => r = (fExtend σ o v).1) (fun u : Unit => WC G a κ (fExtend σ o v).2) 0 0 := by
  refine wr_of_i (cc := cX1_extend) (maxL := 5) (t := .int) (by decide +kernel) rfl (Nat.le_of_ble_eq_true rfl) nar_int ?_
  intro p e s m args below meth c Q A hx hb hml hown hts hK hZ hA hret ls hl hP hD hS
  have hown : s.vm.findClass RX1 = some m.cls := hown
  have hl : lv_has ls 5 [(0, .ref a.1), (1, .int o), (2, .long v)] := hl
  have hP : va_P G.1 vwCl (CW G a (nI (sG σ).length) (sT σ) (sR σ) κ.2.2.2.2.2.1 κ.2.2.2.2.2.2 (pO κ.2.2.2.2.1 (sO σ) (sN σ)) (LW G a.2.1 κ.1 κ.2.1 κ.2.2.1 κ.2.2.2.1 (sN σ))) s.heap := hP
  have hD : va_D A (CW G a (nI (sG σ).length) (sT σ) (sR σ) κ.2.2.2.2.2.1 κ.2.2.2.2.2.2 (pO κ.2.2.2.2.1 (sO σ) (sN σ)) (LW G a.2.1 κ.1 κ.2.1 κ.2.2.1 κ.2.2.2.1 (sN σ))) := hD
  obtain ⟨hI1, hI2, hI3, hI4, hI5⟩ := id hI
  have cw65 := cwV (R := (rmX 4 140 0 0)) (s := s) (args := args) (rm := (rmX 3 100 0 0)) (mc := 0) (ms := 0) 1 hts gX1_extend_X1_find rfl rfl rfl (by decide +kernel) ⟨Nat.le_of_ble_eq_true rfl, Nat.le_of_ble_eq_true rfl⟩
  have cw48 := va_cwS (R := (rmX 4 140 0 0)) (s := s) (args := args) (rm := (rmX 0 0 0 0)) (mc := 0) (ms := 0) 1 hts gX1_extend_X1_isDay rfl rfl rfl (by decide +kernel) ⟨Nat.le_of_ble_eq_true rfl, Nat.le_of_ble_eq_true rfl⟩
  have cw76 := cwV (R := (rmX 4 140 0 0)) (s := s) (args := args) (rm := (rmX 0 0 0 0)) (mc := 0) (ms := 0) 0 hts gX1_extend_X0_isOver rfl rfl rfl (by decide +kernel) ⟨Nat.le_of_ble_eq_true rfl, Nat.le_of_ble_eq_true rfl⟩
  have hiX0 := (show ∀ w ∈ u_ws RX0 TX0 9, w ∈ wsX1_extend by decide +kernel)
  have lf111 := hts (.fieldLink RX1 111 "OrderRows2$Order" "until" "J") (by decide +kernel)
  refine lv_aload_n hx hb dX1_extend_0 rfl (lv_at hl 0 rfl) ?_
  refine lv_iload_n hx hb dX1_extend_1 rfl (lv_at hl 1 rfl) ?_
  refine rdV_q (b := a.1) (As := [.int o]) (rest := []) ⟨hx, hb, hml, hown, hts⟩ (c_X1_find l G a κ σ hI hC o) cw65 hK hP 2 rfl rfl rfl rfl hl.1 rfl (Nat.le_of_ble_eq_true rfl) dX1_extend_2 ⟨Nat.zero_le _, Nat.zero_le _⟩ (fun r1 w1 => ?_)
  rcases w1 with ⟨rfl, w1⟩ | ⟨i, hi, hoi, rfl⟩
  · have hno := w1
    refine W.eq (g2 := F0 m 5 ls [.null]) rfl ?_
    refine lv_astoreN (lv' := [(4, .null), (0, .ref a.1), (1, .int o), (2, .long v)]) hx hb dX1_extend_5 hl (by decide) rfl (fun ls hl => ?_)
    refine lv_aloadN hx hb dX1_extend_7 (lv_at hl 0 rfl) ?_
    refine lv_ifnonnullN hx hb dX1_extend_9 ?_
    refine lv_bipush (v := (-101)) hx hb dX1_extend_12 (by decide) ?_
    have hF : fExtend σ o v = ((-101), σ) := if_pos (by omega)
    exact hret _ _ _ _ _ _ _ () dX1_extend_14 (Or.inr (Or.inr rfl)) (by rw [hF]) (by rw [hF]; exact hP) (by rw [hF]; exact hD) hS (Nat.le_refl _) (Nat.le_refl _)
  · have eoi : oi o = i := by show ((o).toInt - 1).toNat = i; omega
    have hoI := hI4 i hi
    unfold OI at hoI
    refine W.eq (g2 := F0 m 5 ls [.ref (κ.2.2.2.2.1 i)]) rfl ?_
    refine lv_astore (lv' := [(4, .ref (κ.2.2.2.2.1 i)), (0, .ref a.1), (1, .int o), (2, .long v)]) hx hb dX1_extend_5 hl (by decide) rfl (fun ls hl => ?_)
    refine lv_aload hx hb dX1_extend_7 (lv_at hl 0 rfl) ?_
    refine lv_ifnonnull (tgt := 15) hx hb dX1_extend_9 (by decide) ?_
    refine lv_lload_n hx hb dX1_extend_15 rfl (lv_at hl 3 rfl) ?_
    refine rdS_i (As := [.long v]) (rest := []) ⟨hx, hb, hml, hown, hts⟩ (c_X1_isDay l G v) cw48 hK va_P.nil rfl hl.1 rfl (Nat.le_of_ble_eq_true rfl) dX1_extend_16 ⟨Nat.zero_le _, Nat.zero_le _⟩ (fun r16_2 w16_2 => ?_)
    have w16_2 : ((r16_2.toInt = 1 ∧ (0 ≤ (v).toInt ∧ (v).toInt ≤ 20000)) ∨ (r16_2.toInt = 0 ∧ ¬ (0 ≤ (v).toInt ∧ (v).toInt ≤ 20000))) := w16_2
    refine lv_if_ne (tgt := 25) hx hb dX1_extend_19 (by decide) (fun c19_3 => ?_) (fun c19_3 => ?_)
    · have c19_3 : ¬ ((r16_2).toInt = 0) := mt (ti_eq (x := r16_2) (y := 0) (a := (r16_2).toInt) (b := 0) rfl rfl).mpr c19_3
      refine lv_aload hx hb dX1_extend_25 (lv_at hl 0 rfl) ?_
      refine rdV_i (b := (κ.2.2.2.2.1 i)) (As := []) (rest := []) ⟨hx, hb, hml, hown, hts⟩ (c_X0_isOver l G (κ.2.2.2.2.1 i) (sO σ i) ) cw76 hK (CW_ord hP hi) 1 rfl rfl rfl rfl hl.1 rfl (Nat.le_of_ble_eq_true rfl) dX1_extend_27 ⟨Nat.zero_le _, Nat.zero_le _⟩ (fun r27_4 w27_4 => ?_)
      have w27_4 : ((r27_4.toInt = 1 ∧ ((oX (sO σ i)).toInt ≠ 20001)) ∨ (r27_4.toInt = 0 ∧ ¬ ((oX (sO σ i)).toInt ≠ 20001))) := w27_4
      refine lv_if_eq (tgt := 36) hx hb dX1_extend_30 (by decide) (fun c30_5 => ?_) (fun c30_5 => ?_)
      · have c30_5 : (r27_4).toInt = 0 := (ti_eq (x := r27_4) (y := 0) (a := (r27_4).toInt) (b := 0) rfl rfl).mp c30_5
        refine lv_lload_n hx hb dX1_extend_36 rfl (lv_at hl 3 rfl) ?_
        refine lv_aload hx hb dX1_extend_37 (lv_at hl 0 rfl) ?_
        refine va_get (D := G.1) (ci := 1) (v := .long (oU (sO σ i))) (own := RX1) (C := RX0) (T := TX0) (N := 9) hx hb hts hiX0 hown hK.1 hP (i + 4) (CW_get hi) rfl 6 (by decide) lf111 (fun _ h9 => h9) rfl dX1_extend_39 ?_
        refine lc_gt (tgt := 48) hx hb dX1_extend_42 dX1_extend_43 (by decide) (fun c42_6 => ?_) (fun c42_6 => ?_)
        · have c42_6 : ((oU (sO σ i))).toInt < (v).toInt := (tl_lt (x := (oU (sO σ i))) (y := v) (a := ((oU (sO σ i))).toInt) (b := (v).toInt) rfl rfl).mp c42_6
          refine lv_aload hx hb dX1_extend_48 (lv_at hl 0 rfl) ?_
          refine lv_lload_n hx hb dX1_extend_50 rfl (lv_at hl 3 rfl) ?_
          refine va_put (D := G.1) (ci := 1) (v := .long v) (ty := .long) (own := RX1) (C := RX0) (T := TX0) (N := 9) hx hb hts hiX0 tyX0 tyX0_ok nmX0 hown hK.1 hP hD hS (i + 4) (CW_get hi) rfl 6 (by decide) lf111 (fun _ h9 => h9) rfl (by decide +kernel) rfl rfl (Nat.le_of_ble_eq_true rfl) dX1_extend_51 (fun H locs hP hD hS => ?_)
          have hP : va_P G.1 vwCl (CW G a (nI (sG σ).length) (sT σ) (sR σ) κ.2.2.2.2.2.1 κ.2.2.2.2.2.2 (pO κ.2.2.2.2.1 (va_up (sO σ) i (oSU (sO σ i) v)) (sN σ)) (LW G a.2.1 κ.1 κ.2.1 κ.2.2.1 κ.2.2.2.1 (sN σ))) H := (CW_set hi (oSU (sO σ i) v)) ▸ hP
          have hD : va_D A (CW G a (nI (sG σ).length) (sT σ) (sR σ) κ.2.2.2.2.2.1 κ.2.2.2.2.2.2 (pO κ.2.2.2.2.1 (va_up (sO σ) i (oSU (sO σ i) v)) (sN σ)) (LW G a.2.1 κ.1 κ.2.1 κ.2.2.1 κ.2.2.2.1 (sN σ))) := (CW_set hi (oSU (sO σ i) v)) ▸ hD
          refine lv_iconst (v := 1) hx hb dX1_extend_54 (by decide) ?_
          have hF : fExtend σ o v = (1, sPut σ i (oSU (sO σ i) v)) := by unfold fExtend; rw [if_neg (by omega), if_neg (by omega), eoi, if_neg (by omega), if_neg (by omega)]
          exact hret _ _ _ _ _ _ _ () dX1_extend_55 (Or.inr (Or.inr rfl)) (by rw [hF]) (by rw [hF]; exact hP) (by rw [hF]; exact hD) hS (Nat.le_refl _) (Nat.le_refl _)
        · have c42_6 : ¬ (((oU (sO σ i))).toInt < (v).toInt) := mt (tl_lt (x := (oU (sO σ i))) (y := v) (a := ((oU (sO σ i))).toInt) (b := (v).toInt) rfl rfl).mpr c42_6
          refine lv_iconst (v := 0) hx hb dX1_extend_46 (by decide) ?_
          have hF : fExtend σ o v = (0, σ) := by unfold fExtend; rw [if_neg (by omega), if_neg (by omega), eoi, if_neg (by omega), if_pos (by omega)]
          exact hret _ _ _ _ _ _ _ () dX1_extend_47 (Or.inr (Or.inr rfl)) (by rw [hF]) (by rw [hF]; exact hP) (by rw [hF]; exact hD) hS (Nat.le_refl _) (Nat.le_refl _)
      · have c30_5 : ¬ ((r27_4).toInt = 0) := mt (ti_eq (x := r27_4) (y := 0) (a := (r27_4).toInt) (b := 0) rfl rfl).mpr c30_5
        refine lv_bipush (v := (-103)) hx hb dX1_extend_33 (by decide) ?_
        have hF : fExtend σ o v = ((-103), σ) := by unfold fExtend; rw [if_neg (by omega), if_neg (by omega), eoi, if_pos (by omega)]
        exact hret _ _ _ _ _ _ _ () dX1_extend_35 (Or.inr (Or.inr rfl)) (by rw [hF]) (by rw [hF]; exact hP) (by rw [hF]; exact hD) hS (Nat.le_refl _) (Nat.le_refl _)
    · have c19_3 : (r16_2).toInt = 0 := (ti_eq (x := r16_2) (y := 0) (a := (r16_2).toInt) (b := 0) rfl rfl).mp c19_3
      refine lv_bipush (v := (-102)) hx hb dX1_extend_22 (by decide) ?_
      have hF : fExtend σ o v = ((-102), σ) := by unfold fExtend; rw [if_neg (by omega), if_pos (by omega)]
      exact hret _ _ _ _ _ _ _ () dX1_extend_24 (Or.inr (Or.inr rfl)) (by rw [hF]) (by rw [hF]; exact hP) (by rw [hF]; exact hD) hS (Nat.le_refl _) (Nat.le_refl _)

set_option maxHeartbeats 4000000 in
set_option maxRecDepth 100000 in
/-- withdraw -/
theorem c_X1_withdraw (l : Launch) (G : GG) (a : AD) (κ : KP) (σ : St) (hI : SI σ) (hC : CI κ σ) (o : Int32) (t : Int64) : WrI l yX1_withdraw wsX1_withdraw (rmX 4 140 0 0) G [.ref a.1, .int o, .long t] (WC G a κ σ) (fun (r : Int32) (u : Unit) => r = (fWithdraw σ o t).1) (fun u : Unit => WC G a κ (fWithdraw σ o t).2) 0 0 := by
  refine wr_of_i (cc := cX1_withdraw) (maxL := 5) (t := .int) (by decide +kernel) rfl (Nat.le_of_ble_eq_true rfl) nar_int ?_
  intro p e s m args below meth c Q A hx hb hml hown hts hK hZ hA hret ls hl hP hD hS
  have hown : s.vm.findClass RX1 = some m.cls := hown
  have hl : lv_has ls 5 [(0, .ref a.1), (1, .int o), (2, .long t)] := hl
  have hP : va_P G.1 vwCl (CW G a (nI (sG σ).length) (sT σ) (sR σ) κ.2.2.2.2.2.1 κ.2.2.2.2.2.2 (pO κ.2.2.2.2.1 (sO σ) (sN σ)) (LW G a.2.1 κ.1 κ.2.1 κ.2.2.1 κ.2.2.2.1 (sN σ))) s.heap := hP
  have hD : va_D A (CW G a (nI (sG σ).length) (sT σ) (sR σ) κ.2.2.2.2.2.1 κ.2.2.2.2.2.2 (pO κ.2.2.2.2.1 (sO σ) (sN σ)) (LW G a.2.1 κ.1 κ.2.1 κ.2.2.1 κ.2.2.2.1 (sN σ))) := hD
  obtain ⟨hI1, hI2, hI3, hI4, hI5⟩ := id hI
  have cw65 := cwV (R := (rmX 4 140 0 0)) (s := s) (args := args) (rm := (rmX 3 100 0 0)) (mc := 0) (ms := 0) 1 hts gX1_withdraw_X1_find rfl rfl rfl (by decide +kernel) ⟨Nat.le_of_ble_eq_true rfl, Nat.le_of_ble_eq_true rfl⟩
  have cw69 := cwV (R := (rmX 4 140 0 0)) (s := s) (args := args) (rm := (rmX 1 40 0 0)) (mc := 0) (ms := 0) 1 hts gX1_withdraw_X1_canBeClock rfl rfl rfl (by decide +kernel) ⟨Nat.le_of_ble_eq_true rfl, Nat.le_of_ble_eq_true rfl⟩
  have cw72 := cwV (R := (rmX 4 140 0 0)) (s := s) (args := args) (rm := (rmX 3 110 0 0)) (mc := 0) (ms := 0) 1 hts gX1_withdraw_X1_moveClock rfl rfl rfl (by decide +kernel) ⟨Nat.le_of_ble_eq_true rfl, Nat.le_of_ble_eq_true rfl⟩
  have cw76 := cwV (R := (rmX 4 140 0 0)) (s := s) (args := args) (rm := (rmX 0 0 0 0)) (mc := 0) (ms := 0) 0 hts gX1_withdraw_X0_isOver rfl rfl rfl (by decide +kernel) ⟨Nat.le_of_ble_eq_true rfl, Nat.le_of_ble_eq_true rfl⟩
  have hiX1 := (show ∀ w ∈ u_ws RX1 TX1 6, w ∈ wsX1_withdraw by decide +kernel)
  have lf30 := hts (.fieldLink RX1 30 "OrderRows2" "clock" "J") (by decide +kernel)
  have hiX0 := (show ∀ w ∈ u_ws RX0 TX0 9, w ∈ wsX1_withdraw by decide +kernel)
  have lf84 := hts (.fieldLink RX1 84 "OrderRows2$Order" "overFrom" "J") (by decide +kernel)
  have cw87 := cwV (R := (rmX 4 140 0 0)) (s := s) (args := args) (rm := (rmX 1 40 0 0)) (mc := 0) (ms := 0) 1 hts gX1_withdraw_X0_daysOfSpanFrom rfl rfl rfl (by decide +kernel) ⟨Nat.le_of_ble_eq_true rfl, Nat.le_of_ble_eq_true rfl⟩
  refine lv_aload_n hx hb dX1_withdraw_0 rfl (lv_at hl 0 rfl) ?_
  refine lv_iload_n hx hb dX1_withdraw_1 rfl (lv_at hl 1 rfl) ?_
  refine rdV_q (b := a.1) (As := [.int o]) (rest := []) ⟨hx, hb, hml, hown, hts⟩ (c_X1_find l G a κ σ hI hC o) cw65 hK hP 2 rfl rfl rfl rfl hl.1 rfl (Nat.le_of_ble_eq_true rfl) dX1_withdraw_2 ⟨Nat.zero_le _, Nat.zero_le _⟩ (fun r1 w1 => ?_)
  rcases w1 with ⟨rfl, w1⟩ | ⟨i, hi, hoi, rfl⟩
  · have hno := w1
    refine W.eq (g2 := F0 m 5 ls [.null]) rfl ?_
    refine lv_astoreN (lv' := [(4, .null), (0, .ref a.1), (1, .int o), (2, .long t)]) hx hb dX1_withdraw_5 hl (by decide) rfl (fun ls hl => ?_)
    refine lv_aloadN hx hb dX1_withdraw_7 (lv_at hl 0 rfl) ?_
    refine lv_ifnonnullN hx hb dX1_withdraw_9 ?_
    refine lv_bipush (v := (-101)) hx hb dX1_withdraw_12 (by decide) ?_
    have hF : fWithdraw σ o t = ((-101), σ) := if_pos (by omega)
    exact hret _ _ _ _ _ _ _ () dX1_withdraw_14 (Or.inr (Or.inr rfl)) (by rw [hF]) (by rw [hF]; exact hP) (by rw [hF]; exact hD) hS (Nat.le_refl _) (Nat.le_refl _)
  · have eoi : oi o = i := by show ((o).toInt - 1).toNat = i; omega
    have hoI := hI4 i hi
    unfold OI at hoI
    refine W.eq (g2 := F0 m 5 ls [.ref (κ.2.2.2.2.1 i)]) rfl ?_
    refine lv_astore (lv' := [(4, .ref (κ.2.2.2.2.1 i)), (0, .ref a.1), (1, .int o), (2, .long t)]) hx hb dX1_withdraw_5 hl (by decide) rfl (fun ls hl => ?_)
    refine lv_aload hx hb dX1_withdraw_7 (lv_at hl 0 rfl) ?_
    refine lv_ifnonnull (tgt := 15) hx hb dX1_withdraw_9 (by decide) ?_
    refine lv_aload_n hx hb dX1_withdraw_15 rfl (lv_at hl 1 rfl) ?_
    refine lv_lload_n hx hb dX1_withdraw_16 rfl (lv_at hl 3 rfl) ?_
    refine rdV_i (b := a.1) (As := [.long t]) (rest := []) ⟨hx, hb, hml, hown, hts⟩ (c_X1_canBeClock l G a κ σ hI hC t) cw69 hK hP 2 rfl rfl rfl rfl hl.1 rfl (Nat.le_of_ble_eq_true rfl) dX1_withdraw_17 ⟨Nat.zero_le _, Nat.zero_le _⟩ (fun r2 w2 => ?_)
    have w2 : ((r2.toInt = 1 ∧ (0 ≤ (t).toInt ∧ (t).toInt ≤ 20000 ∧ (sT σ).toInt ≤ (t).toInt)) ∨ (r2.toInt = 0 ∧ ¬ (0 ≤ (t).toInt ∧ (t).toInt ≤ 20000 ∧ (sT σ).toInt ≤ (t).toInt))) := w2
    refine lv_if_ne (tgt := 26) hx hb dX1_withdraw_20 (by decide) (fun c20_3 => ?_) (fun c20_3 => ?_)
    · have c20_3 : ¬ ((r2).toInt = 0) := mt (ti_eq (x := r2) (y := 0) (a := (r2).toInt) (b := 0) rfl rfl).mpr c20_3
      refine lv_aload_n hx hb dX1_withdraw_26 rfl (lv_at hl 1 rfl) ?_
      refine lv_lload_n hx hb dX1_withdraw_27 rfl (lv_at hl 3 rfl) ?_
      refine wrV_i (wr := []) (b := a.1) (As := [.long t]) (rest := []) ⟨hx, hb, hml, hown, hts⟩ (c_X1_moveClock l G a κ σ hI hC t) cw72 hK hZ hP hD hS hA 2 rfl rfl rfl rfl hl.1 rfl (Nat.le_of_ble_eq_true rfl) dX1_withdraw_28 ⟨Nat.zero_le _, Nat.zero_le _⟩ (fun r4 _ H locs w4 hP hD hS => ?_)
      have hP : va_P G.1 vwCl (CW G a (nI (sG σ).length) t (sR σ) κ.2.2.2.2.2.1 κ.2.2.2.2.2.2 (pO κ.2.2.2.2.1 (sO (mvS σ t)) (sN σ)) (LW G a.2.1 κ.1 κ.2.1 κ.2.2.1 κ.2.2.2.1 (sN σ))) H := hP
      have hD : va_D A (CW G a (nI (sG σ).length) t (sR σ) κ.2.2.2.2.2.1 κ.2.2.2.2.2.2 (pO κ.2.2.2.2.1 (sO (mvS σ t)) (sN σ)) (LW G a.2.1 κ.1 κ.2.1 κ.2.2.1 κ.2.2.2.1 (sN σ))) := hD
      have hI1 := SI_mv hI (show clk σ t by omega)
      have hoJ := hI1.2.2.2.1 i hi
      unfold OI at hoJ
      have eT : (sT (mvS σ t)).toInt = t.toInt := rfl
      refine lv_pop hx hb dX1_withdraw_31 rfl ?_
      refine lv_aload hx hb dX1_withdraw_32 (lv_at hl 0 rfl) ?_
      refine rdV_i (b := (κ.2.2.2.2.1 i)) (As := []) (rest := []) ⟨hx, hb, hml, hown, hts⟩ (c_X0_isOver l G (κ.2.2.2.2.1 i) (sO (mvS σ t) i) ) cw76 hK (CW_ord hP hi) 1 rfl rfl rfl rfl hl.1 rfl (Nat.le_of_ble_eq_true rfl) dX1_withdraw_34 ⟨Nat.zero_le _, Nat.zero_le _⟩ (fun r34_5 w34_5 => ?_)
      have w34_5 : ((r34_5.toInt = 1 ∧ ((oX (sO (mvS σ t) i)).toInt ≠ 20001)) ∨ (r34_5.toInt = 0 ∧ ¬ ((oX (sO (mvS σ t) i)).toInt ≠ 20001))) := w34_5
      refine lv_if_eq (tgt := 43) hx hb dX1_withdraw_37 (by decide) (fun c37_6 => ?_) (fun c37_6 => ?_)
      · have c37_6 : (r34_5).toInt = 0 := (ti_eq (x := r34_5) (y := 0) (a := (r34_5).toInt) (b := 0) rfl rfl).mp c37_6
        refine lv_aload hx hb dX1_withdraw_43 (lv_at hl 0 rfl) ?_
        refine lv_aload_n hx hb dX1_withdraw_45 rfl (lv_at hl 1 rfl) ?_
        refine va_get (D := G.1) (ci := 2) (v := .long t) (own := RX1) (C := RX1) (T := TX1) (N := 6) hx hb hts hiX1 hown hK.1 hP 0 rfl rfl 5 (by decide) lf30 (fun _ h9 => h9) rfl dX1_withdraw_46 ?_
        refine va_put (D := G.1) (ci := 1) (v := .long t) (ty := .long) (own := RX1) (C := RX0) (T := TX0) (N := 9) hx hb hts hiX0 tyX0 tyX0_ok nmX0 hown hK.1 hP hD hS (i + 4) (CW_get hi) rfl 7 (by decide) lf84 (fun _ h9 => h9) rfl (by decide +kernel) rfl rfl (Nat.le_of_ble_eq_true rfl) dX1_withdraw_49 (fun H locs hP hD hS => ?_)
        have hP : va_P G.1 vwCl (CW G a (nI (sG σ).length) t (sR σ) κ.2.2.2.2.2.1 κ.2.2.2.2.2.2 (pO κ.2.2.2.2.1 (va_up (sO (mvS σ t)) i (oSX (sO (mvS σ t) i) t)) (sN σ)) (LW G a.2.1 κ.1 κ.2.1 κ.2.2.1 κ.2.2.2.1 (sN σ))) H := (CW_set hi (oSX (sO (mvS σ t) i) t)) ▸ hP
        have hD : va_D A (CW G a (nI (sG σ).length) t (sR σ) κ.2.2.2.2.2.1 κ.2.2.2.2.2.2 (pO κ.2.2.2.2.1 (va_up (sO (mvS σ t)) i (oSX (sO (mvS σ t) i) t)) (sN σ)) (LW G a.2.1 κ.1 κ.2.1 κ.2.2.1 κ.2.2.2.1 (sN σ))) := (CW_set hi (oSX (sO (mvS σ t) i) t)) ▸ hD
        refine lv_aload hx hb dX1_withdraw_52 (lv_at hl 0 rfl) ?_
        refine lv_aload_n hx hb dX1_withdraw_54 rfl (lv_at hl 1 rfl) ?_
        refine va_get (D := G.1) (ci := 2) (v := .long t) (own := RX1) (C := RX1) (T := TX1) (N := 6) hx hb hts hiX1 hown hK.1 hP 0 rfl rfl 5 (by decide) lf30 (fun _ h9 => h9) rfl dX1_withdraw_55 ?_
        have eod : va_up (sO (mvS σ t)) i (oSX (sO (mvS σ t) i) t) i = (oSX (sO (mvS σ t) i) t) := va_up_self _ _ _
        have hPo := CW_ord hP hi
        rw [eod] at hPo
        refine rdV_i (b := (κ.2.2.2.2.1 i)) (As := [.long t]) (rest := []) ⟨hx, hb, hml, hown, hts⟩ (c_X0_daysOfSpanFrom l G (κ.2.2.2.2.1 i) (oSX (sO (mvS σ t) i) t) t (by show 0 ≤ (oF (sO (mvS σ t) i)).toInt; omega) (by show (oF (sO (mvS σ t) i)).toInt ≤ (oU (sO (mvS σ t) i)).toInt; omega) (by show (oU (sO (mvS σ t) i)).toInt ≤ 20000; omega) (by omega) (by omega)) cw87 hK hPo 1 rfl rfl rfl rfl hl.1 rfl (Nat.le_of_ble_eq_true rfl) dX1_withdraw_58 ⟨Nat.zero_le _, Nat.zero_le _⟩ (fun r7 w7 => ?_)
        have w7 : r7 = nI (dys (sO (mvS σ t) i) t.toInt) := w7
        rw [w7]
        have hF : fWithdraw σ o t = (nI (dys (sO (mvS σ t) i) t.toInt), sPut (mvS σ t) i (oSX (sO (mvS σ t) i) t)) := by unfold fWithdraw; rw [if_neg (by omega), if_neg (by omega), eoi, if_neg (by omega)]
        exact hret _ _ _ _ _ _ _ () dX1_withdraw_61 (Or.inr (Or.inr rfl)) (by rw [hF]) (by rw [hF]; exact hP) (by rw [hF]; exact hD) hS (Nat.le_refl _) (Nat.le_refl _)
      · have c37_6 : ¬ ((r34_5).toInt = 0) := mt (ti_eq (x := r34_5) (y := 0) (a := (r34_5).toInt) (b := 0) rfl rfl).mpr c37_6
        refine lv_bipush (v := (-103)) hx hb dX1_withdraw_40 (by decide) ?_
        have hF : fWithdraw σ o t = ((-103), (mvS σ t)) := by unfold fWithdraw; rw [if_neg (by omega), if_neg (by omega), eoi, if_pos (by omega)]
        exact hret _ _ _ _ _ _ _ () dX1_withdraw_42 (Or.inr (Or.inr rfl)) (by rw [hF]) (by rw [hF]; exact hP) (by rw [hF]; exact hD) hS (Nat.le_refl _) (Nat.le_refl _)
    · have c20_3 : (r2).toInt = 0 := (ti_eq (x := r2) (y := 0) (a := (r2).toInt) (b := 0) rfl rfl).mp c20_3
      refine lv_bipush (v := (-102)) hx hb dX1_withdraw_23 (by decide) ?_
      have hF : fWithdraw σ o t = ((-102), σ) := by unfold fWithdraw; rw [if_neg (by omega), if_pos (by omega)]
      exact hret _ _ _ _ _ _ _ () dX1_withdraw_25 (Or.inr (Or.inr rfl)) (by rw [hF]) (by rw [hF]; exact hP) (by rw [hF]; exact hD) hS (Nat.le_refl _) (Nat.le_refl _)

set_option maxHeartbeats 4000000 in
set_option maxRecDepth 100000 in
/-- proof -/
theorem c_X1_proof (l : Launch) (G : GG) (a : AD) (κ : KP) (σ : St) (hI : SI σ) (hC : CI κ σ) (o g : Int32) (t : Int64) : WrI l yX1_proof wsX1_proof (rmX 4 140 0 0) G [.ref a.1, .int o, .int g, .long t] (WC G a κ σ) (fun (r : Int32) (u : Unit) => r = (fProof σ o g t).1) (fun u : Unit => WC G a κ (fProof σ o g t).2) 0 0 := by
  refine wr_of_i (cc := cX1_proof) (maxL := 6) (t := .int) (by decide +kernel) rfl (Nat.le_of_ble_eq_true rfl) nar_int ?_
  intro p e s m args below meth c Q A hx hb hml hown hts hK hZ hA hret ls hl hP hD hS
  have hown : s.vm.findClass RX1 = some m.cls := hown
  have hl : lv_has ls 6 [(0, .ref a.1), (1, .int o), (2, .int g), (3, .long t)] := hl
  have hP : va_P G.1 vwCl (CW G a (nI (sG σ).length) (sT σ) (sR σ) κ.2.2.2.2.2.1 κ.2.2.2.2.2.2 (pO κ.2.2.2.2.1 (sO σ) (sN σ)) (LW G a.2.1 κ.1 κ.2.1 κ.2.2.1 κ.2.2.2.1 (sN σ))) s.heap := hP
  have hD : va_D A (CW G a (nI (sG σ).length) (sT σ) (sR σ) κ.2.2.2.2.2.1 κ.2.2.2.2.2.2 (pO κ.2.2.2.2.1 (sO σ) (sN σ)) (LW G a.2.1 κ.1 κ.2.1 κ.2.2.1 κ.2.2.2.1 (sN σ))) := hD
  obtain ⟨hI1, hI2, hI3, hI4, hI5⟩ := id hI
  have cw65 := cwV (R := (rmX 4 140 0 0)) (s := s) (args := args) (rm := (rmX 3 100 0 0)) (mc := 0) (ms := 0) 1 hts gX1_proof_X1_find rfl rfl rfl (by decide +kernel) ⟨Nat.le_of_ble_eq_true rfl, Nat.le_of_ble_eq_true rfl⟩
  have cw69 := cwV (R := (rmX 4 140 0 0)) (s := s) (args := args) (rm := (rmX 1 40 0 0)) (mc := 0) (ms := 0) 1 hts gX1_proof_X1_canBeClock rfl rfl rfl (by decide +kernel) ⟨Nat.le_of_ble_eq_true rfl, Nat.le_of_ble_eq_true rfl⟩
  have cw72 := cwV (R := (rmX 4 140 0 0)) (s := s) (args := args) (rm := (rmX 3 110 0 0)) (mc := 0) (ms := 0) 1 hts gX1_proof_X1_moveClock rfl rfl rfl (by decide +kernel) ⟨Nat.le_of_ble_eq_true rfl, Nat.le_of_ble_eq_true rfl⟩
  have cw76 := cwV (R := (rmX 4 140 0 0)) (s := s) (args := args) (rm := (rmX 0 0 0 0)) (mc := 0) (ms := 0) 0 hts gX1_proof_X0_isOver rfl rfl rfl (by decide +kernel) ⟨Nat.le_of_ble_eq_true rfl, Nat.le_of_ble_eq_true rfl⟩
  have hiX0 := (show ∀ w ∈ u_ws RX0 TX0 9, w ∈ wsX1_proof by decide +kernel)
  have lf80 := hts (.fieldLink RX1 80 "OrderRows2$Order" "isProved" "Z") (by decide +kernel)
  have hiX1 := (show ∀ w ∈ u_ws RX1 TX1 6, w ∈ wsX1_proof by decide +kernel)
  have lf30 := hts (.fieldLink RX1 30 "OrderRows2" "clock" "J") (by decide +kernel)
  have lf84 := hts (.fieldLink RX1 84 "OrderRows2$Order" "overFrom" "J") (by decide +kernel)
  refine lv_aload_n hx hb dX1_proof_0 rfl (lv_at hl 0 rfl) ?_
  refine lv_iload_n hx hb dX1_proof_1 rfl (lv_at hl 1 rfl) ?_
  refine rdV_q (b := a.1) (As := [.int o]) (rest := []) ⟨hx, hb, hml, hown, hts⟩ (c_X1_find l G a κ σ hI hC o) cw65 hK hP 2 rfl rfl rfl rfl hl.1 rfl (Nat.le_of_ble_eq_true rfl) dX1_proof_2 ⟨Nat.zero_le _, Nat.zero_le _⟩ (fun r1 w1 => ?_)
  rcases w1 with ⟨rfl, w1⟩ | ⟨i, hi, hoi, rfl⟩
  · have hno := w1
    refine W.eq (g2 := F0 m 5 ls [.null]) rfl ?_
    refine lv_astoreN (lv' := [(5, .null), (0, .ref a.1), (1, .int o), (2, .int g), (3, .long t)]) hx hb dX1_proof_5 hl (by decide) rfl (fun ls hl => ?_)
    refine lv_aloadN hx hb dX1_proof_7 (lv_at hl 0 rfl) ?_
    refine lv_ifnonnullN hx hb dX1_proof_9 ?_
    refine lv_bipush (v := (-101)) hx hb dX1_proof_12 (by decide) ?_
    have hF : fProof σ o g t = ((-101), σ) := if_pos (by omega)
    exact hret _ _ _ _ _ _ _ () dX1_proof_14 (Or.inr (Or.inr rfl)) (by rw [hF]) (by rw [hF]; exact hP) (by rw [hF]; exact hD) hS (Nat.le_refl _) (Nat.le_refl _)
  · have eoi : oi o = i := by show ((o).toInt - 1).toNat = i; omega
    have hoI := hI4 i hi
    unfold OI at hoI
    refine W.eq (g2 := F0 m 5 ls [.ref (κ.2.2.2.2.1 i)]) rfl ?_
    refine lv_astore (lv' := [(5, .ref (κ.2.2.2.2.1 i)), (0, .ref a.1), (1, .int o), (2, .int g), (3, .long t)]) hx hb dX1_proof_5 hl (by decide) rfl (fun ls hl => ?_)
    refine lv_aload hx hb dX1_proof_7 (lv_at hl 0 rfl) ?_
    refine lv_ifnonnull (tgt := 15) hx hb dX1_proof_9 (by decide) ?_
    refine lv_aload_n hx hb dX1_proof_15 rfl (lv_at hl 1 rfl) ?_
    refine lv_lload_n hx hb dX1_proof_16 rfl (lv_at hl 4 rfl) ?_
    refine rdV_i (b := a.1) (As := [.long t]) (rest := []) ⟨hx, hb, hml, hown, hts⟩ (c_X1_canBeClock l G a κ σ hI hC t) cw69 hK hP 2 rfl rfl rfl rfl hl.1 rfl (Nat.le_of_ble_eq_true rfl) dX1_proof_17 ⟨Nat.zero_le _, Nat.zero_le _⟩ (fun r2 w2 => ?_)
    have w2 : ((r2.toInt = 1 ∧ (0 ≤ (t).toInt ∧ (t).toInt ≤ 20000 ∧ (sT σ).toInt ≤ (t).toInt)) ∨ (r2.toInt = 0 ∧ ¬ (0 ≤ (t).toInt ∧ (t).toInt ≤ 20000 ∧ (sT σ).toInt ≤ (t).toInt))) := w2
    refine lv_if_ne (tgt := 26) hx hb dX1_proof_20 (by decide) (fun c20_3 => ?_) (fun c20_3 => ?_)
    · have c20_3 : ¬ ((r2).toInt = 0) := mt (ti_eq (x := r2) (y := 0) (a := (r2).toInt) (b := 0) rfl rfl).mpr c20_3
      refine lv_aload_n hx hb dX1_proof_26 rfl (lv_at hl 1 rfl) ?_
      refine lv_lload_n hx hb dX1_proof_27 rfl (lv_at hl 4 rfl) ?_
      refine wrV_i (wr := []) (b := a.1) (As := [.long t]) (rest := []) ⟨hx, hb, hml, hown, hts⟩ (c_X1_moveClock l G a κ σ hI hC t) cw72 hK hZ hP hD hS hA 2 rfl rfl rfl rfl hl.1 rfl (Nat.le_of_ble_eq_true rfl) dX1_proof_28 ⟨Nat.zero_le _, Nat.zero_le _⟩ (fun r4 _ H locs w4 hP hD hS => ?_)
      have hP : va_P G.1 vwCl (CW G a (nI (sG σ).length) t (sR σ) κ.2.2.2.2.2.1 κ.2.2.2.2.2.2 (pO κ.2.2.2.2.1 (sO (mvS σ t)) (sN σ)) (LW G a.2.1 κ.1 κ.2.1 κ.2.2.1 κ.2.2.2.1 (sN σ))) H := hP
      have hD : va_D A (CW G a (nI (sG σ).length) t (sR σ) κ.2.2.2.2.2.1 κ.2.2.2.2.2.2 (pO κ.2.2.2.2.1 (sO (mvS σ t)) (sN σ)) (LW G a.2.1 κ.1 κ.2.1 κ.2.2.1 κ.2.2.2.1 (sN σ))) := hD
      have hI1 := SI_mv hI (show clk σ t by omega)
      have hoJ := hI1.2.2.2.1 i hi
      unfold OI at hoJ
      have eT : (sT (mvS σ t)).toInt = t.toInt := rfl
      refine lv_pop hx hb dX1_proof_31 rfl ?_
      refine lv_aload hx hb dX1_proof_32 (lv_at hl 0 rfl) ?_
      refine rdV_i (b := (κ.2.2.2.2.1 i)) (As := []) (rest := []) ⟨hx, hb, hml, hown, hts⟩ (c_X0_isOver l G (κ.2.2.2.2.1 i) (sO (mvS σ t) i) ) cw76 hK (CW_ord hP hi) 1 rfl rfl rfl rfl hl.1 rfl (Nat.le_of_ble_eq_true rfl) dX1_proof_34 ⟨Nat.zero_le _, Nat.zero_le _⟩ (fun r34_5 w34_5 => ?_)
      have w34_5 : ((r34_5.toInt = 1 ∧ ((oX (sO (mvS σ t) i)).toInt ≠ 20001)) ∨ (r34_5.toInt = 0 ∧ ¬ ((oX (sO (mvS σ t) i)).toInt ≠ 20001))) := w34_5
      refine lv_if_ne (tgt := 48) hx hb dX1_proof_37 (by decide) (fun c37_6 => ?_) (fun c37_6 => ?_)
      · have c37_6 : ¬ ((r34_5).toInt = 0) := mt (ti_eq (x := r34_5) (y := 0) (a := (r34_5).toInt) (b := 0) rfl rfl).mpr c37_6
        refine lv_bipush (v := (-103)) hx hb dX1_proof_48 (by decide) ?_
        have hF : fProof σ o g t = ((-103), (mvS σ t)) := by unfold fProof; rw [if_neg (by omega), if_neg (by omega), eoi, if_pos (by omega)]
        exact hret _ _ _ _ _ _ _ () dX1_proof_50 (Or.inr (Or.inr rfl)) (by rw [hF]) (by rw [hF]; exact hP) (by rw [hF]; exact hD) hS (Nat.le_refl _) (Nat.le_refl _)
      · have c37_6 : (r34_5).toInt = 0 := (ti_eq (x := r34_5) (y := 0) (a := (r34_5).toInt) (b := 0) rfl rfl).mp c37_6
        refine lv_aload hx hb dX1_proof_40 (lv_at hl 0 rfl) ?_
        refine va_get (D := G.1) (ci := 1) (v := .int (oP (sO (mvS σ t) i))) (own := RX1) (C := RX0) (T := TX0) (N := 9) hx hb hts hiX0 hown hK.1 hP (i + 4) (CW_get hi) rfl 8 (by decide) lf80 (fun _ h9 => h9) rfl dX1_proof_42 ?_
        refine lv_if_eq (tgt := 51) hx hb dX1_proof_45 (by decide) (fun c45_7 => ?_) (fun c45_7 => ?_)
        · have c45_7 : ((oP (sO (mvS σ t) i))).toInt = 0 := (ti_eq (x := (oP (sO (mvS σ t) i))) (y := 0) (a := ((oP (sO (mvS σ t) i))).toInt) (b := 0) rfl rfl).mp c45_7
          refine lv_iload_n hx hb dX1_proof_51 rfl (lv_at hl 3 rfl) ?_
          refine lv_if_ne (tgt := 66) hx hb dX1_proof_52 (by decide) (fun c52_8 => ?_) (fun c52_8 => ?_)
          · have c52_8 : ¬ ((g).toInt = 0) := mt (ti_eq (x := g) (y := 0) (a := (g).toInt) (b := 0) rfl rfl).mpr c52_8
            refine lv_aload hx hb dX1_proof_66 (lv_at hl 0 rfl) ?_
            refine lv_iconst (v := 1) hx hb dX1_proof_68 (by decide) ?_
            refine va_put (D := G.1) (ci := 1) (v := .int 1) (ty := .boolean) (own := RX1) (C := RX0) (T := TX0) (N := 9) hx hb hts hiX0 tyX0 tyX0_ok nmX0 hown hK.1 hP hD hS (i + 4) (CW_get hi) rfl 8 (by decide) lf80 (fun _ h9 => h9) rfl (by decide +kernel) rfl rfl (Nat.le_of_ble_eq_true rfl) dX1_proof_69 (fun H locs hP hD hS => ?_)
            have hP : va_P G.1 vwCl (CW G a (nI (sG σ).length) t (sR σ) κ.2.2.2.2.2.1 κ.2.2.2.2.2.2 (pO κ.2.2.2.2.1 (va_up (sO (mvS σ t)) i (oSP (sO (mvS σ t) i) 1)) (sN σ)) (LW G a.2.1 κ.1 κ.2.1 κ.2.2.1 κ.2.2.2.1 (sN σ))) H := (CW_set hi (oSP (sO (mvS σ t) i) 1)) ▸ hP
            have hD : va_D A (CW G a (nI (sG σ).length) t (sR σ) κ.2.2.2.2.2.1 κ.2.2.2.2.2.2 (pO κ.2.2.2.2.1 (va_up (sO (mvS σ t)) i (oSP (sO (mvS σ t) i) 1)) (sN σ)) (LW G a.2.1 κ.1 κ.2.1 κ.2.2.1 κ.2.2.2.1 (sN σ))) := (CW_set hi (oSP (sO (mvS σ t) i) 1)) ▸ hD
            refine lv_iconst (v := 1) hx hb dX1_proof_72 (by decide) ?_
            have hF : fProof σ o g t = (1, sPut (mvS σ t) i (oSP (sO (mvS σ t) i) 1)) := by unfold fProof; rw [if_neg (by omega), if_neg (by omega), eoi, if_neg (by omega), if_neg (by omega)]
            exact hret _ _ _ _ _ _ _ () dX1_proof_73 (Or.inr (Or.inr rfl)) (by rw [hF]) (by rw [hF]; exact hP) (by rw [hF]; exact hD) hS (Nat.le_refl _) (Nat.le_refl _)
          · have c52_8 : (g).toInt = 0 := (ti_eq (x := g) (y := 0) (a := (g).toInt) (b := 0) rfl rfl).mp c52_8
            refine lv_aload hx hb dX1_proof_55 (lv_at hl 0 rfl) ?_
            refine lv_aload_n hx hb dX1_proof_57 rfl (lv_at hl 1 rfl) ?_
            refine va_get (D := G.1) (ci := 2) (v := .long t) (own := RX1) (C := RX1) (T := TX1) (N := 6) hx hb hts hiX1 hown hK.1 hP 0 rfl rfl 5 (by decide) lf30 (fun _ h9 => h9) rfl dX1_proof_58 ?_
            refine va_put (D := G.1) (ci := 1) (v := .long t) (ty := .long) (own := RX1) (C := RX0) (T := TX0) (N := 9) hx hb hts hiX0 tyX0 tyX0_ok nmX0 hown hK.1 hP hD hS (i + 4) (CW_get hi) rfl 7 (by decide) lf84 (fun _ h9 => h9) rfl (by decide +kernel) rfl rfl (Nat.le_of_ble_eq_true rfl) dX1_proof_61 (fun H locs hP hD hS => ?_)
            have hP : va_P G.1 vwCl (CW G a (nI (sG σ).length) t (sR σ) κ.2.2.2.2.2.1 κ.2.2.2.2.2.2 (pO κ.2.2.2.2.1 (va_up (sO (mvS σ t)) i (oSX (sO (mvS σ t) i) t)) (sN σ)) (LW G a.2.1 κ.1 κ.2.1 κ.2.2.1 κ.2.2.2.1 (sN σ))) H := (CW_set hi (oSX (sO (mvS σ t) i) t)) ▸ hP
            have hD : va_D A (CW G a (nI (sG σ).length) t (sR σ) κ.2.2.2.2.2.1 κ.2.2.2.2.2.2 (pO κ.2.2.2.2.1 (va_up (sO (mvS σ t)) i (oSX (sO (mvS σ t) i) t)) (sN σ)) (LW G a.2.1 κ.1 κ.2.1 κ.2.2.1 κ.2.2.2.1 (sN σ))) := (CW_set hi (oSX (sO (mvS σ t) i) t)) ▸ hD
            refine lv_iconst (v := 0) hx hb dX1_proof_64 (by decide) ?_
            have hF : fProof σ o g t = (0, sPut (mvS σ t) i (oSX (sO (mvS σ t) i) t)) := by unfold fProof; rw [if_neg (by omega), if_neg (by omega), eoi, if_neg (by omega), if_pos (by omega)]
            exact hret _ _ _ _ _ _ _ () dX1_proof_65 (Or.inr (Or.inr rfl)) (by rw [hF]) (by rw [hF]; exact hP) (by rw [hF]; exact hD) hS (Nat.le_refl _) (Nat.le_refl _)
        · have c45_7 : ¬ (((oP (sO (mvS σ t) i))).toInt = 0) := mt (ti_eq (x := (oP (sO (mvS σ t) i))) (y := 0) (a := ((oP (sO (mvS σ t) i))).toInt) (b := 0) rfl rfl).mpr c45_7
          refine lv_bipush (v := (-103)) hx hb dX1_proof_48 (by decide) ?_
          have hF : fProof σ o g t = ((-103), (mvS σ t)) := by unfold fProof; rw [if_neg (by omega), if_neg (by omega), eoi, if_pos (by omega)]
          exact hret _ _ _ _ _ _ _ () dX1_proof_50 (Or.inr (Or.inr rfl)) (by rw [hF]) (by rw [hF]; exact hP) (by rw [hF]; exact hD) hS (Nat.le_refl _) (Nat.le_refl _)
    · have c20_3 : (r2).toInt = 0 := (ti_eq (x := r2) (y := 0) (a := (r2).toInt) (b := 0) rfl rfl).mp c20_3
      refine lv_bipush (v := (-102)) hx hb dX1_proof_23 (by decide) ?_
      have hF : fProof σ o g t = ((-102), σ) := by unfold fProof; rw [if_neg (by omega), if_pos (by omega)]
      exact hret _ _ _ _ _ _ _ () dX1_proof_25 (Or.inr (Or.inr rfl)) (by rw [hF]) (by rw [hF]; exact hP) (by rw [hF]; exact hD) hS (Nat.le_refl _) (Nat.le_refl _)
