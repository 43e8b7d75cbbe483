-- ===== laid by wip/whole/gen.py out of the decode rows =====
set_option maxHeartbeats 4000000 in
set_option maxRecDepth 100000 in
/-- AbstractCollection() -/
theorem c_Jxa1e45_init_da8c8 (l : Launch) (G : GG) (h : Nat) : WrV l yJxa1e45_init_da8c8 wsJxa1e45_init_da8c8 (rmX 1 40 0 0) G [.ref h] [(h, .inr (0, [.int 0, .null, .int 0]))] (fun u : Unit => True) (fun u : Unit => [(h, .inr (0, [.int 0, .null, .int 0]))]) 0 0 := by
  refine wr_of_v (cc := cJxa1e45_init_da8c8) (maxL := 1) (by decide +kernel) rfl (Nat.le_of_ble_eq_true rfl) ?_
  intro p e s m args below meth c Q A hx hb hml hown hts hK hZ hA hin hret ls hl hP hD hS
  have hown : s.vm.findClass RJxa1e45 = some m.cls := hown
  have hl : lv_has ls 1 [(0, .ref h)] := hl
  have hP : va_P G.1 vwCl [(h, .inr (0, [.int 0, .null, .int 0]))] s.heap := hP
  have hD : va_D A [(h, .inr (0, [.int 0, .null, .int 0]))] := hD
  refine lv_aload_n hx hb dJxa1e45_init_da8c8_0 rfl (lv_at hl 0 rfl) ?_
  refine W.objInit hx hb hown (hts (.methodLink RJxa1e45 1 objectInit) (by decide +kernel)) (hts (.instanceMethod objectInit) (by decide +kernel)) (hts (.code objectInit ⟨#[0xb1]⟩ 1 none) (by decide +kernel)) rfl (by rw [hml]; exact hl.1) rfl dJxa1e45_init_da8c8_1 (Nat.le_of_ble_eq_true rfl) (Nat.le_of_ble_eq_true rfl) ?_
  refine W.eq (g2 := F0 m 4 ls []) rfl ?_
  exact hret _ _ _ _ _ _ () dJxa1e45_init_da8c8_4 trivial hP hD hS (Nat.le_refl _) (Nat.le_refl _)

set_option maxHeartbeats 4000000 in
set_option maxRecDepth 100000 in
/-- AbstractList() -/
theorem c_Jxc12de_init_da8c8 (l : Launch) (G : GG) (h : Nat) : WrV l yJxc12de_init_da8c8 wsJxc12de_init_da8c8 (rmX 2 80 0 0) G [.ref h] [(h, .inr (0, [.int 0, .null, .int 0]))] (fun u : Unit => True) (fun u : Unit => [(h, .inr (0, [.int 0, .null, .int 0]))]) 0 0 := by
  refine wr_of_v (cc := cJxc12de_init_da8c8) (maxL := 1) (by decide +kernel) rfl (Nat.le_of_ble_eq_true rfl) ?_
  intro p e s m args below meth c Q A hx hb hml hown hts hK hZ hA hin hret ls hl hP hD hS
  have hown : s.vm.findClass RJxc12de = some m.cls := hown
  have hl : lv_has ls 1 [(0, .ref h)] := hl
  have hP : va_P G.1 vwCl [(h, .inr (0, [.int 0, .null, .int 0]))] s.heap := hP
  have hD : va_D A [(h, .inr (0, [.int 0, .null, .int 0]))] := hD
  have cw1 := cwI (R := (rmX 2 80 0 0)) (s := s) (args := args) (rm := (rmX 1 40 0 0)) (mc := 0) (ms := 0) (own := RJxc12de) (index := 1) 0 hts gJxc12de_init_da8c8_Jxa1e45_init_da8c8 rfl rfl rfl (hts (.initialized RJxa1e45) (by decide +kernel)) (hts (.methodLink RJxc12de 1 yJxa1e45_init_da8c8) (by decide +kernel)) (hts (.instanceMethod yJxa1e45_init_da8c8) (by decide +kernel)) rfl (by decide +kernel) ⟨Nat.le_of_ble_eq_true rfl, Nat.le_of_ble_eq_true rfl⟩
  have hiJx4a65c := (show ∀ w ∈ u_ws RJx4a65c TJx4a65c 3, w ∈ wsJxc12de_init_da8c8 by decide +kernel)
  have lf7 := hts (.fieldLink RJxc12de 7 "java/util/AbstractList" "modCount" "I") (by decide +kernel)
  refine lv_aload_n hx hb dJxc12de_init_da8c8_0 rfl (lv_at hl 0 rfl) ?_
  refine wrI_v (wr := []) (b := h) (As := []) (rest := []) ⟨hx, hb, hml, hown, hts⟩ (c_Jxa1e45_init_da8c8 l G h) cw1 hK hZ hP hD hS hA rfl hl.1 rfl (Nat.le_of_ble_eq_true rfl) dJxc12de_init_da8c8_1 ⟨(Nat.le_of_ble_eq_true rfl), (Nat.le_of_ble_eq_true rfl)⟩ (fun _ H locs _ hP hD hS => ?_)
  have hP : va_P G.1 vwCl [(h, .inr (0, [.int 0, .null, .int 0]))] H := hP
  have hD : va_D A [(h, .inr (0, [.int 0, .null, .int 0]))] := hD
  refine lv_aload_n hx hb dJxc12de_init_da8c8_4 rfl (lv_at hl 0 rfl) ?_
  refine lv_iconst (v := 0) hx hb dJxc12de_init_da8c8_5 (by decide) ?_
  refine va_put (D := G.1) (ci := 0) (v := .int 0) (ty := .int) (own := RJxc12de) (C := RJx4a65c) (T := TJx4a65c) (N := 3) hx hb hts hiJx4a65c tyJx4a65c tyJx4a65c_ok nmJx4a65c hown hK.1 hP hD hS 0 rfl rfl 0 (by decide) lf7 (fun _ h9 => h9) rfl (by decide +kernel) rfl rfl (Nat.le_of_ble_eq_true rfl) dJxc12de_init_da8c8_6 (fun H locs hP hD hS => ?_)
  have hP : va_P G.1 vwCl [(h, .inr (0, [.int 0, .null, .int 0]))] H := hP
  have hD : va_D A [(h, .inr (0, [.int 0, .null, .int 0]))] := hD
  exact hret _ _ _ _ _ _ () dJxc12de_init_da8c8_9 trivial hP hD hS (Nat.le_refl _) (Nat.le_refl _)

set_option maxHeartbeats 4000000 in
set_option maxRecDepth 100000 in
/-- ArrayList() -/
theorem c_Jx4a65c_init_da8c8 (l : Launch) (G : GG) (h : Nat) : WrV l yJx4a65c_init_da8c8 wsJx4a65c_init_da8c8 (rmX 3 120 0 0) G [.ref h] [(h, .inr (0, [.int 0, .null, .int 0]))] (fun u : Unit => True) (fun u : Unit => [(h, .inr (0, [.int 0, .ref (gS G), .int 0]))]) 0 0 := by
  refine wr_of_v (cc := cJx4a65c_init_da8c8) (maxL := 1) (by decide +kernel) rfl (Nat.le_of_ble_eq_true rfl) ?_
  intro p e s m args below meth c Q A hx hb hml hown hts hK hZ hA hin hret ls hl hP hD hS
  have hown : s.vm.findClass RJx4a65c = some m.cls := hown
  have hl : lv_has ls 1 [(0, .ref h)] := hl
  have hP : va_P G.1 vwCl [(h, .inr (0, [.int 0, .null, .int 0]))] s.heap := hP
  have hD : va_D A [(h, .inr (0, [.int 0, .null, .int 0]))] := hD
  have cw1 := cwI (R := (rmX 3 120 0 0)) (s := s) (args := args) (rm := (rmX 2 80 0 0)) (mc := 0) (ms := 0) (own := RJx4a65c) (index := 1) 0 hts gJx4a65c_init_da8c8_Jxc12de_init_da8c8 rfl rfl rfl (hts (.initialized RJxc12de) (by decide +kernel)) (hts (.methodLink RJx4a65c 1 yJxc12de_init_da8c8) (by decide +kernel)) (hts (.instanceMethod yJxc12de_init_da8c8) (by decide +kernel)) rfl (by decide +kernel) ⟨Nat.le_of_ble_eq_true rfl, Nat.le_of_ble_eq_true rfl⟩
  have lf39 := hts (.fieldLink RJx4a65c 39 "java/util/ArrayList" "DEFAULTCAPACITY_EMPTY_ELEMENTDATA" "[Ljava/lang/Object;") (by decide +kernel)
  have hiJx4a65c := (show ∀ w ∈ u_ws RJx4a65c TJx4a65c 3, w ∈ wsJx4a65c_init_da8c8 by decide +kernel)
  have lf9 := hts (.fieldLink RJx4a65c 9 "java/util/ArrayList" "elementData" "[Ljava/lang/Object;") (by decide +kernel)
  refine lv_aload_n hx hb dJx4a65c_init_da8c8_0 rfl (lv_at hl 0 rfl) ?_
  refine wrI_v (wr := []) (b := h) (As := []) (rest := []) ⟨hx, hb, hml, hown, hts⟩ (c_Jxc12de_init_da8c8 l G h) cw1 hK hZ hP hD hS hA rfl hl.1 rfl (Nat.le_of_ble_eq_true rfl) dJx4a65c_init_da8c8_1 ⟨(Nat.le_of_ble_eq_true rfl), (Nat.le_of_ble_eq_true rfl)⟩ (fun _ H locs _ hP hD hS => ?_)
  have hP : va_P G.1 vwCl [(h, .inr (0, [.int 0, .null, .int 0]))] H := hP
  have hD : va_D A [(h, .inr (0, [.int 0, .null, .int 0]))] := hD
  refine lv_aload_n hx hb dJx4a65c_init_da8c8_4 rfl (lv_at hl 0 rfl) ?_
  refine va_gets (own := RJx4a65c) (C := "java/util/ArrayList") (n := "DEFAULTCAPACITY_EMPTY_ELEMENTDATA") (d := "[Ljava/lang/Object;") hx hb hZ.1 hS hown lf39 (fun _ h9 => h9) dJx4a65c_init_da8c8_5 ?_
  refine va_put (D := G.1) (ci := 0) (v := .ref (gS G)) (ty := (.array (.object "java/lang/Object"))) (own := RJx4a65c) (C := RJx4a65c) (T := TJx4a65c) (N := 3) hx hb hts hiJx4a65c tyJx4a65c tyJx4a65c_ok nmJx4a65c hown hK.1 hP hD hS 0 rfl rfl 1 (by decide) lf9 (fun _ h9 => h9) rfl (by decide +kernel) rfl rfl (Nat.le_of_ble_eq_true rfl) dJx4a65c_init_da8c8_8 (fun H locs hP hD hS => ?_)
  have hP : va_P G.1 vwCl [(h, .inr (0, [.int 0, .ref (gS G), .int 0]))] H := hP
  have hD : va_D A [(h, .inr (0, [.int 0, .ref (gS G), .int 0]))] := hD
  exact hret _ _ _ _ _ _ () dJx4a65c_init_da8c8_11 trivial hP hD hS (Nat.le_refl _) (Nat.le_refl _)

set_option maxHeartbeats 4000000 in
set_option maxRecDepth 100000 in
/-- newLength -/
theorem c_J8_newLength_cabcc (l : Launch) (G : GG) (x y z : Int32) (h1 : 0 ≤ (x).toInt) (h2 : (x).toInt ≤ 400) (h3 : 1 ≤ (y).toInt) (h4 : (y).toInt ≤ 400) (h5 : 0 ≤ (z).toInt) (h6 : (z).toInt ≤ 400) : RdI l yJ8_newLength_cabcc wsJ8_newLength_cabcc (rmX 1 40 0 0) G [.int x, .int y, .int z] [] (fun r => r.toInt = (x).toInt + (if (y).toInt < (z).toInt then (z).toInt else (y).toInt)) := by
  refine rd_of_i (cc := cJ8_newLength_cabcc) (maxL := 4) (t := .int) (by decide +kernel) rfl (Nat.le_of_ble_eq_true rfl) nar_int ?_
  intro p e s m args below meth c Q hx hb hml hown hts hP hK hret ls hl
  have hown : s.vm.findClass RJ8 = some m.cls := hown
  have hl : lv_has ls 4 [(0, .int x), (1, .int y), (2, .int z)] := hl
  have kl200 := hts (.constant RJ8 200 (2147483639)) (by decide +kernel)
  refine lv_iload_n hx hb dJ8_newLength_cabcc_0 rfl (lv_at hl 0 rfl) ?_
  refine lv_iload_n hx hb dJ8_newLength_cabcc_1 rfl (lv_at hl 1 rfl) ?_
  refine lv_iload_n hx hb dJ8_newLength_cabcc_2 rfl (lv_at hl 2 rfl) ?_
  refine va_mmax hx hb (by rw [hml]; exact hl.1.symm) hown (hts (.methodLink RJ8 194 Lib.Math.max.name) (by decide +kernel)) (hts (.static Lib.Math.max.name) (by decide +kernel)) (hts (.initialized "java/lang/Math") (by decide +kernel)) (hts (.code Lib.Math.max.name Lib.Math.max.code 2 (some .int)) (by decide +kernel)) (Nat.le_of_ble_eq_true rfl) (Nat.le_of_ble_eq_true rfl) (Nat.zero_le _) (Nat.zero_le _) dJ8_newLength_cabcc_3 ?_
  refine lv_topi (fun ym eym => ?_)
  have vym : ym.toInt = if (y : Int32).toInt < (z : Int32).toInt then (z : Int32).toInt else (y : Int32).toInt := by rw [eym]; exact mxi_if _ _
  have hym : 1 ≤ ym.toInt ∧ ym.toInt ≤ 400 := by rw [vym]; split <;> omega
  refine lv_iadd hx hb dJ8_newLength_cabcc_6 ?_
  refine lv_topi (fun y6_1 e6_1 => ?_)
  have v6_1 : (y6_1).toInt = ((x).toInt + (ym).toInt) := by rw [e6_1]; exact ti_add (a := (x).toInt) (b := (ym).toInt) rfl rfl (by omega) (by omega)
  refine lv_istore_n (lv' := [(3, .int y6_1), (0, .int x), (1, .int y), (2, .int z)]) hx hb dJ8_newLength_cabcc_7 rfl hl (by decide) rfl (fun ls hl => ?_)
  refine lv_iconst (v := 0) hx hb dJ8_newLength_cabcc_8 (by decide) ?_
  refine lv_iload_n hx hb dJ8_newLength_cabcc_9 rfl (lv_at hl 0 rfl) ?_
  refine lv_icmp_ge (tgt := 21) hx hb dJ8_newLength_cabcc_10 (by decide) (fun c10_2 => ?_) (fun c10_2 => ?_)
  · have c10_2 : ((x).toInt + (ym).toInt) ≤ 0 := (ti_le (x := y6_1) (y := 0) (a := ((x).toInt + (ym).toInt)) (b := 0) v6_1 rfl).mp c10_2
    exfalso; omega
  · have c10_2 : ¬ (((x).toInt + (ym).toInt) ≤ 0) := mt (ti_le (x := y6_1) (y := 0) (a := ((x).toInt + (ym).toInt)) (b := 0) v6_1 rfl).mpr c10_2
    refine lv_iload_n hx hb dJ8_newLength_cabcc_13 rfl (lv_at hl 0 rfl) ?_
    refine lv_ldc (v := 2147483639) hx hb hown kl200 dJ8_newLength_cabcc_14 ?_
    refine lv_icmp_gt (tgt := 21) hx hb dJ8_newLength_cabcc_16 (by decide) (fun c16_3 => ?_) (fun c16_3 => ?_)
    · have c16_3 : 2147483639 < ((x).toInt + (ym).toInt) := (ti_lt (x := 2147483639) (y := y6_1) (a := 2147483639) (b := ((x).toInt + (ym).toInt)) rfl v6_1).mp c16_3
      exfalso; omega
    · have c16_3 : ¬ (2147483639 < ((x).toInt + (ym).toInt)) := mt (ti_lt (x := 2147483639) (y := y6_1) (a := 2147483639) (b := ((x).toInt + (ym).toInt)) rfl v6_1).mpr c16_3
      refine lv_iload_n hx hb dJ8_newLength_cabcc_19 rfl (lv_at hl 0 rfl) ?_
      exact hret _ _ _ dJ8_newLength_cabcc_20 (Or.inr (Or.inr rfl)) (v6_1.trans (by rw [vym]))

set_option maxHeartbeats 4000000 in
set_option maxRecDepth 100000 in
/-- Arrays.copyOf -/
theorem c_J7_copyOf_6403c (l : Launch) (G : GG) (a2 N M : Nat) (f : Nat → Option Nat) (x : Int32) (hx1 : (x).toInt = ((M : Nat) : Int)) (hNM : N ≤ M) (hM : M ≤ 400) (tl : va_W) (ht : ∀ i, i < N → ∃ (y j : Nat) (fs : List Value), f i = some y ∧ tl[j]? = some (y, .inr (1, fs))) : WrR l yJ7_copyOf_6403c wsJ7_copyOf_6403c (rmX 1 80 1 400) G [.ref a2, .int x, .ref (gM G)] (aO G a2 N f :: tl) (fun u : (Nat × (Nat → Option Nat)) => ∀ i, i < N → u.2 i = f i) (fun u : (Nat × (Nat → Option Nat)) => aO G a2 N f :: (tl ++ [aO G u.1 M u.2])) (fun u : (Nat × (Nat → Option Nat)) => u.1) 1 400 := by
  refine wr_of_r (cc := cJ7_copyOf_6403c) (maxL := 4) (by decide +kernel) rfl (Nat.le_of_ble_eq_true rfl) ?_
  intro p e s m args below meth c Q A hx hb hml hown hts hK hZ hA hret ls hl hP hD hS
  have hown : s.vm.findClass RJ7 = some m.cls := hown
  have hl : lv_has ls 4 [(0, .ref a2), (1, .int x), (2, .ref (gM G))] := hl
  have hP : va_P G.1 vwCl (aO G a2 N f :: tl) s.heap := hP
  have hD : va_D A (aO G a2 N f :: tl) := hD
  refine lv_aload_n hx hb dJ7_copyOf_6403c_0 rfl (lv_at hl 2 rfl) ?_
  refine va_ldcM (own := RJ7) (C := "[Ljava/lang/Object;") (mi := gM G) hx hb hown (hts (.classLink RJ7 110 "[Ljava/lang/Object;") (by decide +kernel)) hK.2.1 dJ7_copyOf_6403c_1 ?_
  refine lv_acmp_ne (rx := some (gM G)) (ry := some (gM G)) (tgt := 13) hx hb dJ7_copyOf_6403c_3 (by decide) (fun c9 => absurd rfl c9) (fun _ => ?_)
  refine lv_iload_n hx hb dJ7_copyOf_6403c_6 rfl (lv_at hl 1 rfl) ?_
  refine va_newq (own := RJ7) (C := "java/lang/Object") (n := x) (N' := M) hx hb hown (hts (.classLink RJ7 2 "java/lang/Object") (by decide +kernel)) hK.2.2.2.1 hK.1 hP hD hS hA (mt (ti_lt (a := ((M : Nat) : Int)) (b := 0) hx1 rfl).mp (by omega)) (ix_I hx1) (by omega) (Nat.le_of_ble_eq_true rfl) (by show 0 + M ≤ 400; omega) dJ7_copyOf_6403c_7 (fun qn cA H hK2 hP hD hS => ?_)
  obtain rfl : cA = gO G := Option.some.inj ((va_nmO (nm := "[Ljava/lang/Object;") (hK2.2 4 _ rfl).2 (by decide +kernel)).symm.trans (va_nmO (nm := "[Ljava/lang/Object;") (hK.1.2 3 _ rfl).2 (by decide +kernel)))
  have hP : va_P G.1 vwCl ((aO G a2 N f :: tl) ++ [aO G qn M (fun _ => none)]) H := hP
  have hD : va_D A ((aO G a2 N f :: tl) ++ [aO G qn M (fun _ => none)]) := hD
  refine lv_goto (tgt := 24) hx hb dJ7_copyOf_6403c_10 (by decide) ?_
  refine lv_astore_n (lv' := [(3, .ref qn), (0, .ref a2), (1, .int x), (2, .ref (gM G))]) hx hb dJ7_copyOf_6403c_24 rfl hl (by decide) rfl (fun ls hl => ?_)
  refine lv_aload_n hx hb dJ7_copyOf_6403c_25 rfl (lv_at hl 1 rfl) ?_
  refine lv_iconst (v := 0) hx hb dJ7_copyOf_6403c_26 (by decide) ?_
  refine lv_aload_n hx hb dJ7_copyOf_6403c_27 rfl (lv_at hl 0 rfl) ?_
  refine lv_iconst (v := 0) hx hb dJ7_copyOf_6403c_28 (by decide) ?_
  refine lv_aload_n hx hb dJ7_copyOf_6403c_29 rfl (lv_at hl 1 rfl) ?_
  refine va_alen hx hb hK.1 hP 0 3 rfl rfl (v := (nI N)) rfl dJ7_copyOf_6403c_30 ?_
  refine lv_iload_n hx hb dJ7_copyOf_6403c_31 rfl (lv_at hl 2 rfl) ?_
  refine va_mmin hx hb (by rw [hml]; exact hl.1.symm) hown (hts (.methodLink RJ7 304 Lib.Math.min.name) (by decide +kernel)) (hts (.static Lib.Math.min.name) (by decide +kernel)) (hts (.initialized "java/lang/Math") (by decide +kernel)) (hts (.code Lib.Math.min.name Lib.Math.min.code 2 (some .int)) (by decide +kernel)) (Nat.le_of_ble_eq_true rfl) (Nat.le_of_ble_eq_true rfl) (Nat.le_of_ble_eq_true rfl) (by show 0 + M ≤ 400; omega) dJ7_copyOf_6403c_32 ?_
  refine lv_topi (fun ym eym => ?_)
  have vN : (nI N).toInt = ((N : Nat) : Int) := ti_nI (by omega)
  have vym : ym.toInt = ((N : Nat) : Int) := by rw [eym, mni_if, vN, hx1]; exact if_neg (by omega)
  have hel : ∀ i : Nat, i < ym.toNatClampNeg → ∀ y : Nat, f ((0 : Int32).toNatClampNeg + i) = some y → va_Any "java/lang/Object" s H y := by
    intro i hi y hy
    rw [ix_I vym] at hi
    have hy : f (0 + i) = some y := hy
    rw [Nat.zero_add] at hy
    obtain ⟨y1, j, fs, e1, e2⟩ := ht i hi
    rw [hy] at e1
    cases e1
    exact ord_any hK hP (j := j + 1) (by show (tl ++ [_])[j]? = _; rw [List.getElem?_append_left (List.getElem?_eq_some_iff.mp e2).1]; exact e2)
  refine va_copyM hx hb (by rw [hml]; exact hl.1.symm) hown (hts (.methodLink RJ7 150 arraycopyName) (by decide +kernel)) (hts (.native arraycopyName) (by decide +kernel)) (hts (.static arraycopyName) (by decide +kernel)) (hts (.initialized "java/lang/System") (by decide +kernel)) hK.1 hP hD hS 0 ((aO G a2 N f :: tl).length) 3 3 (f := f) (g := fun _ => none) (E0 := "java/lang/Object") (E1 := "java/lang/Object") rfl app_last rfl rfl (sp := 0) (dp := 0) (n := ym) (by decide) (by decide) (mt (ti_lt (a := ((N : Nat) : Int)) (b := 0) vym rfl).mp (by omega)) (by rw [ix_I vym]; show 0 + N ≤ N; omega) (by rw [ix_I vym]; show 0 + N ≤ M; omega) hel (Nat.le_of_ble_eq_true rfl) (Nat.le_of_ble_eq_true rfl) dJ7_copyOf_6403c_35 (fun H locs hP hD hS => ?_)
  rw [set_last] at hP hD
  have hP : va_P G.1 vwCl ((aO G a2 N f :: tl) ++ [aO G qn M (va_cpy f (fun _ => none) (0 : Int32).toNatClampNeg (0 : Int32).toNatClampNeg ym.toNatClampNeg)]) H := hP
  have hD : va_D A ((aO G a2 N f :: tl) ++ [aO G qn M (va_cpy f (fun _ => none) (0 : Int32).toNatClampNeg (0 : Int32).toNatClampNeg ym.toNatClampNeg)]) := hD
  refine lv_aload_n hx hb dJ7_copyOf_6403c_38 rfl (lv_at hl 0 rfl) ?_
  have hg : ∀ i, i < N → (va_cpy f (fun _ => none) (0 : Int32).toNatClampNeg (0 : Int32).toNatClampNeg ym.toNatClampNeg) i = f i := fun i hi => by
    show va_cpy f (fun _ => none) 0 0 ym.toNatClampNeg i = f i
    rw [ix_I vym, pk_cpy_in (Nat.zero_le _) (by omega), Nat.zero_add, Nat.sub_zero]
  exact hret _ _ _ _ _ _ _ (qn, (va_cpy f (fun _ => none) (0 : Int32).toNatClampNeg (0 : Int32).toNatClampNeg ym.toNatClampNeg)) dJ7_copyOf_6403c_39 rfl hg hP hD hS (Nat.le_of_ble_eq_true rfl) (by show 0 + M ≤ 400; omega)

set_option maxHeartbeats 4000000 in
set_option maxRecDepth 100000 in
/-- Arrays.copyOf -/
theorem c_J7_copyOf_1904c (l : Launch) (G : GG) (a2 N M : Nat) (f : Nat → Option Nat) (x : Int32) (hx1 : (x).toInt = ((M : Nat) : Int)) (hNM : N ≤ M) (hM : M ≤ 400) (tl : va_W) (ht : ∀ i, i < N → ∃ (y j : Nat) (fs : List Value), f i = some y ∧ tl[j]? = some (y, .inr (1, fs))) : WrR l yJ7_copyOf_1904c wsJ7_copyOf_1904c (rmX 2 120 1 400) G [.ref a2, .int x] (aO G a2 N f :: tl) (fun u : (Nat × (Nat → Option Nat)) => ∀ i, i < N → u.2 i = f i) (fun u : (Nat × (Nat → Option Nat)) => aO G a2 N f :: (tl ++ [aO G u.1 M u.2])) (fun u : (Nat × (Nat → Option Nat)) => u.1) 1 400 := by
  refine wr_of_r (cc := cJ7_copyOf_1904c) (maxL := 2) (by decide +kernel) rfl (Nat.le_of_ble_eq_true rfl) ?_
  intro p e s m args below meth c Q A hx hb hml hown hts hK hZ hA hret ls hl hP hD hS
  have hown : s.vm.findClass RJ7 = some m.cls := hown
  have hl : lv_has ls 2 [(0, .ref a2), (1, .int x)] := hl
  have hP : va_P G.1 vwCl (aO G a2 N f :: tl) s.heap := hP
  have hD : va_D A (aO G a2 N f :: tl) := hD
  have cw300 := va_cwS (R := (rmX 2 120 1 400)) (s := s) (args := args) (rm := (rmX 1 80 1 400)) (mc := 1) (ms := 400) 3 hts gJ7_copyOf_1904c_J7_copyOf_6403c rfl rfl rfl (by decide +kernel) ⟨Nat.le_of_ble_eq_true rfl, Nat.le_of_ble_eq_true rfl⟩
  refine lv_aload_n hx hb dJ7_copyOf_1904c_0 rfl (lv_at hl 0 rfl) ?_
  refine lv_iload_n hx hb dJ7_copyOf_1904c_1 rfl (lv_at hl 1 rfl) ?_
  refine lv_aload_n hx hb dJ7_copyOf_1904c_2 rfl (lv_at hl 0 rfl) ?_
  refine va_getC (own := RJ7) (C := "[Ljava/lang/Object;") (mi := gM G) hx hb (by rw [hml]; exact hl.1.symm) hown (hts (.methodLink RJ7 86 ⟨"java/lang/Object", "getClass", "()Ljava/lang/Class;"⟩) (by decide +kernel)) (va_Dc.use hK.2.2.1) (hts (.selects "[Ljava/lang/Object;" ⟨"java/lang/Object", "getClass", "()Ljava/lang/Class;"⟩ ⟨"java/lang/Object", "getClass", "()Ljava/lang/Class;"⟩) (by decide +kernel)) (hts (.instanceMethod ⟨"java/lang/Object", "getClass", "()Ljava/lang/Class;"⟩) (by decide +kernel)) (hts (.native ⟨"java/lang/Object", "getClass", "()Ljava/lang/Class;"⟩) (by decide +kernel)) hK.2.1 (arr_recv hK hP rfl) (Nat.le_of_ble_eq_true rfl) (Nat.le_of_ble_eq_true rfl) dJ7_copyOf_1904c_3 ?_
  refine wrS_r (wr := []) (As := [.ref a2, .int x, .ref (gM G)]) (rest := []) ⟨hx, hb, hml, hown, hts⟩ (c_J7_copyOf_6403c l G a2 N M f x hx1 hNM hM tl ht) cw300 hK hZ hP hD hS hA rfl hl.1 rfl (Nat.le_of_ble_eq_true rfl) dJ7_copyOf_1904c_6 ⟨(Nat.le_of_ble_eq_true rfl), (Nat.le_of_ble_eq_true rfl)⟩ (fun u H locs wu hP hD hS => ?_)
  have hP : va_P G.1 vwCl ((aO G a2 N f :: tl) ++ [aO G u.1 M u.2]) H := hP
  have hD : va_D A ((aO G a2 N f :: tl) ++ [aO G u.1 M u.2]) := hD
  exact hret _ _ _ _ _ _ _ u dJ7_copyOf_1904c_9 rfl wu hP hD hS (Nat.le_of_ble_eq_true rfl) (Nat.le_of_ble_eq_true rfl)

set_option maxHeartbeats 4000000 in
set_option maxRecDepth 100000 in
/-- grow(int), full -/
theorem c_Jx4a65c_grow_92f84_n (l : Launch) (G : GG) (h : Nat) (md y : Int32) (a2 n : Nat) (f : Nat → Option Nat) (hn0 : 0 < n) (hn : n ≤ 200) (hy1 : (y).toInt = (((n + 1) : Nat) : Int)) (tl : va_W) (ht : ∀ i, i < n → ∃ (y j : Nat) (fs : List Value), f i = some y ∧ tl[j]? = some (y, .inr (1, fs))) : WrR l yJx4a65c_grow_92f84 wsJx4a65c_grow_92f84 (rmX 3 150 1 400) G [.ref h, .int y] ((h, .inr (0, [.int md, .ref a2, .int (nI n)])) :: aO G a2 n f :: tl) (fun u : (Nat × Nat × (Nat → Option Nat)) => n + 1 ≤ u.2.1 ∧ u.2.1 ≤ 400 ∧ ∀ i, i < n → u.2.2 i = f i) (fun u : (Nat × Nat × (Nat → Option Nat)) => (h, .inr (0, [.int md, .ref u.1, .int (nI n)])) :: aO G u.1 u.2.1 u.2.2 :: tl) (fun u : (Nat × Nat × (Nat → Option Nat)) => u.1) 1 400 := by
  refine wr_of_r (cc := cJx4a65c_grow_92f84) (maxL := 4) (by decide +kernel) rfl (Nat.le_of_ble_eq_true rfl) ?_
  intro p e s m args below meth c Q A hx hb hml hown hts hK hZ hA hret ls hl hP hD hS
  have hown : s.vm.findClass RJx4a65c = some m.cls := hown
  have hl : lv_has ls 4 [(0, .ref h), (1, .int y)] := hl
  have hP : va_P G.1 vwCl ((h, .inr (0, [.int md, .ref a2, .int (nI n)])) :: aO G a2 n f :: tl) s.heap := hP
  have hD : va_D A ((h, .inr (0, [.int md, .ref a2, .int (nI n)])) :: aO G a2 n f :: tl) := hD
  have hiJx4a65c := (show ∀ w ∈ u_ws RJx4a65c TJx4a65c 3, w ∈ wsJx4a65c_grow_92f84 by decide +kernel)
  have lf9 := hts (.fieldLink RJx4a65c 9 "java/util/ArrayList" "elementData" "[Ljava/lang/Object;") (by decide +kernel)
  have cw73 := va_cwS (R := (rmX 3 150 1 400)) (s := s) (args := args) (rm := (rmX 1 40 0 0)) (mc := 0) (ms := 0) 3 hts gJx4a65c_grow_92f84_J8_newLength_cabcc rfl rfl rfl (by decide +kernel) ⟨Nat.le_of_ble_eq_true rfl, Nat.le_of_ble_eq_true rfl⟩
  have cw66 := va_cwS (R := (rmX 3 150 1 400)) (s := s) (args := args) (rm := (rmX 2 120 1 400)) (mc := 1) (ms := 400) 2 hts gJx4a65c_grow_92f84_J7_copyOf_1904c rfl rfl rfl (by decide +kernel) ⟨Nat.le_of_ble_eq_true rfl, Nat.le_of_ble_eq_true rfl⟩
  refine lv_aload_n hx hb dJx4a65c_grow_92f84_0 rfl (lv_at hl 0 rfl) ?_
  refine va_get (D := G.1) (ci := 0) (v := .ref a2) (own := RJx4a65c) (C := RJx4a65c) (T := TJx4a65c) (N := 3) hx hb hts hiJx4a65c hown hK.1 hP 0 rfl rfl 1 (by decide) lf9 (fun _ h9 => h9) rfl dJx4a65c_grow_92f84_1 ?_
  refine va_alen hx hb hK.1 hP 1 3 rfl rfl (v := (nI n)) rfl dJx4a65c_grow_92f84_4 ?_
  refine lv_istore_n (lv' := [(2, .int (nI n)), (0, .ref h), (1, .int y)]) hx hb dJx4a65c_grow_92f84_5 rfl hl (by decide) rfl (fun ls hl => ?_)
  refine lv_iload_n hx hb dJx4a65c_grow_92f84_6 rfl (lv_at hl 0 rfl) ?_
  refine lv_if_gt (tgt := 20) hx hb dJx4a65c_grow_92f84_7 (by decide) (fun c7_1 => ?_) (fun c7_1 => ?_)
  · have c7_1 : 0 < ((n : Nat) : Int) := (ti_lt (x := 0) (y := (nI n)) (a := 0) (b := ((n : Nat) : Int)) rfl (ti_nI (k := n) (by omega))).mp c7_1
    refine lv_iload_n hx hb dJx4a65c_grow_92f84_20 rfl (lv_at hl 0 rfl) ?_
    refine lv_iload_n hx hb dJx4a65c_grow_92f84_21 rfl (lv_at hl 2 rfl) ?_
    refine lv_iload_n hx hb dJx4a65c_grow_92f84_22 rfl (lv_at hl 0 rfl) ?_
    refine lv_isub hx hb dJx4a65c_grow_92f84_23 ?_
    refine lv_topi (fun y23_2 e23_2 => ?_)
    have v23_2 : (y23_2).toInt = ((((n + 1) : Nat) : Int) - ((n : Nat) : Int)) := by rw [e23_2]; exact ti_sub (a := (((n + 1) : Nat) : Int)) (b := ((n : Nat) : Int)) hy1 (ti_nI (k := n) (by omega)) (by omega) (by omega)
    refine lv_iload_n hx hb dJx4a65c_grow_92f84_24 rfl (lv_at hl 0 rfl) ?_
    refine lv_iconst (v := 1) hx hb dJx4a65c_grow_92f84_25 (by decide) ?_
    refine lv_ishr hx hb dJx4a65c_grow_92f84_26 ?_
    refine lv_topi (fun ys eys => ?_)
    have vys : ys.toInt = (((n / 2) : Nat) : Int) := by rw [eys]; exact ti_shr1 (ti_nI (k := n) (by omega))
    have va3 : ((nI n)).toInt = ((n : Nat) : Int) := (ti_nI (k := n) (by omega))
    have va4 : (y23_2).toInt = ((((n + 1) : Nat) : Int) - ((n : Nat) : Int)) := v23_2
    have va5 : (ys).toInt = (((n / 2) : Nat) : Int) := vys
    refine rdS_i (As := [.int (nI n), .int y23_2, .int ys]) (rest := []) ⟨hx, hb, hml, hown, hts⟩ (c_J8_newLength_cabcc l G (nI n) y23_2 ys (by omega) (by omega) (by omega) (by omega) (by omega) (by omega)) cw73 hK va_P.nil rfl hl.1 rfl (Nat.le_of_ble_eq_true rfl) dJx4a65c_grow_92f84_27 ⟨Nat.zero_le _, Nat.zero_le _⟩ (fun rn wn => ?_)
    have wn : rn.toInt = (nI n).toInt + (if y23_2.toInt < ys.toInt then ys.toInt else y23_2.toInt) := wn
    obtain ⟨M, eM, hM1, hM2⟩ : ∃ M : Nat, rn.toInt = ((M : Nat) : Int) ∧ n + 1 ≤ M ∧ M ≤ 400 := by split at wn <;> exact ⟨rn.toInt.toNat, by omega, by omega, by omega⟩
    refine lv_istore_n (lv' := [(3, .int rn), (2, .int (nI n)), (0, .ref h), (1, .int y)]) hx hb dJx4a65c_grow_92f84_30 rfl hl (by decide) rfl (fun ls hl => ?_)
    refine lv_aload_n hx hb dJx4a65c_grow_92f84_31 rfl (lv_at hl 2 rfl) ?_
    refine lv_aload_n hx hb dJx4a65c_grow_92f84_32 rfl (lv_at hl 2 rfl) ?_
    refine va_get (D := G.1) (ci := 0) (v := .ref a2) (own := RJx4a65c) (C := RJx4a65c) (T := TJx4a65c) (N := 3) hx hb hts hiJx4a65c hown hK.1 hP 0 rfl rfl 1 (by decide) lf9 (fun _ h9 => h9) rfl dJx4a65c_grow_92f84_33 ?_
    refine lv_iload_n hx hb dJx4a65c_grow_92f84_36 rfl (lv_at hl 0 rfl) ?_
    refine wrS_r (wr := [(h, .inr (0, [.int md, .ref a2, .int (nI n)]))]) (As := [.ref a2, .int rn]) (rest := [.ref h]) ⟨hx, hb, hml, hown, hts⟩ (c_J7_copyOf_1904c l G a2 n M f rn eM (by omega) hM2 tl ht) cw66 hK hZ hP hD hS hA rfl hl.1 rfl (Nat.le_of_ble_eq_true rfl) dJx4a65c_grow_92f84_37 ⟨(Nat.le_of_ble_eq_true rfl), (Nat.le_of_ble_eq_true rfl)⟩ (fun u H locs wu hP hD hS => ?_)
    have hP : va_P G.1 vwCl ((h, .inr (0, [.int md, .ref a2, .int (nI n)])) :: aO G a2 n f :: (tl ++ [aO G u.1 M u.2])) H := hP
    have hD : va_D A ((h, .inr (0, [.int md, .ref a2, .int (nI n)])) :: aO G a2 n f :: (tl ++ [aO G u.1 M u.2])) := hD
    refine lv_dup_x1 hx hb dJx4a65c_grow_92f84_40 rfl rfl ?_
    refine va_put (D := G.1) (ci := 0) (v := .ref u.1) (ty := (.array (.object "java/lang/Object"))) (own := RJx4a65c) (C := RJx4a65c) (T := TJx4a65c) (N := 3) hx hb hts hiJx4a65c tyJx4a65c tyJx4a65c_ok nmJx4a65c hown hK.1 hP hD hS 0 rfl rfl 1 (by decide) lf9 (fun _ h9 => h9) rfl (by decide +kernel) rfl rfl (Nat.le_of_ble_eq_true rfl) dJx4a65c_grow_92f84_41 (fun H locs hP hD hS => ?_)
    have hP : va_P G.1 vwCl ((h, .inr (0, [.int md, .ref u.1, .int (nI n)])) :: aO G a2 n f :: (tl ++ [aO G u.1 M u.2])) H := hP
    have hD : va_D A ((h, .inr (0, [.int md, .ref u.1, .int (nI n)])) :: aO G a2 n f :: (tl ++ [aO G u.1 M u.2])) := hD
    exact hret _ _ _ _ _ _ _ (u.1, M, u.2) dJx4a65c_grow_92f84_44 rfl ⟨hM1, hM2, wu⟩ (re_P hP) (re_D hD) hS (Nat.le_of_ble_eq_true rfl) (Nat.le_of_ble_eq_true rfl)
  · have c7_1 : ¬ (0 < ((n : Nat) : Int)) := mt (ti_lt (x := 0) (y := (nI n)) (a := 0) (b := ((n : Nat) : Int)) rfl (ti_nI (k := n) (by omega))).mpr c7_1
    exfalso; omega

set_option maxHeartbeats 4000000 in
set_option maxRecDepth 100000 in
/-- grow(int), empty -/
theorem c_Jx4a65c_grow_92f84_0 (l : Launch) (G : GG) (h : Nat) (md y : Int32) (hy1 : (y).toInt = 1) (tl : va_W) : WrR l yJx4a65c_grow_92f84 wsJx4a65c_grow_92f84 (rmX 3 150 1 400) G [.ref h, .int y] ((h, .inr (0, [.int md, .ref (gS G), .int 0])) :: tl) (fun u : (Nat × Nat × (Nat → Option Nat)) => 1 ≤ u.2.1 ∧ u.2.1 ≤ 400) (fun u : (Nat × Nat × (Nat → Option Nat)) => (h, .inr (0, [.int md, .ref u.1, .int 0])) :: aO G u.1 u.2.1 u.2.2 :: tl) (fun u : (Nat × Nat × (Nat → Option Nat)) => u.1) 1 400 := by
  refine wr_of_r (cc := cJx4a65c_grow_92f84) (maxL := 4) (by decide +kernel) rfl (Nat.le_of_ble_eq_true rfl) ?_
  intro p e s m args below meth c Q A hx hb hml hown hts hK hZ hA hret ls hl hP hD hS
  have hown : s.vm.findClass RJx4a65c = some m.cls := hown
  have hl : lv_has ls 4 [(0, .ref h), (1, .int y)] := hl
  have hP : va_P G.1 vwCl ((h, .inr (0, [.int md, .ref (gS G), .int 0])) :: tl) s.heap := hP
  have hD : va_D A ((h, .inr (0, [.int md, .ref (gS G), .int 0])) :: tl) := hD
  have hiJx4a65c := (show ∀ w ∈ u_ws RJx4a65c TJx4a65c 3, w ∈ wsJx4a65c_grow_92f84 by decide +kernel)
  have lf9 := hts (.fieldLink RJx4a65c 9 "java/util/ArrayList" "elementData" "[Ljava/lang/Object;") (by decide +kernel)
  have lf39 := hts (.fieldLink RJx4a65c 39 "java/util/ArrayList" "DEFAULTCAPACITY_EMPTY_ELEMENTDATA" "[Ljava/lang/Object;") (by decide +kernel)
  refine lv_aload_n hx hb dJx4a65c_grow_92f84_0 rfl (lv_at hl 0 rfl) ?_
  refine va_get (D := G.1) (ci := 0) (v := .ref (gS G)) (own := RJx4a65c) (C := RJx4a65c) (T := TJx4a65c) (N := 3) hx hb hts hiJx4a65c hown hK.1 hP 0 rfl rfl 1 (by decide) lf9 (fun _ h9 => h9) rfl dJx4a65c_grow_92f84_1 ?_
  refine va_tlen hx hb hZ.2 hS (v := 0) rfl dJx4a65c_grow_92f84_4 ?_
  refine lv_istore_n (lv' := [(2, .int 0), (0, .ref h), (1, .int y)]) hx hb dJx4a65c_grow_92f84_5 rfl hl (by decide) rfl (fun ls hl => ?_)
  refine lv_iload_n hx hb dJx4a65c_grow_92f84_6 rfl (lv_at hl 0 rfl) ?_
  refine lv_if_gt (tgt := 20) hx hb dJx4a65c_grow_92f84_7 (by decide) (fun c7_1 => absurd c7_1 (by decide)) (fun _ => ?_)
  refine lv_aload_n hx hb dJx4a65c_grow_92f84_10 rfl (lv_at hl 1 rfl) ?_
  refine va_get (D := G.1) (ci := 0) (v := .ref (gS G)) (own := RJx4a65c) (C := RJx4a65c) (T := TJx4a65c) (N := 3) hx hb hts hiJx4a65c hown hK.1 hP 0 rfl rfl 1 (by decide) lf9 (fun _ h9 => h9) rfl dJx4a65c_grow_92f84_11 ?_
  refine va_gets (own := RJx4a65c) (C := "java/util/ArrayList") (n := "DEFAULTCAPACITY_EMPTY_ELEMENTDATA") (d := "[Ljava/lang/Object;") hx hb hZ.1 hS hown lf39 (fun _ h9 => h9) dJx4a65c_grow_92f84_14 ?_
  refine lv_acmp_eq (rx := some (gS G)) (ry := some (gS G)) (tgt := 45) hx hb dJx4a65c_grow_92f84_17 (by decide) (fun _ => ?_) (fun c9 => absurd rfl c9)
  refine lv_aload_n hx hb dJx4a65c_grow_92f84_45 rfl (lv_at hl 1 rfl) ?_
  refine lv_bipush (v := 10) hx hb dJx4a65c_grow_92f84_46 (by decide) ?_
  refine lv_iload_n hx hb dJx4a65c_grow_92f84_48 rfl (lv_at hl 2 rfl) ?_
  refine va_mmax hx hb (by rw [hml]; exact hl.1.symm) hown (hts (.methodLink RJx4a65c 79 Lib.Math.max.name) (by decide +kernel)) (hts (.static Lib.Math.max.name) (by decide +kernel)) (hts (.initialized "java/lang/Math") (by decide +kernel)) (hts (.code Lib.Math.max.name Lib.Math.max.code 2 (some .int)) (by decide +kernel)) (Nat.le_of_ble_eq_true rfl) (Nat.le_of_ble_eq_true rfl) (Nat.zero_le _) (Nat.zero_le _) dJx4a65c_grow_92f84_49 ?_
  refine lv_topi (fun ym eym => ?_)
  have vym : ym.toInt = if (10 : Int32).toInt < (y : Int32).toInt then (y : Int32).toInt else (10 : Int32).toInt := by rw [eym]; exact mxi_if _ _
  have e10 : (10 : Int32).toInt = 10 := rfl
  have v10 : ym.toInt = ((10 : Nat) : Int) := by rw [vym, e10]; exact if_neg (by omega)
  refine va_newq (own := RJx4a65c) (C := "java/lang/Object") (n := ym) (N' := 10) hx hb hown (hts (.classLink RJx4a65c 7 "java/lang/Object") (by decide +kernel)) hK.2.2.2.1 hK.1 hP hD hS hA (mt (ti_lt (a := ((10 : Nat) : Int)) (b := 0) v10 rfl).mp (by omega)) (ix_I v10) (by omega) (Nat.le_of_ble_eq_true rfl) (by show 0 + 10 ≤ 400; omega) dJx4a65c_grow_92f84_52 (fun qn cA H hK2 hP hD hS => ?_)
  obtain rfl : cA = gO G := Option.some.inj ((va_nmO (nm := "[Ljava/lang/Object;") (hK2.2 4 _ rfl).2 (by decide +kernel)).symm.trans (va_nmO (nm := "[Ljava/lang/Object;") (hK.1.2 3 _ rfl).2 (by decide +kernel)))
  have hP : va_P G.1 vwCl ((h, .inr (0, [.int md, .ref (gS G), .int 0])) :: (tl ++ [aO G qn 10 (fun _ => none)])) H := hP
  have hD : va_D A ((h, .inr (0, [.int md, .ref (gS G), .int 0])) :: (tl ++ [aO G qn 10 (fun _ => none)])) := hD
  refine lv_dup_x1 hx hb dJx4a65c_grow_92f84_55 rfl rfl ?_
  refine va_put (D := G.1) (ci := 0) (v := .ref qn) (ty := (.array (.object "java/lang/Object"))) (own := RJx4a65c) (C := RJx4a65c) (T := TJx4a65c) (N := 3) hx hb hts hiJx4a65c tyJx4a65c tyJx4a65c_ok nmJx4a65c hown hK.1 hP hD hS 0 rfl rfl 1 (by decide) lf9 (fun _ h9 => h9) rfl (by decide +kernel) rfl rfl (Nat.le_of_ble_eq_true rfl) dJx4a65c_grow_92f84_56 (fun H locs hP hD hS => ?_)
  have hP : va_P G.1 vwCl ((h, .inr (0, [.int md, .ref qn, .int 0])) :: (tl ++ [aO G qn 10 (fun _ => none)])) H := hP
  have hD : va_D A ((h, .inr (0, [.int md, .ref qn, .int 0])) :: (tl ++ [aO G qn 10 (fun _ => none)])) := hD
  exact hret _ _ _ _ _ _ _ (qn, 10, fun _ => none) dJx4a65c_grow_92f84_59 rfl ⟨(show 1 ≤ 10 by omega), (show 10 ≤ 400 by omega)⟩ (re0_P hP) (re0_D hD) hS (Nat.le_of_ble_eq_true rfl) (Nat.le_of_ble_eq_true rfl)

set_option maxHeartbeats 4000000 in
set_option maxRecDepth 100000 in
/-- grow(), full -/
theorem c_Jx4a65c_grow_d5877_n (l : Launch) (G : GG) (h : Nat) (md : Int32) (a2 n : Nat) (f : Nat → Option Nat) (hn0 : 0 < n) (hn : n ≤ 200) (tl : va_W) (ht : ∀ i, i < n → ∃ (y j : Nat) (fs : List Value), f i = some y ∧ tl[j]? = some (y, .inr (1, fs))) : WrR l yJx4a65c_grow_d5877 wsJx4a65c_grow_d5877 (rmX 4 180 1 400) G [.ref h] ((h, .inr (0, [.int md, .ref a2, .int (nI n)])) :: aO G a2 n f :: tl) (fun u : (Nat × Nat × (Nat → Option Nat)) => n + 1 ≤ u.2.1 ∧ u.2.1 ≤ 400 ∧ ∀ i, i < n → u.2.2 i = f i) (fun u : (Nat × Nat × (Nat → Option Nat)) => (h, .inr (0, [.int md, .ref u.1, .int (nI n)])) :: aO G u.1 u.2.1 u.2.2 :: tl) (fun u : (Nat × Nat × (Nat → Option Nat)) => u.1) 1 400 := by
  refine wr_of_r (cc := cJx4a65c_grow_d5877) (maxL := 1) (by decide +kernel) rfl (Nat.le_of_ble_eq_true rfl) ?_
  intro p e s m args below meth c Q A hx hb hml hown hts hK hZ hA hret ls hl hP hD hS
  have hown : s.vm.findClass RJx4a65c = some m.cls := hown
  have hl : lv_has ls 1 [(0, .ref h)] := hl
  have hP : va_P G.1 vwCl ((h, .inr (0, [.int md, .ref a2, .int (nI n)])) :: aO G a2 n f :: tl) s.heap := hP
  have hD : va_D A ((h, .inr (0, [.int md, .ref a2, .int (nI n)])) :: aO G a2 n f :: tl) := hD
  have hiJx4a65c := (show ∀ w ∈ u_ws RJx4a65c TJx4a65c 3, w ∈ wsJx4a65c_grow_d5877 by decide +kernel)
  have lf48 := hts (.fieldLink RJx4a65c 48 "java/util/ArrayList" "size" "I") (by decide +kernel)
  have cw69 := cwV (R := (rmX 4 180 1 400)) (s := s) (args := args) (rm := (rmX 3 150 1 400)) (mc := 1) (ms := 400) 1 hts gJx4a65c_grow_d5877_Jx4a65c_grow_92f84 rfl rfl rfl (by decide +kernel) ⟨Nat.le_of_ble_eq_true rfl, Nat.le_of_ble_eq_true rfl⟩
  refine lv_aload_n hx hb dJx4a65c_grow_d5877_0 rfl (lv_at hl 0 rfl) ?_
  refine lv_aload_n hx hb dJx4a65c_grow_d5877_1 rfl (lv_at hl 0 rfl) ?_
  refine va_get (D := G.1) (ci := 0) (v := .int (nI n)) (own := RJx4a65c) (C := RJx4a65c) (T := TJx4a65c) (N := 3) hx hb hts hiJx4a65c hown hK.1 hP 0 rfl rfl 2 (by decide) lf48 (fun _ h9 => h9) rfl dJx4a65c_grow_d5877_2 ?_
  refine lv_iconst (v := 1) hx hb dJx4a65c_grow_d5877_5 (by decide) ?_
  refine lv_iadd hx hb dJx4a65c_grow_d5877_6 ?_
  refine lv_topi (fun y6_1 e6_1 => ?_)
  have v6_1 : (y6_1).toInt = (((n + 1) : Nat) : Int) := by rw [e6_1]; exact (ti_add (a := ((n : Nat) : Int)) (b := 1) (ti_nI (by omega)) rfl (by omega) (by omega)).trans (by omega)
  refine wrV_r (wr := []) (b := h) (As := [.int y6_1]) (rest := []) ⟨hx, hb, hml, hown, hts⟩ (c_Jx4a65c_grow_92f84_n l G h md y6_1 a2 n f hn0 hn v6_1 tl ht) cw69 hK hZ hP hD hS hA 0 rfl rfl rfl rfl hl.1 rfl (Nat.le_of_ble_eq_true rfl) dJx4a65c_grow_d5877_7 ⟨(Nat.le_of_ble_eq_true rfl), (Nat.le_of_ble_eq_true rfl)⟩ (fun u H locs wu hP hD hS => ?_)
  have hP : va_P G.1 vwCl ((h, .inr (0, [.int md, .ref u.1, .int (nI n)])) :: aO G u.1 u.2.1 u.2.2 :: tl) H := hP
  have hD : va_D A ((h, .inr (0, [.int md, .ref u.1, .int (nI n)])) :: aO G u.1 u.2.1 u.2.2 :: tl) := hD
  exact hret _ _ _ _ _ _ _ u dJx4a65c_grow_d5877_10 rfl wu hP hD hS (Nat.le_of_ble_eq_true rfl) (Nat.le_of_ble_eq_true rfl)

set_option maxHeartbeats 4000000 in
set_option maxRecDepth 100000 in
/-- grow(), empty -/
theorem c_Jx4a65c_grow_d5877_0 (l : Launch) (G : GG) (h : Nat) (md : Int32) (tl : va_W) : WrR l yJx4a65c_grow_d5877 wsJx4a65c_grow_d5877 (rmX 4 180 1 400) G [.ref h] ((h, .inr (0, [.int md, .ref (gS G), .int 0])) :: tl) (fun u : (Nat × Nat × (Nat → Option Nat)) => 1 ≤ u.2.1 ∧ u.2.1 ≤ 400) (fun u : (Nat × Nat × (Nat → Option Nat)) => (h, .inr (0, [.int md, .ref u.1, .int 0])) :: aO G u.1 u.2.1 u.2.2 :: tl) (fun u : (Nat × Nat × (Nat → Option Nat)) => u.1) 1 400 := by
  refine wr_of_r (cc := cJx4a65c_grow_d5877) (maxL := 1) (by decide +kernel) rfl (Nat.le_of_ble_eq_true rfl) ?_
  intro p e s m args below meth c Q A hx hb hml hown hts hK hZ hA hret ls hl hP hD hS
  have hown : s.vm.findClass RJx4a65c = some m.cls := hown
  have hl : lv_has ls 1 [(0, .ref h)] := hl
  have hP : va_P G.1 vwCl ((h, .inr (0, [.int md, .ref (gS G), .int 0])) :: tl) s.heap := hP
  have hD : va_D A ((h, .inr (0, [.int md, .ref (gS G), .int 0])) :: tl) := hD
  have hiJx4a65c := (show ∀ w ∈ u_ws RJx4a65c TJx4a65c 3, w ∈ wsJx4a65c_grow_d5877 by decide +kernel)
  have lf48 := hts (.fieldLink RJx4a65c 48 "java/util/ArrayList" "size" "I") (by decide +kernel)
  have cw69 := cwV (R := (rmX 4 180 1 400)) (s := s) (args := args) (rm := (rmX 3 150 1 400)) (mc := 1) (ms := 400) 1 hts gJx4a65c_grow_d5877_Jx4a65c_grow_92f84 rfl rfl rfl (by decide +kernel) ⟨Nat.le_of_ble_eq_true rfl, Nat.le_of_ble_eq_true rfl⟩
  refine lv_aload_n hx hb dJx4a65c_grow_d5877_0 rfl (lv_at hl 0 rfl) ?_
  refine lv_aload_n hx hb dJx4a65c_grow_d5877_1 rfl (lv_at hl 0 rfl) ?_
  refine va_get (D := G.1) (ci := 0) (v := .int 0) (own := RJx4a65c) (C := RJx4a65c) (T := TJx4a65c) (N := 3) hx hb hts hiJx4a65c hown hK.1 hP 0 rfl rfl 2 (by decide) lf48 (fun _ h9 => h9) rfl dJx4a65c_grow_d5877_2 ?_
  refine lv_iconst (v := 1) hx hb dJx4a65c_grow_d5877_5 (by decide) ?_
  refine lv_iadd hx hb dJx4a65c_grow_d5877_6 ?_
  refine lv_topi (fun y6_1 e6_1 => ?_)
  have v6_1 : (y6_1).toInt = (((0 + 1) : Nat) : Int) := by rw [e6_1]; exact (ti_add (a := 0) (b := 1) rfl rfl (by omega) (by omega)).trans (by omega)
  refine wrV_r (wr := []) (b := h) (As := [.int y6_1]) (rest := []) ⟨hx, hb, hml, hown, hts⟩ (c_Jx4a65c_grow_92f84_0 l G h md y6_1 (v6_1.trans (by omega)) tl) cw69 hK hZ hP hD hS hA 0 rfl rfl rfl rfl hl.1 rfl (Nat.le_of_ble_eq_true rfl) dJx4a65c_grow_d5877_7 ⟨(Nat.le_of_ble_eq_true rfl), (Nat.le_of_ble_eq_true rfl)⟩ (fun u H locs wu hP hD hS => ?_)
  have hP : va_P G.1 vwCl ((h, .inr (0, [.int md, .ref u.1, .int 0])) :: aO G u.1 u.2.1 u.2.2 :: tl) H := hP
  have hD : va_D A ((h, .inr (0, [.int md, .ref u.1, .int 0])) :: aO G u.1 u.2.1 u.2.2 :: tl) := hD
  exact hret _ _ _ _ _ _ _ u dJx4a65c_grow_d5877_10 rfl wu hP hD hS (Nat.le_of_ble_eq_true rfl) (Nat.le_of_ble_eq_true rfl)

set_option maxHeartbeats 4000000 in
set_option maxRecDepth 100000 in
/-- add: room is there -/
theorem c_Jx4a65c_add_72be8_s (l : Launch) (G : GG) (h v : Nat) (md x3 : Int32) (a2 n N : Nat) (f : Nat → Option Nat) (hn0 : 0 < n) (hnN : n < N) (hN : N ≤ 400) (hn : n ≤ 200) (hx3 : (x3).toInt = ((n : Nat) : Int)) (tl : va_W) (jv : Nat) (fs : List Value) (hv : tl[jv]? = some (v, .inr (1, fs))) : WrV l yJx4a65c_add_72be8 wsJx4a65c_add_72be8 (rmX 5 210 1 400) G [.ref h, .ref v, .ref a2, .int x3] ((h, .inr (0, [.int md, .ref a2, .int (nI n)])) :: aO G a2 N f :: tl) (fun u : (Nat × Nat × (Nat → Option Nat)) => n + 1 ≤ u.2.1 ∧ u.2.1 ≤ 400 ∧ u.2.2 n = some v ∧ ∀ i, i < n → u.2.2 i = f i) (fun u : (Nat × Nat × (Nat → Option Nat)) => (h, .inr (0, [.int md, .ref u.1, .int (nI (n + 1))])) :: aO G u.1 u.2.1 u.2.2 :: tl) 1 400 := by
  refine wr_of_v (cc := cJx4a65c_add_72be8) (maxL := 4) (by decide +kernel) rfl (Nat.le_of_ble_eq_true rfl) ?_
  intro p e s m args below meth c Q A hx hb hml hown hts hK hZ hA hin hret ls hl hP hD hS
  have hown : s.vm.findClass RJx4a65c = some m.cls := hown
  have hl : lv_has ls 4 [(0, .ref h), (1, .ref v), (2, .ref a2), (3, .int x3)] := hl
  have hP : va_P G.1 vwCl ((h, .inr (0, [.int md, .ref a2, .int (nI n)])) :: aO G a2 N f :: tl) s.heap := hP
  have hD : va_D A ((h, .inr (0, [.int md, .ref a2, .int (nI n)])) :: aO G a2 N f :: tl) := hD
  have hiJx4a65c := (show ∀ w ∈ u_ws RJx4a65c TJx4a65c 3, w ∈ wsJx4a65c_add_72be8 by decide +kernel)
  have lf48 := hts (.fieldLink RJx4a65c 48 "java/util/ArrayList" "size" "I") (by decide +kernel)
  refine lv_iload_n hx hb dJx4a65c_add_72be8_0 rfl (lv_at hl 3 rfl) ?_
  refine lv_aload_n hx hb dJx4a65c_add_72be8_1 rfl (lv_at hl 2 rfl) ?_
  refine va_alen hx hb hK.1 hP 1 3 rfl rfl (v := (nI N)) rfl dJx4a65c_add_72be8_2 ?_
  refine lv_icmp_ne (tgt := 11) hx hb dJx4a65c_add_72be8_3 (by decide) (fun c3_1 => ?_) (fun c3_1 => ?_)
  · have c3_1 : ¬ (((n : Nat) : Int) = ((N : Nat) : Int)) := mt (ti_eq (x := x3) (y := (nI N)) (a := ((n : Nat) : Int)) (b := ((N : Nat) : Int)) hx3 (ti_nI (k := N) (by omega))).mpr c3_1
    refine lv_aload_n hx hb dJx4a65c_add_72be8_11 rfl (lv_at hl 2 rfl) ?_
    refine lv_iload_n hx hb dJx4a65c_add_72be8_12 rfl (lv_at hl 3 rfl) ?_
    refine lv_aload_n hx hb dJx4a65c_add_72be8_13 rfl (lv_at hl 1 rfl) ?_
    refine va_astqM hx hb hK.1 hP hD hS 1 3 (f := f) rfl rfl (ord_any hK hP (j := jv + 2) hv) (i := x3) (vp_inI (k := n) hx3 (by omega)) dJx4a65c_add_72be8_14 (fun H locs hP hD hS => ?_)
    rw [ix_I hx3] at hP hD
    have hP : va_P G.1 vwCl ((h, .inr (0, [.int md, .ref a2, .int (nI n)])) :: aO G a2 N (va_up f n (some v)) :: tl) H := hP
    have hD : va_D A ((h, .inr (0, [.int md, .ref a2, .int (nI n)])) :: aO G a2 N (va_up f n (some v)) :: tl) := hD
    refine lv_aload_n hx hb dJx4a65c_add_72be8_15 rfl (lv_at hl 0 rfl) ?_
    refine lv_iload_n hx hb dJx4a65c_add_72be8_16 rfl (lv_at hl 3 rfl) ?_
    refine lv_iconst (v := 1) hx hb dJx4a65c_add_72be8_17 (by decide) ?_
    refine lv_iadd hx hb dJx4a65c_add_72be8_18 ?_
    refine lv_topi (fun y18_2 e18_2 => ?_)
    have v18_2 : (y18_2).toInt = (((n + 1) : Nat) : Int) := by rw [e18_2]; exact (ti_add (a := ((n : Nat) : Int)) (b := 1) hx3 rfl (by omega) (by omega)).trans (by omega)
    refine va_put (D := G.1) (ci := 0) (v := .int y18_2) (ty := .int) (own := RJx4a65c) (C := RJx4a65c) (T := TJx4a65c) (N := 3) hx hb hts hiJx4a65c tyJx4a65c tyJx4a65c_ok nmJx4a65c hown hK.1 hP hD hS 0 rfl rfl 2 (by decide) lf48 (fun _ h9 => h9) rfl (by decide +kernel) rfl rfl (Nat.le_of_ble_eq_true rfl) dJx4a65c_add_72be8_19 (fun H locs hP hD hS => ?_)
    have hP : va_P G.1 vwCl ((h, .inr (0, [.int md, .ref a2, .int y18_2])) :: aO G a2 N (va_up f n (some v)) :: tl) H := hP
    have hD : va_D A ((h, .inr (0, [.int md, .ref a2, .int y18_2])) :: aO G a2 N (va_up f n (some v)) :: tl) := hD
    obtain rfl : y18_2 = nI (n + 1) := nI_ofI (v18_2.trans (by omega))
    exact hret _ _ _ _ _ _ (a2, N, (va_up f n (some v))) dJx4a65c_add_72be8_22 ⟨(show n + 1 ≤ N by omega), hN, va_up_self _ _ _, fun i hi => (va_up_ne _ _ (Nat.ne_of_lt hi)).trans rfl⟩ hP hD hS (Nat.le_of_ble_eq_true rfl) (Nat.le_of_ble_eq_true rfl)
  · have c3_1 : ((n : Nat) : Int) = ((N : Nat) : Int) := (ti_eq (x := x3) (y := (nI N)) (a := ((n : Nat) : Int)) (b := ((N : Nat) : Int)) hx3 (ti_nI (k := N) (by omega))).mp c3_1
    exfalso; omega

set_option maxHeartbeats 4000000 in
set_option maxRecDepth 100000 in
/-- add: full -/
theorem c_Jx4a65c_add_72be8_g (l : Launch) (G : GG) (h v : Nat) (md x3 : Int32) (a2 n : Nat) (f : Nat → Option Nat) (hn0 : 0 < n) (hn : n ≤ 200) (hx3 : (x3).toInt = ((n : Nat) : Int)) (tl : va_W) (ht : ∀ i, i < n → ∃ (y j : Nat) (fs : List Value), f i = some y ∧ tl[j]? = some (y, .inr (1, fs))) (jv : Nat) (fs : List Value) (hv : tl[jv]? = some (v, .inr (1, fs))) : WrV l yJx4a65c_add_72be8 wsJx4a65c_add_72be8 (rmX 5 210 1 400) G [.ref h, .ref v, .ref a2, .int x3] ((h, .inr (0, [.int md, .ref a2, .int (nI n)])) :: aO G a2 n f :: tl) (fun u : (Nat × Nat × (Nat → Option Nat)) => n + 1 ≤ u.2.1 ∧ u.2.1 ≤ 400 ∧ u.2.2 n = some v ∧ ∀ i, i < n → u.2.2 i = f i) (fun u : (Nat × Nat × (Nat → Option Nat)) => (h, .inr (0, [.int md, .ref u.1, .int (nI (n + 1))])) :: aO G u.1 u.2.1 u.2.2 :: tl) 1 400 := by
  refine wr_of_v (cc := cJx4a65c_add_72be8) (maxL := 4) (by decide +kernel) rfl (Nat.le_of_ble_eq_true rfl) ?_
  intro p e s m args below meth c Q A hx hb hml hown hts hK hZ hA hin hret ls hl hP hD hS
  have hown : s.vm.findClass RJx4a65c = some m.cls := hown
  have hl : lv_has ls 4 [(0, .ref h), (1, .ref v), (2, .ref a2), (3, .int x3)] := hl
  have hP : va_P G.1 vwCl ((h, .inr (0, [.int md, .ref a2, .int (nI n)])) :: aO G a2 n f :: tl) s.heap := hP
  have hD : va_D A ((h, .inr (0, [.int md, .ref a2, .int (nI n)])) :: aO G a2 n f :: tl) := hD
  have cw129 := cwV (R := (rmX 5 210 1 400)) (s := s) (args := args) (rm := (rmX 4 180 1 400)) (mc := 1) (ms := 400) 0 hts gJx4a65c_add_72be8_Jx4a65c_grow_d5877 rfl rfl rfl (by decide +kernel) ⟨Nat.le_of_ble_eq_true rfl, Nat.le_of_ble_eq_true rfl⟩
  have hiJx4a65c := (show ∀ w ∈ u_ws RJx4a65c TJx4a65c 3, w ∈ wsJx4a65c_add_72be8 by decide +kernel)
  have lf48 := hts (.fieldLink RJx4a65c 48 "java/util/ArrayList" "size" "I") (by decide +kernel)
  refine lv_iload_n hx hb dJx4a65c_add_72be8_0 rfl (lv_at hl 3 rfl) ?_
  refine lv_aload_n hx hb dJx4a65c_add_72be8_1 rfl (lv_at hl 2 rfl) ?_
  refine va_alen hx hb hK.1 hP 1 3 rfl rfl (v := (nI n)) rfl dJx4a65c_add_72be8_2 ?_
  refine lv_icmp_ne (tgt := 11) hx hb dJx4a65c_add_72be8_3 (by decide) (fun c3_1 => ?_) (fun c3_1 => ?_)
  · have c3_1 : ¬ (((n : Nat) : Int) = ((n : Nat) : Int)) := mt (ti_eq (x := x3) (y := (nI n)) (a := ((n : Nat) : Int)) (b := ((n : Nat) : Int)) hx3 (ti_nI (k := n) (by omega))).mpr c3_1
    exfalso; omega
  · have c3_1 : ((n : Nat) : Int) = ((n : Nat) : Int) := (ti_eq (x := x3) (y := (nI n)) (a := ((n : Nat) : Int)) (b := ((n : Nat) : Int)) hx3 (ti_nI (k := n) (by omega))).mp c3_1
    refine lv_aload_n hx hb dJx4a65c_add_72be8_6 rfl (lv_at hl 0 rfl) ?_
    refine wrV_r (wr := []) (b := h) (As := []) (rest := []) ⟨hx, hb, hml, hown, hts⟩ (c_Jx4a65c_grow_d5877_n l G h md a2 n f hn0 hn tl ht) cw129 hK hZ hP hD hS hA 0 rfl rfl rfl rfl hl.1 rfl (Nat.le_of_ble_eq_true rfl) dJx4a65c_add_72be8_7 ⟨(Nat.le_of_ble_eq_true rfl), (Nat.le_of_ble_eq_true rfl)⟩ (fun u H locs wu hP hD hS => ?_)
    have hP : va_P G.1 vwCl ((h, .inr (0, [.int md, .ref u.1, .int (nI n)])) :: aO G u.1 u.2.1 u.2.2 :: tl) H := hP
    have hD : va_D A ((h, .inr (0, [.int md, .ref u.1, .int (nI n)])) :: aO G u.1 u.2.1 u.2.2 :: tl) := hD
    refine lv_astore_n (lv' := [(2, .ref u.1), (0, .ref h), (1, .ref v), (3, .int x3)]) hx hb dJx4a65c_add_72be8_10 rfl hl (by decide) rfl (fun ls hl => ?_)
    refine lv_aload_n hx hb dJx4a65c_add_72be8_11 rfl (lv_at hl 0 rfl) ?_
    refine lv_iload_n hx hb dJx4a65c_add_72be8_12 rfl (lv_at hl 3 rfl) ?_
    refine lv_aload_n hx hb dJx4a65c_add_72be8_13 rfl (lv_at hl 2 rfl) ?_
    obtain ⟨wu1, wu2, wu3⟩ := wu
    refine va_astqM hx hb hK.1 hP hD hS 1 3 (f := u.2.2) rfl rfl (ord_any hK hP (j := jv + 2) hv) (i := x3) (vp_inI (k := n) hx3 (by omega)) dJx4a65c_add_72be8_14 (fun H locs hP hD hS => ?_)
    rw [ix_I hx3] at hP hD
    have hP : va_P G.1 vwCl ((h, .inr (0, [.int md, .ref u.1, .int (nI n)])) :: aO G u.1 u.2.1 (va_up u.2.2 n (some v)) :: tl) H := hP
    have hD : va_D A ((h, .inr (0, [.int md, .ref u.1, .int (nI n)])) :: aO G u.1 u.2.1 (va_up u.2.2 n (some v)) :: tl) := hD
    refine lv_aload_n hx hb dJx4a65c_add_72be8_15 rfl (lv_at hl 1 rfl) ?_
    refine lv_iload_n hx hb dJx4a65c_add_72be8_16 rfl (lv_at hl 3 rfl) ?_
    refine lv_iconst (v := 1) hx hb dJx4a65c_add_72be8_17 (by decide) ?_
    refine lv_iadd hx hb dJx4a65c_add_72be8_18 ?_
    refine lv_topi (fun y18_2 e18_2 => ?_)
    have v18_2 : (y18_2).toInt = (((n + 1) : Nat) : Int) := by rw [e18_2]; exact (ti_add (a := ((n : Nat) : Int)) (b := 1) hx3 rfl (by omega) (by omega)).trans (by omega)
    refine va_put (D := G.1) (ci := 0) (v := .int y18_2) (ty := .int) (own := RJx4a65c) (C := RJx4a65c) (T := TJx4a65c) (N := 3) hx hb hts hiJx4a65c tyJx4a65c tyJx4a65c_ok nmJx4a65c hown hK.1 hP hD hS 0 rfl rfl 2 (by decide) lf48 (fun _ h9 => h9) rfl (by decide +kernel) rfl rfl (Nat.le_of_ble_eq_true rfl) dJx4a65c_add_72be8_19 (fun H locs hP hD hS => ?_)
    have hP : va_P G.1 vwCl ((h, .inr (0, [.int md, .ref u.1, .int y18_2])) :: aO G u.1 u.2.1 (va_up u.2.2 n (some v)) :: tl) H := hP
    have hD : va_D A ((h, .inr (0, [.int md, .ref u.1, .int y18_2])) :: aO G u.1 u.2.1 (va_up u.2.2 n (some v)) :: tl) := hD
    obtain rfl : y18_2 = nI (n + 1) := nI_ofI (v18_2.trans (by omega))
    exact hret _ _ _ _ _ _ (u.1, u.2.1, (va_up u.2.2 n (some v))) dJx4a65c_add_72be8_22 ⟨wu1, wu2, va_up_self _ _ _, fun i hi => (va_up_ne _ _ (Nat.ne_of_lt hi)).trans (wu3 i hi)⟩ hP hD hS (Nat.le_of_ble_eq_true rfl) (Nat.le_of_ble_eq_true rfl)

set_option maxHeartbeats 4000000 in
set_option maxRecDepth 100000 in
/-- add: the first -/
theorem c_Jx4a65c_add_72be8_0 (l : Launch) (G : GG) (h v : Nat) (md x3 : Int32) (hx3 : (x3).toInt = ((0 : Nat) : Int)) (tl : va_W) (jv : Nat) (fs : List Value) (hv : tl[jv]? = some (v, .inr (1, fs))) : WrV l yJx4a65c_add_72be8 wsJx4a65c_add_72be8 (rmX 5 210 1 400) G [.ref h, .ref v, .ref (gS G), .int x3] ((h, .inr (0, [.int md, .ref (gS G), .int 0])) :: tl) (fun u : (Nat × Nat × (Nat → Option Nat)) => 1 ≤ u.2.1 ∧ u.2.1 ≤ 400 ∧ u.2.2 0 = some v) (fun u : (Nat × Nat × (Nat → Option Nat)) => (h, .inr (0, [.int md, .ref u.1, .int (nI (0 + 1))])) :: aO G u.1 u.2.1 u.2.2 :: tl) 1 400 := by
  refine wr_of_v (cc := cJx4a65c_add_72be8) (maxL := 4) (by decide +kernel) rfl (Nat.le_of_ble_eq_true rfl) ?_
  intro p e s m args below meth c Q A hx hb hml hown hts hK hZ hA hin hret ls hl hP hD hS
  have hown : s.vm.findClass RJx4a65c = some m.cls := hown
  have hl : lv_has ls 4 [(0, .ref h), (1, .ref v), (2, .ref (gS G)), (3, .int x3)] := hl
  have hP : va_P G.1 vwCl ((h, .inr (0, [.int md, .ref (gS G), .int 0])) :: tl) s.heap := hP
  have hD : va_D A ((h, .inr (0, [.int md, .ref (gS G), .int 0])) :: tl) := hD
  have cw129 := cwV (R := (rmX 5 210 1 400)) (s := s) (args := args) (rm := (rmX 4 180 1 400)) (mc := 1) (ms := 400) 0 hts gJx4a65c_add_72be8_Jx4a65c_grow_d5877 rfl rfl rfl (by decide +kernel) ⟨Nat.le_of_ble_eq_true rfl, Nat.le_of_ble_eq_true rfl⟩
  have hiJx4a65c := (show ∀ w ∈ u_ws RJx4a65c TJx4a65c 3, w ∈ wsJx4a65c_add_72be8 by decide +kernel)
  have lf48 := hts (.fieldLink RJx4a65c 48 "java/util/ArrayList" "size" "I") (by decide +kernel)
  refine lv_iload_n hx hb dJx4a65c_add_72be8_0 rfl (lv_at hl 3 rfl) ?_
  refine lv_aload_n hx hb dJx4a65c_add_72be8_1 rfl (lv_at hl 2 rfl) ?_
  refine va_tlen hx hb hZ.2 hS (v := 0) rfl dJx4a65c_add_72be8_2 ?_
  refine lv_icmp_ne (tgt := 11) hx hb dJx4a65c_add_72be8_3 (by decide) (fun c3_1 => ?_) (fun c3_1 => ?_)
  · have c3_1 : ¬ (((0 : Nat) : Int) = 0) := mt (ti_eq (x := x3) (y := 0) (a := ((0 : Nat) : Int)) (b := 0) hx3 rfl).mpr c3_1
    exfalso; omega
  · have c3_1 : ((0 : Nat) : Int) = 0 := (ti_eq (x := x3) (y := 0) (a := ((0 : Nat) : Int)) (b := 0) hx3 rfl).mp c3_1
    refine lv_aload_n hx hb dJx4a65c_add_72be8_6 rfl (lv_at hl 0 rfl) ?_
    refine wrV_r (wr := []) (b := h) (As := []) (rest := []) ⟨hx, hb, hml, hown, hts⟩ (c_Jx4a65c_grow_d5877_0 l G h md tl) cw129 hK hZ hP hD hS hA 0 rfl rfl rfl rfl hl.1 rfl (Nat.le_of_ble_eq_true rfl) dJx4a65c_add_72be8_7 ⟨(Nat.le_of_ble_eq_true rfl), (Nat.le_of_ble_eq_true rfl)⟩ (fun u H locs wu hP hD hS => ?_)
    have hP : va_P G.1 vwCl ((h, .inr (0, [.int md, .ref u.1, .int 0])) :: aO G u.1 u.2.1 u.2.2 :: tl) H := hP
    have hD : va_D A ((h, .inr (0, [.int md, .ref u.1, .int 0])) :: aO G u.1 u.2.1 u.2.2 :: tl) := hD
    refine lv_astore_n (lv' := [(2, .ref u.1), (0, .ref h), (1, .ref v), (3, .int x3)]) hx hb dJx4a65c_add_72be8_10 rfl hl (by decide) rfl (fun ls hl => ?_)
    refine lv_aload_n hx hb dJx4a65c_add_72be8_11 rfl (lv_at hl 0 rfl) ?_
    refine lv_iload_n hx hb dJx4a65c_add_72be8_12 rfl (lv_at hl 3 rfl) ?_
    refine lv_aload_n hx hb dJx4a65c_add_72be8_13 rfl (lv_at hl 2 rfl) ?_
    obtain ⟨wu1, wu2⟩ := wu
    refine va_astqM hx hb hK.1 hP hD hS 1 3 (f := u.2.2) rfl rfl (ord_any hK hP (j := jv + 2) hv) (i := x3) (vp_inI (k := 0) hx3 (by omega)) dJx4a65c_add_72be8_14 (fun H locs hP hD hS => ?_)
    rw [ix_I hx3] at hP hD
    have hP : va_P G.1 vwCl ((h, .inr (0, [.int md, .ref u.1, .int 0])) :: aO G u.1 u.2.1 (va_up u.2.2 0 (some v)) :: tl) H := hP
    have hD : va_D A ((h, .inr (0, [.int md, .ref u.1, .int 0])) :: aO G u.1 u.2.1 (va_up u.2.2 0 (some v)) :: tl) := hD
    refine lv_aload_n hx hb dJx4a65c_add_72be8_15 rfl (lv_at hl 1 rfl) ?_
    refine lv_iload_n hx hb dJx4a65c_add_72be8_16 rfl (lv_at hl 3 rfl) ?_
    refine lv_iconst (v := 1) hx hb dJx4a65c_add_72be8_17 (by decide) ?_
    refine lv_iadd hx hb dJx4a65c_add_72be8_18 ?_
    refine lv_topi (fun y18_2 e18_2 => ?_)
    have v18_2 : (y18_2).toInt = (((0 + 1) : Nat) : Int) := by rw [e18_2]; exact (ti_add (a := ((0 : Nat) : Int)) (b := 1) hx3 rfl (by omega) (by omega)).trans (by omega)
    refine va_put (D := G.1) (ci := 0) (v := .int y18_2) (ty := .int) (own := RJx4a65c) (C := RJx4a65c) (T := TJx4a65c) (N := 3) hx hb hts hiJx4a65c tyJx4a65c tyJx4a65c_ok nmJx4a65c hown hK.1 hP hD hS 0 rfl rfl 2 (by decide) lf48 (fun _ h9 => h9) rfl (by decide +kernel) rfl rfl (Nat.le_of_ble_eq_true rfl) dJx4a65c_add_72be8_19 (fun H locs hP hD hS => ?_)
    have hP : va_P G.1 vwCl ((h, .inr (0, [.int md, .ref u.1, .int y18_2])) :: aO G u.1 u.2.1 (va_up u.2.2 0 (some v)) :: tl) H := hP
    have hD : va_D A ((h, .inr (0, [.int md, .ref u.1, .int y18_2])) :: aO G u.1 u.2.1 (va_up u.2.2 0 (some v)) :: tl) := hD
    obtain rfl : y18_2 = nI (0 + 1) := nI_ofI (v18_2.trans (by omega))
    exact hret _ _ _ _ _ _ (u.1, u.2.1, (va_up u.2.2 0 (some v))) dJx4a65c_add_72be8_22 ⟨wu1, wu2, va_up_self u.2.2 0 (some v)⟩ hP hD hS (Nat.le_of_ble_eq_true rfl) (Nat.le_of_ble_eq_true rfl)

set_option maxHeartbeats 4000000 in
set_option maxRecDepth 100000 in
/-- ArrayList.add -/
theorem c_Jx4a65c_add_9ea2d_s (l : Launch) (G : GG) (h v : Nat) (md : Int32) (a2 n N : Nat) (f : Nat → Option Nat) (hn0 : 0 < n) (hnN : n < N) (hN : N ≤ 400) (hn : n ≤ 200) (tl : va_W) (jv : Nat) (fs : List Value) (hv : tl[jv]? = some (v, .inr (1, fs))) : WrI l yJx4a65c_add_9ea2d wsJx4a65c_add_9ea2d (rmX 6 240 1 400) G [.ref h, .ref v] ((h, .inr (0, [.int md, .ref a2, .int (nI n)])) :: aO G a2 N f :: tl) (fun (r : Int32) (u : (Int32 × Nat × Nat × (Nat → Option Nat))) => n + 1 ≤ u.2.2.1 ∧ u.2.2.1 ≤ 400 ∧ u.2.2.2 n = some v ∧ ∀ i, i < n → u.2.2.2 i = f i) (fun u : (Int32 × Nat × Nat × (Nat → Option Nat)) => (h, .inr (0, [.int u.1, .ref u.2.1, .int (nI (n + 1))])) :: aO G u.2.1 u.2.2.1 u.2.2.2 :: tl) 1 400 := by
  refine wr_of_i (cc := cJx4a65c_add_9ea2d) (maxL := 2) (t := .boolean) (by decide +kernel) rfl (Nat.le_of_ble_eq_true rfl) nar_bool ?_
  intro p e s m args below meth c Q A hx hb hml hown hts hK hZ hA hret ls hl hP hD hS
  have hown : s.vm.findClass RJx4a65c = some m.cls := hown
  have hl : lv_has ls 2 [(0, .ref h), (1, .ref v)] := hl
  have hP : va_P G.1 vwCl ((h, .inr (0, [.int md, .ref a2, .int (nI n)])) :: aO G a2 N f :: tl) s.heap := hP
  have hD : va_D A ((h, .inr (0, [.int md, .ref a2, .int (nI n)])) :: aO G a2 N f :: tl) := hD
  have sf63 := hts (.sameField "java/util/ArrayList" "java/util/AbstractList" "modCount" "I") (by decide +kernel)
  have hiJx4a65c := (show ∀ w ∈ u_ws RJx4a65c TJx4a65c 3, w ∈ wsJx4a65c_add_9ea2d by decide +kernel)
  have lf63 := hts (.fieldLink RJx4a65c 63 "java/util/ArrayList" "modCount" "I") (by decide +kernel)
  have lf9 := hts (.fieldLink RJx4a65c 9 "java/util/ArrayList" "elementData" "[Ljava/lang/Object;") (by decide +kernel)
  have lf48 := hts (.fieldLink RJx4a65c 48 "java/util/ArrayList" "size" "I") (by decide +kernel)
  have cw131 := cwV (R := (rmX 6 240 1 400)) (s := s) (args := args) (rm := (rmX 5 210 1 400)) (mc := 1) (ms := 400) 3 hts gJx4a65c_add_9ea2d_Jx4a65c_add_72be8 rfl rfl rfl (by decide +kernel) ⟨Nat.le_of_ble_eq_true rfl, Nat.le_of_ble_eq_true rfl⟩
  refine lv_aload_n hx hb dJx4a65c_add_9ea2d_0 rfl (lv_at hl 0 rfl) ?_
  refine lv_dup hx hb dJx4a65c_add_9ea2d_1 rfl ?_
  refine va_get (D := G.1) (ci := 0) (v := .int md) (own := RJx4a65c) (C := RJx4a65c) (T := TJx4a65c) (N := 3) hx hb hts hiJx4a65c hown hK.1 hP 0 rfl rfl 0 (by decide) lf63 (u_same sf63) rfl dJx4a65c_add_9ea2d_2 ?_
  refine lv_iconst (v := 1) hx hb dJx4a65c_add_9ea2d_5 (by decide) ?_
  refine lv_iadd hx hb dJx4a65c_add_9ea2d_6 ?_
  refine lv_topi (fun ymd eymd => ?_)
  refine va_put (D := G.1) (ci := 0) (v := .int ymd) (ty := .int) (own := RJx4a65c) (C := RJx4a65c) (T := TJx4a65c) (N := 3) hx hb hts hiJx4a65c tyJx4a65c tyJx4a65c_ok nmJx4a65c hown hK.1 hP hD hS 0 rfl rfl 0 (by decide) lf63 (u_same sf63) rfl (by decide +kernel) rfl rfl (Nat.le_of_ble_eq_true rfl) dJx4a65c_add_9ea2d_7 (fun H locs hP hD hS => ?_)
  have hP : va_P G.1 vwCl ((h, .inr (0, [.int ymd, .ref a2, .int (nI n)])) :: aO G a2 N f :: tl) H := hP
  have hD : va_D A ((h, .inr (0, [.int ymd, .ref a2, .int (nI n)])) :: aO G a2 N f :: tl) := hD
  refine lv_aload_n hx hb dJx4a65c_add_9ea2d_10 rfl (lv_at hl 0 rfl) ?_
  refine lv_aload_n hx hb dJx4a65c_add_9ea2d_11 rfl (lv_at hl 1 rfl) ?_
  refine lv_aload_n hx hb dJx4a65c_add_9ea2d_12 rfl (lv_at hl 0 rfl) ?_
  refine va_get (D := G.1) (ci := 0) (v := .ref a2) (own := RJx4a65c) (C := RJx4a65c) (T := TJx4a65c) (N := 3) hx hb hts hiJx4a65c hown hK.1 hP 0 rfl rfl 1 (by decide) lf9 (fun _ h9 => h9) rfl dJx4a65c_add_9ea2d_13 ?_
  refine lv_aload_n hx hb dJx4a65c_add_9ea2d_16 rfl (lv_at hl 0 rfl) ?_
  refine va_get (D := G.1) (ci := 0) (v := .int (nI n)) (own := RJx4a65c) (C := RJx4a65c) (T := TJx4a65c) (N := 3) hx hb hts hiJx4a65c hown hK.1 hP 0 rfl rfl 2 (by decide) lf48 (fun _ h9 => h9) rfl dJx4a65c_add_9ea2d_17 ?_
  refine wrV_v (wr := []) (b := h) (As := [.ref v, .ref a2, .int (nI n)]) (rest := []) ⟨hx, hb, hml, hown, hts⟩ (c_Jx4a65c_add_72be8_s l G h v ymd (nI n) a2 n N f hn0 hnN hN hn (ti_nI (by omega)) tl jv fs hv) cw131 hK hZ hP hD hS hA 0 rfl rfl rfl rfl hl.1 rfl (Nat.le_of_ble_eq_true rfl) dJx4a65c_add_9ea2d_20 ⟨(Nat.le_of_ble_eq_true rfl), (Nat.le_of_ble_eq_true rfl)⟩ (fun u H locs wu hP hD hS => ?_)
  have hP : va_P G.1 vwCl ((h, .inr (0, [.int ymd, .ref u.1, .int (nI (n + 1))])) :: aO G u.1 u.2.1 u.2.2 :: tl) H := hP
  have hD : va_D A ((h, .inr (0, [.int ymd, .ref u.1, .int (nI (n + 1))])) :: aO G u.1 u.2.1 u.2.2 :: tl) := hD
  refine lv_iconst (v := 1) hx hb dJx4a65c_add_9ea2d_23 (by decide) ?_
  exact hret _ _ _ _ _ _ _ (ymd, u) dJx4a65c_add_9ea2d_24 (Or.inr (Or.inl rfl)) wu hP hD hS (Nat.le_of_ble_eq_true rfl) (Nat.le_of_ble_eq_true rfl)

set_option maxHeartbeats 4000000 in
set_option maxRecDepth 100000 in
/-- ArrayList.add -/
theorem c_Jx4a65c_add_9ea2d_g (l : Launch) (G : GG) (h v : Nat) (md : Int32) (a2 n : Nat) (f : Nat → Option Nat) (hn0 : 0 < n) (hn : n ≤ 200) (tl : va_W) (ht : ∀ i, i < n → ∃ (y j : Nat) (fs : List Value), f i = some y ∧ tl[j]? = some (y, .inr (1, fs))) (jv : Nat) (fs : List Value) (hv : tl[jv]? = some (v, .inr (1, fs))) : WrI l yJx4a65c_add_9ea2d wsJx4a65c_add_9ea2d (rmX 6 240 1 400) G [.ref h, .ref v] ((h, .inr (0, [.int md, .ref a2, .int (nI n)])) :: aO G a2 n f :: tl) (fun (r : Int32) (u : (Int32 × Nat × Nat × (Nat → Option Nat))) => n + 1 ≤ u.2.2.1 ∧ u.2.2.1 ≤ 400 ∧ u.2.2.2 n = some v ∧ ∀ i, i < n → u.2.2.2 i = f i) (fun u : (Int32 × Nat × Nat × (Nat → Option Nat)) => (h, .inr (0, [.int u.1, .ref u.2.1, .int (nI (n + 1))])) :: aO G u.2.1 u.2.2.1 u.2.2.2 :: tl) 1 400 := by
  refine wr_of_i (cc := cJx4a65c_add_9ea2d) (maxL := 2) (t := .boolean) (by decide +kernel) rfl (Nat.le_of_ble_eq_true rfl) nar_bool ?_
  intro p e s m args below meth c Q A hx hb hml hown hts hK hZ hA hret ls hl hP hD hS
  have hown : s.vm.findClass RJx4a65c = some m.cls := hown
  have hl : lv_has ls 2 [(0, .ref h), (1, .ref v)] := hl
  have hP : va_P G.1 vwCl ((h, .inr (0, [.int md, .ref a2, .int (nI n)])) :: aO G a2 n f :: tl) s.heap := hP
  have hD : va_D A ((h, .inr (0, [.int md, .ref a2, .int (nI n)])) :: aO G a2 n f :: tl) := hD
  have sf63 := hts (.sameField "java/util/ArrayList" "java/util/AbstractList" "modCount" "I") (by decide +kernel)
  have hiJx4a65c := (show ∀ w ∈ u_ws RJx4a65c TJx4a65c 3, w ∈ wsJx4a65c_add_9ea2d by decide +kernel)
  have lf63 := hts (.fieldLink RJx4a65c 63 "java/util/ArrayList" "modCount" "I") (by decide +kernel)
  have lf9 := hts (.fieldLink RJx4a65c 9 "java/util/ArrayList" "elementData" "[Ljava/lang/Object;") (by decide +kernel)
  have lf48 := hts (.fieldLink RJx4a65c 48 "java/util/ArrayList" "size" "I") (by decide +kernel)
  have cw131 := cwV (R := (rmX 6 240 1 400)) (s := s) (args := args) (rm := (rmX 5 210 1 400)) (mc := 1) (ms := 400) 3 hts gJx4a65c_add_9ea2d_Jx4a65c_add_72be8 rfl rfl rfl (by decide +kernel) ⟨Nat.le_of_ble_eq_true rfl, Nat.le_of_ble_eq_true rfl⟩
  refine lv_aload_n hx hb dJx4a65c_add_9ea2d_0 rfl (lv_at hl 0 rfl) ?_
  refine lv_dup hx hb dJx4a65c_add_9ea2d_1 rfl ?_
  refine va_get (D := G.1) (ci := 0) (v := .int md) (own := RJx4a65c) (C := RJx4a65c) (T := TJx4a65c) (N := 3) hx hb hts hiJx4a65c hown hK.1 hP 0 rfl rfl 0 (by decide) lf63 (u_same sf63) rfl dJx4a65c_add_9ea2d_2 ?_
  refine lv_iconst (v := 1) hx hb dJx4a65c_add_9ea2d_5 (by decide) ?_
  refine lv_iadd hx hb dJx4a65c_add_9ea2d_6 ?_
  refine lv_topi (fun ymd eymd => ?_)
  refine va_put (D := G.1) (ci := 0) (v := .int ymd) (ty := .int) (own := RJx4a65c) (C := RJx4a65c) (T := TJx4a65c) (N := 3) hx hb hts hiJx4a65c tyJx4a65c tyJx4a65c_ok nmJx4a65c hown hK.1 hP hD hS 0 rfl rfl 0 (by decide) lf63 (u_same sf63) rfl (by decide +kernel) rfl rfl (Nat.le_of_ble_eq_true rfl) dJx4a65c_add_9ea2d_7 (fun H locs hP hD hS => ?_)
  have hP : va_P G.1 vwCl ((h, .inr (0, [.int ymd, .ref a2, .int (nI n)])) :: aO G a2 n f :: tl) H := hP
  have hD : va_D A ((h, .inr (0, [.int ymd, .ref a2, .int (nI n)])) :: aO G a2 n f :: tl) := hD
  refine lv_aload_n hx hb dJx4a65c_add_9ea2d_10 rfl (lv_at hl 0 rfl) ?_
  refine lv_aload_n hx hb dJx4a65c_add_9ea2d_11 rfl (lv_at hl 1 rfl) ?_
  refine lv_aload_n hx hb dJx4a65c_add_9ea2d_12 rfl (lv_at hl 0 rfl) ?_
  refine va_get (D := G.1) (ci := 0) (v := .ref a2) (own := RJx4a65c) (C := RJx4a65c) (T := TJx4a65c) (N := 3) hx hb hts hiJx4a65c hown hK.1 hP 0 rfl rfl 1 (by decide) lf9 (fun _ h9 => h9) rfl dJx4a65c_add_9ea2d_13 ?_
  refine lv_aload_n hx hb dJx4a65c_add_9ea2d_16 rfl (lv_at hl 0 rfl) ?_
  refine va_get (D := G.1) (ci := 0) (v := .int (nI n)) (own := RJx4a65c) (C := RJx4a65c) (T := TJx4a65c) (N := 3) hx hb hts hiJx4a65c hown hK.1 hP 0 rfl rfl 2 (by decide) lf48 (fun _ h9 => h9) rfl dJx4a65c_add_9ea2d_17 ?_
  refine wrV_v (wr := []) (b := h) (As := [.ref v, .ref a2, .int (nI n)]) (rest := []) ⟨hx, hb, hml, hown, hts⟩ (c_Jx4a65c_add_72be8_g l G h v ymd (nI n) a2 n f hn0 hn (ti_nI (by omega)) tl ht jv fs hv) cw131 hK hZ hP hD hS hA 0 rfl rfl rfl rfl hl.1 rfl (Nat.le_of_ble_eq_true rfl) dJx4a65c_add_9ea2d_20 ⟨(Nat.le_of_ble_eq_true rfl), (Nat.le_of_ble_eq_true rfl)⟩ (fun u H locs wu hP hD hS => ?_)
  have hP : va_P G.1 vwCl ((h, .inr (0, [.int ymd, .ref u.1, .int (nI (n + 1))])) :: aO G u.1 u.2.1 u.2.2 :: tl) H := hP
  have hD : va_D A ((h, .inr (0, [.int ymd, .ref u.1, .int (nI (n + 1))])) :: aO G u.1 u.2.1 u.2.2 :: tl) := hD
  refine lv_iconst (v := 1) hx hb dJx4a65c_add_9ea2d_23 (by decide) ?_
  exact hret _ _ _ _ _ _ _ (ymd, u) dJx4a65c_add_9ea2d_24 (Or.inr (Or.inl rfl)) wu hP hD hS (Nat.le_of_ble_eq_true rfl) (Nat.le_of_ble_eq_true rfl)

set_option maxHeartbeats 4000000 in
set_option maxRecDepth 100000 in
/-- ArrayList.add -/
theorem c_Jx4a65c_add_9ea2d_0 (l : Launch) (G : GG) (h v : Nat) (md : Int32) (tl : va_W) (jv : Nat) (fs : List Value) (hv : tl[jv]? = some (v, .inr (1, fs))) : WrI l yJx4a65c_add_9ea2d wsJx4a65c_add_9ea2d (rmX 6 240 1 400) G [.ref h, .ref v] ((h, .inr (0, [.int md, .ref (gS G), .int 0])) :: tl) (fun (r : Int32) (u : (Int32 × Nat × Nat × (Nat → Option Nat))) => 1 ≤ u.2.2.1 ∧ u.2.2.1 ≤ 400 ∧ u.2.2.2 0 = some v) (fun u : (Int32 × Nat × Nat × (Nat → Option Nat)) => (h, .inr (0, [.int u.1, .ref u.2.1, .int (nI (0 + 1))])) :: aO G u.2.1 u.2.2.1 u.2.2.2 :: tl) 1 400 := by
  refine wr_of_i (cc := cJx4a65c_add_9ea2d) (maxL := 2) (t := .boolean) (by decide +kernel) rfl (Nat.le_of_ble_eq_true rfl) nar_bool ?_
  intro p e s m args below meth c Q A hx hb hml hown hts hK hZ hA hret ls hl hP hD hS
  have hown : s.vm.findClass RJx4a65c = some m.cls := hown
  have hl : lv_has ls 2 [(0, .ref h), (1, .ref v)] := hl
  have hP : va_P G.1 vwCl ((h, .inr (0, [.int md, .ref (gS G), .int 0])) :: tl) s.heap := hP
  have hD : va_D A ((h, .inr (0, [.int md, .ref (gS G), .int 0])) :: tl) := hD
  have sf63 := hts (.sameField "java/util/ArrayList" "java/util/AbstractList" "modCount" "I") (by decide +kernel)
  have hiJx4a65c := (show ∀ w ∈ u_ws RJx4a65c TJx4a65c 3, w ∈ wsJx4a65c_add_9ea2d by decide +kernel)
  have lf63 := hts (.fieldLink RJx4a65c 63 "java/util/ArrayList" "modCount" "I") (by decide +kernel)
  have lf9 := hts (.fieldLink RJx4a65c 9 "java/util/ArrayList" "elementData" "[Ljava/lang/Object;") (by decide +kernel)
  have lf48 := hts (.fieldLink RJx4a65c 48 "java/util/ArrayList" "size" "I") (by decide +kernel)
  have cw131 := cwV (R := (rmX 6 240 1 400)) (s := s) (args := args) (rm := (rmX 5 210 1 400)) (mc := 1) (ms := 400) 3 hts gJx4a65c_add_9ea2d_Jx4a65c_add_72be8 rfl rfl rfl (by decide +kernel) ⟨Nat.le_of_ble_eq_true rfl, Nat.le_of_ble_eq_true rfl⟩
  refine lv_aload_n hx hb dJx4a65c_add_9ea2d_0 rfl (lv_at hl 0 rfl) ?_
  refine lv_dup hx hb dJx4a65c_add_9ea2d_1 rfl ?_
  refine va_get (D := G.1) (ci := 0) (v := .int md) (own := RJx4a65c) (C := RJx4a65c) (T := TJx4a65c) (N := 3) hx hb hts hiJx4a65c hown hK.1 hP 0 rfl rfl 0 (by decide) lf63 (u_same sf63) rfl dJx4a65c_add_9ea2d_2 ?_
  refine lv_iconst (v := 1) hx hb dJx4a65c_add_9ea2d_5 (by decide) ?_
  refine lv_iadd hx hb dJx4a65c_add_9ea2d_6 ?_
  refine lv_topi (fun ymd eymd => ?_)
  refine va_put (D := G.1) (ci := 0) (v := .int ymd) (ty := .int) (own := RJx4a65c) (C := RJx4a65c) (T := TJx4a65c) (N := 3) hx hb hts hiJx4a65c tyJx4a65c tyJx4a65c_ok nmJx4a65c hown hK.1 hP hD hS 0 rfl rfl 0 (by decide) lf63 (u_same sf63) rfl (by decide +kernel) rfl rfl (Nat.le_of_ble_eq_true rfl) dJx4a65c_add_9ea2d_7 (fun H locs hP hD hS => ?_)
  have hP : va_P G.1 vwCl ((h, .inr (0, [.int ymd, .ref (gS G), .int 0])) :: tl) H := hP
  have hD : va_D A ((h, .inr (0, [.int ymd, .ref (gS G), .int 0])) :: tl) := hD
  refine lv_aload_n hx hb dJx4a65c_add_9ea2d_10 rfl (lv_at hl 0 rfl) ?_
  refine lv_aload_n hx hb dJx4a65c_add_9ea2d_11 rfl (lv_at hl 1 rfl) ?_
  refine lv_aload_n hx hb dJx4a65c_add_9ea2d_12 rfl (lv_at hl 0 rfl) ?_
  refine va_get (D := G.1) (ci := 0) (v := .ref (gS G)) (own := RJx4a65c) (C := RJx4a65c) (T := TJx4a65c) (N := 3) hx hb hts hiJx4a65c hown hK.1 hP 0 rfl rfl 1 (by decide) lf9 (fun _ h9 => h9) rfl dJx4a65c_add_9ea2d_13 ?_
  refine lv_aload_n hx hb dJx4a65c_add_9ea2d_16 rfl (lv_at hl 0 rfl) ?_
  refine va_get (D := G.1) (ci := 0) (v := .int 0) (own := RJx4a65c) (C := RJx4a65c) (T := TJx4a65c) (N := 3) hx hb hts hiJx4a65c hown hK.1 hP 0 rfl rfl 2 (by decide) lf48 (fun _ h9 => h9) rfl dJx4a65c_add_9ea2d_17 ?_
  refine wrV_v (wr := []) (b := h) (As := [.ref v, .ref (gS G), .int 0]) (rest := []) ⟨hx, hb, hml, hown, hts⟩ (c_Jx4a65c_add_72be8_0 l G h v ymd 0 rfl tl jv fs hv) cw131 hK hZ hP hD hS hA 0 rfl rfl rfl rfl hl.1 rfl (Nat.le_of_ble_eq_true rfl) dJx4a65c_add_9ea2d_20 ⟨(Nat.le_of_ble_eq_true rfl), (Nat.le_of_ble_eq_true rfl)⟩ (fun u H locs wu hP hD hS => ?_)
  have hP : va_P G.1 vwCl ((h, .inr (0, [.int ymd, .ref u.1, .int (nI (0 + 1))])) :: aO G u.1 u.2.1 u.2.2 :: tl) H := hP
  have hD : va_D A ((h, .inr (0, [.int ymd, .ref u.1, .int (nI (0 + 1))])) :: aO G u.1 u.2.1 u.2.2 :: tl) := hD
  refine lv_iconst (v := 1) hx hb dJx4a65c_add_9ea2d_23 (by decide) ?_
  exact hret _ _ _ _ _ _ _ (ymd, u) dJx4a65c_add_9ea2d_24 (Or.inr (Or.inl rfl)) wu hP hD hS (Nat.le_of_ble_eq_true rfl) (Nat.le_of_ble_eq_true rfl)
