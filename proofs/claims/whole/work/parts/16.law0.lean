-- ===== laid by wip/whole/gen.py out of the decode rows =====
set_option maxHeartbeats 4000000 in
set_option maxRecDepth 100000 in
theorem lc_0 {p : Program} {l : Launch} {e : Env} {s : State} {m : MethodId} {args : Array Value} {below : List Frame} {meth : Method} {c : Code} {b L : Nat} {xs : Nat → Int32} {Q : State → Prop} {A : Nat → Prop} {G : GG} (hx : p.tables.exec = Jvm.exec) (hb : c.code = cL_law) (hml : c.maxLocals = 4) (hown : s.vm.findClass RL = some m.cls) (hts : ∀ w ∈ wsL_law, w.before args s = true) (hX : va_X b L xs s s.heap) (hbl : b < s.heap.size) (hA : ∀ q, s.heap.size ≤ q → A q) (hbA : ¬ A b) (hK : KK G s) (hZ : SF G A s s.heap) (hL : L ≤ 4608) {a : AD} {κ : KP} {bm : Nat → Nat} {μ : MP} {σ : St} {H : Heap} {locs : List Loc} (hLI : LI G A s H locs a κ bm μ σ) {cells slots : Nat} (hcs : cells + 2 ≤ 908180) (hss : slots + 409 ≤ 6377709) {ls : Array Slot} {x3 : Int32} {k : Nat} (e3 : x3.toInt = ((k : Nat) : Int)) (hk : k + 9 ≤ L) (hl : lv_has ls 4 [(3, .int x3), (0, .ref b), (1, .ref a.1), (2, .ref (bm 0))]) (kk : ∀ (κ1 : KP) (μ1 : MP) (σ1 : St) (H1 : Heap) (locs1 : List Loc), LI G A s H1 locs1 a κ1 bm μ1 σ1 → W p l e room_1 s m args below meth c H1 locs1 (cells + 2) (slots + 409) Q (F0 m 663 ls [])) : W p l e room_1 s m args below meth c H locs cells slots Q (F0 m 84 ls []) := by
  obtain ⟨hI, hC, hM, hP, hD, hS⟩ := hLI
  have kl13 := hts (.constantLong RL 13 (4294967295)) (by decide +kernel)
  have cw15 := cwV (R := room_1) (s := s) (args := args) (rm := (rmX 7 280 2 409)) (mc := 2) (ms := 409) 6 hts gL_law_X1_order rfl rfl rfl (by decide +kernel) ⟨Nat.le_of_ble_eq_true rfl, Nat.le_of_ble_eq_true rfl⟩
  have cw19 := cwV (R := room_1) (s := s) (args := args) (rm := (rmX 1 60 0 0)) (mc := 0) (ms := 0) 6 hts gL_law_X2_order rfl rfl rfl (by decide +kernel) ⟨Nat.le_of_ble_eq_true rfl, Nat.le_of_ble_eq_true rfl⟩
  refine lv_aload_n hx hb dL_law_84 rfl (lv_at hl 2 rfl) ?_
  refine lv_aload_n hx hb dL_law_85 rfl (lv_at hl 1 rfl) ?_
  refine lv_iload_n hx hb dL_law_86 rfl (lv_at hl 0 rfl) ?_
  refine lv_iconst (v := 1) hx hb dL_law_87 (by decide) ?_
  refine lv_iadd hx hb dL_law_88 ?_
  refine lv_topi (fun y88_1 e88_1 => ?_)
  have v88_1 := my_ix (c := 1) e3 rfl hk hL (by decide) e88_1
  refine my_sld hx hb hX hbl hbA hS (k := (k + 1)) v88_1 (my_lt (c := 1) hk (by decide)) dL_law_89 ?_
  refine my_pc 90 rfl ?_
  refine lv_aload_n hx hb dL_law_90 rfl (lv_at hl 1 rfl) ?_
  refine lv_iload_n hx hb dL_law_91 rfl (lv_at hl 0 rfl) ?_
  refine lv_iconst (v := 2) hx hb dL_law_92 (by decide) ?_
  refine lv_iadd hx hb dL_law_93 ?_
  refine lv_topi (fun y93_2 e93_2 => ?_)
  have v93_2 := my_ix (c := 2) e3 rfl hk hL (by decide) e93_2
  refine my_sld hx hb hX hbl hbA hS (k := (k + 2)) v93_2 (my_lt (c := 2) hk (by decide)) dL_law_94 ?_
  refine my_pc 95 rfl ?_
  refine lv_aload_n hx hb dL_law_95 rfl (lv_at hl 1 rfl) ?_
  refine lv_iload_n hx hb dL_law_96 rfl (lv_at hl 0 rfl) ?_
  refine lv_iconst (v := 3) hx hb dL_law_97 (by decide) ?_
  refine lv_iadd hx hb dL_law_98 ?_
  refine lv_topi (fun y98_3 e98_3 => ?_)
  have v98_3 := my_ix (c := 3) e3 rfl hk hL (by decide) e98_3
  refine my_sld hx hb hX hbl hbA hS (k := (k + 3)) v98_3 (my_lt (c := 3) hk (by decide)) dL_law_99 ?_
  refine my_pc 100 rfl ?_
  refine lv_aload_n hx hb dL_law_100 rfl (lv_at hl 1 rfl) ?_
  refine lv_iload_n hx hb dL_law_101 rfl (lv_at hl 0 rfl) ?_
  refine lv_iconst (v := 4) hx hb dL_law_102 (by decide) ?_
  refine lv_iadd hx hb dL_law_103 ?_
  refine lv_topi (fun y103_4 e103_4 => ?_)
  have v103_4 := my_ix (c := 4) e3 rfl hk hL (by decide) e103_4
  refine my_sld hx hb hX hbl hbA hS (k := (k + 4)) v103_4 (my_lt (c := 4) hk (by decide)) dL_law_104 ?_
  refine my_pc 105 rfl ?_
  refine lv_aload_n hx hb dL_law_105 rfl (lv_at hl 1 rfl) ?_
  refine lv_iload_n hx hb dL_law_106 rfl (lv_at hl 0 rfl) ?_
  refine lv_iconst (v := 5) hx hb dL_law_107 (by decide) ?_
  refine lv_iadd hx hb dL_law_108 ?_
  refine lv_topi (fun y108_5 e108_5 => ?_)
  have v108_5 := my_ix (c := 5) e3 rfl hk hL (by decide) e108_5
  refine my_sld hx hb hX hbl hbA hS (k := (k + 5)) v108_5 (my_lt (c := 5) hk (by decide)) dL_law_109 ?_
  refine my_pc 110 rfl ?_
  refine lv_i2l hx hb dL_law_110 rfl ?_
  refine my_pc 111 rfl ?_
  refine lv_bipush (v := 32) hx hb dL_law_111 (by decide) ?_
  refine lv_lshl hx hb dL_law_113 rfl ?_
  refine lv_aload_n hx hb dL_law_114 rfl (lv_at hl 1 rfl) ?_
  refine lv_iload_n hx hb dL_law_115 rfl (lv_at hl 0 rfl) ?_
  refine lv_bipush (v := 6) hx hb dL_law_116 (by decide) ?_
  refine lv_iadd hx hb dL_law_118 ?_
  refine lv_topi (fun y118_6 e118_6 => ?_)
  have v118_6 := my_ix (c := 6) e3 rfl hk hL (by decide) e118_6
  refine my_sld hx hb hX hbl hbA hS (k := (k + 6)) v118_6 (my_lt (c := 6) hk (by decide)) dL_law_119 ?_
  refine my_pc 120 rfl ?_
  refine lv_i2l hx hb dL_law_120 rfl ?_
  refine my_pc 121 rfl ?_
  refine lv_ldc2 (v := 4294967295) hx hb hown kl13 dL_law_121 ?_
  refine lv_land hx hb dL_law_124 ?_
  refine lv_lor hx hb dL_law_125 ?_
  refine lv_topl (fun zA eA => ?_)
  refine lv_aload_n hx hb dL_law_126 rfl (lv_at hl 1 rfl) ?_
  refine lv_iload_n hx hb dL_law_127 rfl (lv_at hl 0 rfl) ?_
  refine lv_bipush (v := 7) hx hb dL_law_128 (by decide) ?_
  refine lv_iadd hx hb dL_law_130 ?_
  refine lv_topi (fun y130_7 e130_7 => ?_)
  have v130_7 := my_ix (c := 7) e3 rfl hk hL (by decide) e130_7
  refine my_sld hx hb hX hbl hbA hS (k := (k + 7)) v130_7 (my_lt (c := 7) hk (by decide)) dL_law_131 ?_
  refine my_pc 132 rfl ?_
  refine lv_i2l hx hb dL_law_132 rfl ?_
  refine my_pc 133 rfl ?_
  refine lv_bipush (v := 32) hx hb dL_law_133 (by decide) ?_
  refine lv_lshl hx hb dL_law_135 rfl ?_
  refine lv_aload_n hx hb dL_law_136 rfl (lv_at hl 1 rfl) ?_
  refine lv_iload_n hx hb dL_law_137 rfl (lv_at hl 0 rfl) ?_
  refine lv_bipush (v := 8) hx hb dL_law_138 (by decide) ?_
  refine lv_iadd hx hb dL_law_140 ?_
  refine lv_topi (fun y140_8 e140_8 => ?_)
  have v140_8 := my_ix (c := 8) e3 rfl hk hL (by decide) e140_8
  refine my_sld hx hb hX hbl hbA hS (k := (k + 8)) v140_8 (my_lt (c := 8) hk (by decide)) dL_law_141 ?_
  refine my_pc 142 rfl ?_
  refine lv_i2l hx hb dL_law_142 rfl ?_
  refine my_pc 143 rfl ?_
  refine lv_ldc2 (v := 4294967295) hx hb hown kl13 dL_law_143 ?_
  refine lv_land hx hb dL_law_146 ?_
  refine lv_lor hx hb dL_law_147 ?_
  refine lv_topl (fun zB eB => ?_)
  refine wrV_i (wr := WM G bm μ σ) (b := a.1) (As := [.int (xs (k + 1)), .int (xs (k + 2)), .int (xs (k + 3)), .int (xs (k + 4)), .long zA, .long zB]) (rest := []) ⟨hx, hb, hml, hown, hts⟩ (c_X1_order l G a κ σ hI hC (xs (k + 1)) (xs (k + 2)) (xs (k + 3)) (xs (k + 4)) zA zB) cw15 hK hZ hP hD hS hA 2 rfl rfl rfl rfl hl.1 rfl (Nat.le_of_ble_eq_true rfl) dL_law_148 ⟨by show cells + 2 ≤ 908180; omega, by show slots + 409 ≤ 6377709; omega⟩ (fun r1 u1 H locs w1 hP hD hS => ?_)
  refine my_pc 151 rfl ?_
  obtain ⟨w1, hC1⟩ := w1
  have hI1 := SI_order (k := xs (k + 1)) (e := xs (k + 2)) (w := xs (k + 3)) (t := xs (k + 4)) (f := zA) (u := zB) hI
  have cm := c_X2_order l G bm μ σ hI hM (xs (k + 1)) (xs (k + 2)) (xs (k + 3)) (xs (k + 4)) zA zB
  generalize fOrder σ (xs (k + 1)) (xs (k + 2)) (xs (k + 3)) (xs (k + 4)) zA zB = FF at hI1 cm w1 hC1 hP hD
  have hP := va_P.comm hP
  have hD := va_D.comm hD
  refine lv_aload_n hx hb dL_law_151 rfl (lv_at hl 3 rfl) ?_
  refine lv_aload_n hx hb dL_law_152 rfl (lv_at hl 1 rfl) ?_
  refine lv_iload_n hx hb dL_law_153 rfl (lv_at hl 0 rfl) ?_
  refine lv_iconst (v := 1) hx hb dL_law_154 (by decide) ?_
  refine lv_iadd hx hb dL_law_155 ?_
  refine lv_topi (fun y155_9 e155_9 => ?_)
  have v155_9 := my_ix (c := 1) e3 rfl hk hL (by decide) e155_9
  refine my_sld hx hb hX hbl hbA hS (k := (k + 1)) v155_9 (my_lt (c := 1) hk (by decide)) dL_law_156 ?_
  refine my_pc 157 rfl ?_
  refine lv_aload_n hx hb dL_law_157 rfl (lv_at hl 1 rfl) ?_
  refine lv_iload_n hx hb dL_law_158 rfl (lv_at hl 0 rfl) ?_
  refine lv_iconst (v := 2) hx hb dL_law_159 (by decide) ?_
  refine lv_iadd hx hb dL_law_160 ?_
  refine lv_topi (fun y160_10 e160_10 => ?_)
  have v160_10 := my_ix (c := 2) e3 rfl hk hL (by decide) e160_10
  refine my_sld hx hb hX hbl hbA hS (k := (k + 2)) v160_10 (my_lt (c := 2) hk (by decide)) dL_law_161 ?_
  refine my_pc 162 rfl ?_
  refine lv_aload_n hx hb dL_law_162 rfl (lv_at hl 1 rfl) ?_
  refine lv_iload_n hx hb dL_law_163 rfl (lv_at hl 0 rfl) ?_
  refine lv_iconst (v := 3) hx hb dL_law_164 (by decide) ?_
  refine lv_iadd hx hb dL_law_165 ?_
  refine lv_topi (fun y165_11 e165_11 => ?_)
  have v165_11 := my_ix (c := 3) e3 rfl hk hL (by decide) e165_11
  refine my_sld hx hb hX hbl hbA hS (k := (k + 3)) v165_11 (my_lt (c := 3) hk (by decide)) dL_law_166 ?_
  refine my_pc 167 rfl ?_
  refine lv_aload_n hx hb dL_law_167 rfl (lv_at hl 1 rfl) ?_
  refine lv_iload_n hx hb dL_law_168 rfl (lv_at hl 0 rfl) ?_
  refine lv_iconst (v := 4) hx hb dL_law_169 (by decide) ?_
  refine lv_iadd hx hb dL_law_170 ?_
  refine lv_topi (fun y170_12 e170_12 => ?_)
  have v170_12 := my_ix (c := 4) e3 rfl hk hL (by decide) e170_12
  refine my_sld hx hb hX hbl hbA hS (k := (k + 4)) v170_12 (my_lt (c := 4) hk (by decide)) dL_law_171 ?_
  refine my_pc 172 rfl ?_
  refine lv_aload_n hx hb dL_law_172 rfl (lv_at hl 1 rfl) ?_
  refine lv_iload_n hx hb dL_law_173 rfl (lv_at hl 0 rfl) ?_
  refine lv_iconst (v := 5) hx hb dL_law_174 (by decide) ?_
  refine lv_iadd hx hb dL_law_175 ?_
  refine lv_topi (fun y175_13 e175_13 => ?_)
  have v175_13 := my_ix (c := 5) e3 rfl hk hL (by decide) e175_13
  refine my_sld hx hb hX hbl hbA hS (k := (k + 5)) v175_13 (my_lt (c := 5) hk (by decide)) dL_law_176 ?_
  refine my_pc 177 rfl ?_
  refine lv_i2l hx hb dL_law_177 rfl ?_
  refine my_pc 178 rfl ?_
  refine lv_bipush (v := 32) hx hb dL_law_178 (by decide) ?_
  refine lv_lshl hx hb dL_law_180 rfl ?_
  refine lv_aload_n hx hb dL_law_181 rfl (lv_at hl 1 rfl) ?_
  refine lv_iload_n hx hb dL_law_182 rfl (lv_at hl 0 rfl) ?_
  refine lv_bipush (v := 6) hx hb dL_law_183 (by decide) ?_
  refine lv_iadd hx hb dL_law_185 ?_
  refine lv_topi (fun y185_14 e185_14 => ?_)
  have v185_14 := my_ix (c := 6) e3 rfl hk hL (by decide) e185_14
  refine my_sld hx hb hX hbl hbA hS (k := (k + 6)) v185_14 (my_lt (c := 6) hk (by decide)) dL_law_186 ?_
  refine my_pc 187 rfl ?_
  refine lv_i2l hx hb dL_law_187 rfl ?_
  refine my_pc 188 rfl ?_
  refine lv_ldc2 (v := 4294967295) hx hb hown kl13 dL_law_188 ?_
  refine lv_land hx hb dL_law_191 ?_
  refine lv_lor hx hb dL_law_192 ?_
  rw [← eA]
  refine lv_aload_n hx hb dL_law_193 rfl (lv_at hl 1 rfl) ?_
  refine lv_iload_n hx hb dL_law_194 rfl (lv_at hl 0 rfl) ?_
  refine lv_bipush (v := 7) hx hb dL_law_195 (by decide) ?_
  refine lv_iadd hx hb dL_law_197 ?_
  refine lv_topi (fun y197_15 e197_15 => ?_)
  have v197_15 := my_ix (c := 7) e3 rfl hk hL (by decide) e197_15
  refine my_sld hx hb hX hbl hbA hS (k := (k + 7)) v197_15 (my_lt (c := 7) hk (by decide)) dL_law_198 ?_
  refine my_pc 199 rfl ?_
  refine lv_i2l hx hb dL_law_199 rfl ?_
  refine my_pc 200 rfl ?_
  refine lv_bipush (v := 32) hx hb dL_law_200 (by decide) ?_
  refine lv_lshl hx hb dL_law_202 rfl ?_
  refine lv_aload_n hx hb dL_law_203 rfl (lv_at hl 1 rfl) ?_
  refine lv_iload_n hx hb dL_law_204 rfl (lv_at hl 0 rfl) ?_
  refine lv_bipush (v := 8) hx hb dL_law_205 (by decide) ?_
  refine lv_iadd hx hb dL_law_207 ?_
  refine lv_topi (fun y207_16 e207_16 => ?_)
  have v207_16 := my_ix (c := 8) e3 rfl hk hL (by decide) e207_16
  refine my_sld hx hb hX hbl hbA hS (k := (k + 8)) v207_16 (my_lt (c := 8) hk (by decide)) dL_law_208 ?_
  refine my_pc 209 rfl ?_
  refine lv_i2l hx hb dL_law_209 rfl ?_
  refine my_pc 210 rfl ?_
  refine lv_ldc2 (v := 4294967295) hx hb hown kl13 dL_law_210 ?_
  refine lv_land hx hb dL_law_213 ?_
  refine lv_lor hx hb dL_law_214 ?_
  rw [← eB]
  refine wrV_i (wr := WC G a u1 FF.2) (b := bm 0) (As := [.int (xs (k + 1)), .int (xs (k + 2)), .int (xs (k + 3)), .int (xs (k + 4)), .long zA, .long zB]) (rest := [.int r1]) ⟨hx, hb, hml, hown, hts⟩ cm cw19 hK hZ hP hD hS hA 3 rfl rfl rfl rfl hl.1 rfl (Nat.le_of_ble_eq_true rfl) dL_law_215 ⟨by show cells + 2 + 0 ≤ 908180; omega, by show slots + 409 + 0 ≤ 6377709; omega⟩ (fun r2 u2 H locs w2 hP hD hS => ?_)
  obtain ⟨w2, hM1⟩ := w2
  refine lv_icmp_eq (tgt := 663) hx hb dL_law_218 (by decide) (fun _ => ?_) (fun c9 => absurd (w1.trans w2.symm) c9)
  refine W.widen (k := cells + 2) (n := slots + 409) (by omega) (by omega) ?_
  exact kk u1 u2 FF.2 _ _ ⟨hI1, hC1, hM1, va_P.comm hP, va_D.comm hD, hS⟩
