-- ===== PART A: goes FIRST, ahead of the names: the tables' words, and 'selects' of the private methods out of them =====
/-- a private method of a class that the tables say can be made, by its rows of tables_1 -/
def lw_okq (q : MethodName × Nat) : Prop := (q.1.cls ≠ "java/lang/invoke/MethodHandle" ∧ q.1.cls ≠ "java/lang/invoke/VarHandle") ∧ Cond.instantiable q.1.cls q.2 ∈ tables_1 ∧ Cond.privateMethod q.1 ∈ tables_1 ∧ Cond.instanceMethod q.1 ∈ tables_1
theorem lw_p0 : lw_okq (⟨"java/util/ArrayList", "add", "(Ljava/lang/Object;[Ljava/lang/Object;I)V"⟩, 3) := ⟨⟨by decide +kernel, by decide +kernel⟩, List.mem_of_getElem? (i := 22) (by decide +kernel), List.mem_of_getElem? (i := 136) (by decide +kernel), List.mem_of_getElem? (i := 137) (by decide +kernel)⟩
theorem lw_p1 : lw_okq (⟨"java/util/ArrayList", "grow", "()[Ljava/lang/Object;"⟩, 3) := ⟨⟨by decide +kernel, by decide +kernel⟩, List.mem_of_getElem? (i := 22) (by decide +kernel), List.mem_of_getElem? (i := 140) (by decide +kernel), List.mem_of_getElem? (i := 141) (by decide +kernel)⟩
theorem lw_p2 : lw_okq (⟨"java/util/ArrayList", "grow", "(I)[Ljava/lang/Object;"⟩, 3) := ⟨⟨by decide +kernel, by decide +kernel⟩, List.mem_of_getElem? (i := 22) (by decide +kernel), List.mem_of_getElem? (i := 144) (by decide +kernel), List.mem_of_getElem? (i := 145) (by decide +kernel)⟩
theorem lw_p3 : lw_okq (⟨"OrderRows2", "find", "(I)LOrderRows2$Order;"⟩, 6) := ⟨⟨by decide +kernel, by decide +kernel⟩, List.mem_of_getElem? (i := 14) (by decide +kernel), List.mem_of_getElem? (i := 187) (by decide +kernel), List.mem_of_getElem? (i := 188) (by decide +kernel)⟩
theorem lw_p4 : lw_okq (⟨"OrderRows2", "canBeClock", "(J)Z"⟩, 6) := ⟨⟨by decide +kernel, by decide +kernel⟩, List.mem_of_getElem? (i := 14) (by decide +kernel), List.mem_of_getElem? (i := 205) (by decide +kernel), List.mem_of_getElem? (i := 206) (by decide +kernel)⟩
theorem lw_p5 : lw_okq (⟨"OrderRows2", "moveClock", "(J)I"⟩, 6) := ⟨⟨by decide +kernel, by decide +kernel⟩, List.mem_of_getElem? (i := 14) (by decide +kernel), List.mem_of_getElem? (i := 209) (by decide +kernel), List.mem_of_getElem? (i := 210) (by decide +kernel)⟩
theorem lw_p6 : lw_okq (⟨"OrderRows2", "stepAt", "(II)I"⟩, 6) := ⟨⟨by decide +kernel, by decide +kernel⟩, List.mem_of_getElem? (i := 14) (by decide +kernel), List.mem_of_getElem? (i := 238) (by decide +kernel), List.mem_of_getElem? (i := 239) (by decide +kernel)⟩
theorem lw_p7 : lw_okq (⟨"OrderRows2", "tellRing", "(II)V"⟩, 6) := ⟨⟨by decide +kernel, by decide +kernel⟩, List.mem_of_getElem? (i := 14) (by decide +kernel), List.mem_of_getElem? (i := 242) (by decide +kernel), List.mem_of_getElem? (i := 243) (by decide +kernel)⟩
theorem lw_p8 : lw_okq (⟨"OrderRows2", "strongest", "(IIIJ)LOrderRows2$Order;"⟩, 6) := ⟨⟨by decide +kernel, by decide +kernel⟩, List.mem_of_getElem? (i := 14) (by decide +kernel), List.mem_of_getElem? (i := 247) (by decide +kernel), List.mem_of_getElem? (i := 248) (by decide +kernel)⟩
theorem lw_p9 : lw_okq (⟨"OrderRows2", "rankOf", "(I)I"⟩, 6) := ⟨⟨by decide +kernel, by decide +kernel⟩, List.mem_of_getElem? (i := 14) (by decide +kernel), List.mem_of_getElem? (i := 259) (by decide +kernel), List.mem_of_getElem? (i := 260) (by decide +kernel)⟩
theorem lw_p10 : lw_okq (⟨"OrderRows2Model", "isOrder", "(I)Z"⟩, 17) := ⟨⟨by decide +kernel, by decide +kernel⟩, List.mem_of_getElem? (i := 294) (by decide +kernel), List.mem_of_getElem? (i := 369) (by decide +kernel), List.mem_of_getElem? (i := 370) (by decide +kernel)⟩
theorem lw_p11 : lw_okq (⟨"OrderRows2Model", "isDay", "(J)Z"⟩, 17) := ⟨⟨by decide +kernel, by decide +kernel⟩, List.mem_of_getElem? (i := 294) (by decide +kernel), List.mem_of_getElem? (i := 373) (by decide +kernel), List.mem_of_getElem? (i := 374) (by decide +kernel)⟩
theorem lw_p12 : lw_okq (⟨"OrderRows2Model", "set", "(J)I"⟩, 17) := ⟨⟨by decide +kernel, by decide +kernel⟩, List.mem_of_getElem? (i := 294) (by decide +kernel), List.mem_of_getElem? (i := 377) (by decide +kernel), List.mem_of_getElem? (i := 378) (by decide +kernel)⟩
theorem lw_p13 : lw_okq (⟨"OrderRows2Model", "find", "(IIIJ)I"⟩, 17) := ⟨⟨by decide +kernel, by decide +kernel⟩, List.mem_of_getElem? (i := 294) (by decide +kernel), List.mem_of_getElem? (i := 392) (by decide +kernel), List.mem_of_getElem? (i := 393) (by decide +kernel)⟩
theorem lw_p14 : lw_okq (⟨"OrderRows2Model", "isForce", "(IJ)Z"⟩, 17) := ⟨⟨by decide +kernel, by decide +kernel⟩, List.mem_of_getElem? (i := 294) (by decide +kernel), List.mem_of_getElem? (i := 396) (by decide +kernel), List.mem_of_getElem? (i := 397) (by decide +kernel)⟩
def lw_privs_1 : List (MethodName × Nat) := [(⟨"java/util/ArrayList", "add", "(Ljava/lang/Object;[Ljava/lang/Object;I)V"⟩, 3), (⟨"java/util/ArrayList", "grow", "()[Ljava/lang/Object;"⟩, 3), (⟨"java/util/ArrayList", "grow", "(I)[Ljava/lang/Object;"⟩, 3), (⟨"OrderRows2", "find", "(I)LOrderRows2$Order;"⟩, 6), (⟨"OrderRows2", "canBeClock", "(J)Z"⟩, 6), (⟨"OrderRows2", "moveClock", "(J)I"⟩, 6), (⟨"OrderRows2", "stepAt", "(II)I"⟩, 6), (⟨"OrderRows2", "tellRing", "(II)V"⟩, 6), (⟨"OrderRows2", "strongest", "(IIIJ)LOrderRows2$Order;"⟩, 6), (⟨"OrderRows2", "rankOf", "(I)I"⟩, 6), (⟨"OrderRows2Model", "isOrder", "(I)Z"⟩, 17), (⟨"OrderRows2Model", "isDay", "(J)Z"⟩, 17), (⟨"OrderRows2Model", "set", "(J)I"⟩, 17), (⟨"OrderRows2Model", "find", "(IIIJ)I"⟩, 17), (⟨"OrderRows2Model", "isForce", "(IJ)Z"⟩, 17)]
theorem lw_r1 : ∀ q ∈ lw_privs_1, lw_okq q := List.forall_mem_cons.mpr ⟨lw_p0, List.forall_mem_cons.mpr ⟨lw_p1, List.forall_mem_cons.mpr ⟨lw_p2, List.forall_mem_cons.mpr ⟨lw_p3, List.forall_mem_cons.mpr ⟨lw_p4, List.forall_mem_cons.mpr ⟨lw_p5, List.forall_mem_cons.mpr ⟨lw_p6, List.forall_mem_cons.mpr ⟨lw_p7, List.forall_mem_cons.mpr ⟨lw_p8, List.forall_mem_cons.mpr ⟨lw_p9, List.forall_mem_cons.mpr ⟨lw_p10, List.forall_mem_cons.mpr ⟨lw_p11, List.forall_mem_cons.mpr ⟨lw_p12, List.forall_mem_cons.mpr ⟨lw_p13, List.forall_mem_cons.mpr ⟨lw_p14, fun _ h => absurd h List.not_mem_nil⟩⟩⟩⟩⟩⟩⟩⟩⟩⟩⟩⟩⟩⟩⟩
def lw_privs : List (MethodName × Nat) := lw_privs_1
def lw_tbl : List Cond := k2_sels lw_privs ++ tables_1
theorem lw_privs_ok : ∀ q ∈ lw_privs, lw_okq q := lw_r1
-- ===== end of PART A; then your names; then what follows =====
/-! ===== BEGIN words of one list among another's, by their places ===== -/
theorem goodIn_r {big : List Cond} (ws : List Cond) (ps : List Nat) (hp : ws = ps.filterMap (fun i => big[i]?)) (h : ws.all goodWord = true) : GoodIn big ws := by
  intro w hw
  have h1 := List.all_eq_true.mp h w hw
  rw [hp] at hw
  obtain ⟨i, -, hi⟩ := List.mem_filterMap.mp hw
  have hm : w ∈ big := by first | exact List.mem_of_getElem? hi | exact List.getElem?_mem hi
  exact ⟨hm, good_of_word h1⟩
theorem goodIn_app {big a b : List Cond} (ha : GoodIn big a) (hb : GoodIn big b) : GoodIn big (a ++ b) := fun w h => (List.mem_append.mp h).elim (ha w) (hb w)
theorem goodIn_ca {big a b : List Cond} {c : Cond} (ha : GoodIn big (c :: a)) (hb : GoodIn big b) : GoodIn big (c :: (a ++ b)) := fun w h => (List.mem_cons.mp h).elim (fun e => ha w (List.mem_cons.mpr (Or.inl e))) (fun h => (List.mem_append.mp h).elim (fun h => ha w (List.mem_cons.mpr (Or.inr h))) (hb w))
theorem goodIn_sub {big ws : List Cond} (hm : ∀ w ∈ ws, w ∈ big) (h : ws.all goodWord = true) : GoodIn big ws := fun w hw => ⟨hm w hw, good_of_word (List.all_eq_true.mp h w hw)⟩
/-! ===== END ===== -/

/-! ===== BEGIN printed: names, fields, word lists, decode rows ===== -/
def RX0 : String := "OrderRows2$Order"
def TX0 : u_T := fun k => match k with
  | 0 => ("OrderRows2$Order", "kind", "I", true)
  | 1 => ("OrderRows2$Order", "entry", "I", true)
  | 2 => ("OrderRows2$Order", "who", "I", true)
  | 3 => ("OrderRows2$Order", "to", "I", true)
  | 4 => ("OrderRows2$Order", "from", "J", true)
  | 5 => ("OrderRows2$Order", "made", "J", true)
  | 6 => ("OrderRows2$Order", "until", "J", false)
  | 7 => ("OrderRows2$Order", "overFrom", "J", false)
  | _ => ("OrderRows2$Order", "isProved", "Z", false)
def tyX0 : Nat → FieldType := fun k => match k with
  | 0 => .int
  | 1 => .int
  | 2 => .int
  | 3 => .int
  | 4 => .long
  | 5 => .long
  | 6 => .long
  | 7 => .long
  | _ => .boolean
abbrev wsX00 : List Cond := u_ws RX0 TX0 9
theorem nmX0 : ∀ a, a < 9 → ∀ b, b < 9 → a ≠ b → (TX0 a).2.1 ≠ (TX0 b).2.1 := by decide +kernel
theorem tyX0_ok : ∀ k, k < 9 → parseFieldDescriptor (TX0 k).2.2.1 = some (tyX0 k) := by decide +kernel
abbrev cX0_init : ByteArray := prog_2_method_1_code
def yX0_init : MethodName := ⟨RX0, "<init>", "(IIIIJJJ)V"⟩
abbrev cX0_isOver : ByteArray := prog_2_method_2_code
def yX0_isOver : MethodName := ⟨RX0, "isOver", "()Z"⟩
abbrev cX0_sendsOn : ByteArray := prog_2_method_3_code
def yX0_sendsOn : MethodName := ⟨RX0, "sendsOn", "()Z"⟩
abbrev cX0_concerns : ByteArray := prog_2_method_4_code
def yX0_concerns : MethodName := ⟨RX0, "concerns", "(III)Z"⟩
abbrev cX0_isToldTo : ByteArray := prog_2_method_5_code
def yX0_isToldTo : MethodName := ⟨RX0, "isToldTo", "(IJ)Z"⟩
abbrev cX0_isInForce : ByteArray := prog_2_method_6_code
def yX0_isInForce : MethodName := ⟨RX0, "isInForce", "(J)Z"⟩
abbrev cX0_daysOfSpanFrom : ByteArray := prog_2_method_7_code
def yX0_daysOfSpanFrom : MethodName := ⟨RX0, "daysOfSpanFrom", "(J)I"⟩
abbrev cX0_lapseIfDue : ByteArray := prog_2_method_8_code
def yX0_lapseIfDue : MethodName := ⟨RX0, "lapseIfDue", "(J)Z"⟩
def RX1 : String := "OrderRows2"
def TX1 : u_T := fun k => match k with
  | 0 => ("OrderRows2", "orders", "Ljava/util/ArrayList;", true)
  | 1 => ("OrderRows2", "rankOfKind", "[I", true)
  | 2 => ("OrderRows2", "path", "[I", true)
  | 3 => ("OrderRows2", "ringTold", "[I", true)
  | 4 => ("OrderRows2", "ringLength", "I", false)
  | _ => ("OrderRows2", "clock", "J", false)
def tyX1 : Nat → FieldType := fun k => match k with
  | 0 => .object "java/util/ArrayList"
  | 1 => .array .int
  | 2 => .array .int
  | 3 => .array .int
  | 4 => .int
  | _ => .long
abbrev wsX10 : List Cond := u_ws RX1 TX1 6
theorem nmX1 : ∀ a, a < 6 → ∀ b, b < 6 → a ≠ b → (TX1 a).2.1 ≠ (TX1 b).2.1 := by decide +kernel
theorem tyX1_ok : ∀ k, k < 6 → parseFieldDescriptor (TX1 k).2.2.1 = some (tyX1 k) := by decide +kernel
abbrev cX1_init : ByteArray := prog_1_method_1_code
def yX1_init : MethodName := ⟨RX1, "<init>", "()V"⟩
abbrev cX1_order : ByteArray := prog_1_method_2_code
def yX1_order : MethodName := ⟨RX1, "order", "(IIIIJJ)I"⟩
abbrev cX1_proof : ByteArray := prog_1_method_3_code
def yX1_proof : MethodName := ⟨RX1, "proof", "(IZJ)I"⟩
abbrev cX1_withdraw : ByteArray := prog_1_method_4_code
def yX1_withdraw : MethodName := ⟨RX1, "withdraw", "(IJ)I"⟩
abbrev cX1_effective : ByteArray := prog_1_method_5_code
def yX1_effective : MethodName := ⟨RX1, "effective", "(IIIJ)I"⟩
abbrev cX1_ring : ByteArray := prog_1_method_6_code
def yX1_ring : MethodName := ⟨RX1, "ring", "(I)I"⟩
abbrev cX1_rank : ByteArray := prog_1_method_7_code
def yX1_rank : MethodName := ⟨RX1, "rank", "(II)I"⟩
abbrev cX1_tick : ByteArray := prog_1_method_8_code
def yX1_tick : MethodName := ⟨RX1, "tick", "(J)I"⟩
abbrev cX1_extend : ByteArray := prog_1_method_9_code
def yX1_extend : MethodName := ⟨RX1, "extend", "(IJ)I"⟩
abbrev cX1_told : ByteArray := prog_1_method_10_code
def yX1_told : MethodName := ⟨RX1, "told", "(II)I"⟩
abbrev cX1_isAddress : ByteArray := prog_1_method_11_code
def yX1_isAddress : MethodName := ⟨RX1, "isAddress", "(I)Z"⟩
abbrev cX1_isPerson : ByteArray := prog_1_method_12_code
def yX1_isPerson : MethodName := ⟨RX1, "isPerson", "(I)Z"⟩
abbrev cX1_isKind : ByteArray := prog_1_method_13_code
def yX1_isKind : MethodName := ⟨RX1, "isKind", "(I)Z"⟩
abbrev cX1_isDay : ByteArray := prog_1_method_14_code
def yX1_isDay : MethodName := ⟨RX1, "isDay", "(J)Z"⟩
abbrev cX1_doneBy : ByteArray := prog_1_method_15_code
def yX1_doneBy : MethodName := ⟨RX1, "doneBy", "(I)I"⟩
abbrev cX1_canBeClock : ByteArray := prog_1_method_16_code
def yX1_canBeClock : MethodName := ⟨RX1, "canBeClock", "(J)Z"⟩
abbrev cX1_find : ByteArray := prog_1_method_17_code
def yX1_find : MethodName := ⟨RX1, "find", "(I)LOrderRows2$Order;"⟩
abbrev cX1_moveClock : ByteArray := prog_1_method_18_code
def yX1_moveClock : MethodName := ⟨RX1, "moveClock", "(J)I"⟩
abbrev cX1_strongest : ByteArray := prog_1_method_19_code
def yX1_strongest : MethodName := ⟨RX1, "strongest", "(IIIJ)LOrderRows2$Order;"⟩
abbrev cX1_rankOf : ByteArray := prog_1_method_20_code
def yX1_rankOf : MethodName := ⟨RX1, "rankOf", "(I)I"⟩
abbrev cX1_stepAt : ByteArray := prog_1_method_21_code
def yX1_stepAt : MethodName := ⟨RX1, "stepAt", "(II)I"⟩
abbrev cX1_tellRing : ByteArray := prog_1_method_22_code
def yX1_tellRing : MethodName := ⟨RX1, "tellRing", "(II)V"⟩
def RX2 : String := "OrderRows2Model"
def TX2 : u_T := fun k => match k with
  | 0 => ("OrderRows2Model", "thrown", "I", false)
  | 1 => ("OrderRows2Model", "orders", "I", false)
  | 2 => ("OrderRows2Model", "kinds", "[I", true)
  | 3 => ("OrderRows2Model", "entries", "[I", true)
  | 4 => ("OrderRows2Model", "persons", "[I", true)
  | 5 => ("OrderRows2Model", "tos", "[I", true)
  | 6 => ("OrderRows2Model", "froms", "[J", true)
  | 7 => ("OrderRows2Model", "untils", "[J", true)
  | 8 => ("OrderRows2Model", "made", "[J", true)
  | 9 => ("OrderRows2Model", "proved", "[Z", true)
  | 10 => ("OrderRows2Model", "overs", "[J", true)
  | 11 => ("OrderRows2Model", "ranks", "[I", true)
  | 12 => ("OrderRows2Model", "now", "J", false)
  | 13 => ("OrderRows2Model", "way", "[I", true)
  | 14 => ("OrderRows2Model", "ringFrom", "I", false)
  | 15 => ("OrderRows2Model", "ringSize", "I", false)
  | _ => ("OrderRows2Model", "ring", "[I", true)
def tyX2 : Nat → FieldType := fun k => match k with
  | 0 => .int
  | 1 => .int
  | 2 => .array .int
  | 3 => .array .int
  | 4 => .array .int
  | 5 => .array .int
  | 6 => .array .long
  | 7 => .array .long
  | 8 => .array .long
  | 9 => .array .boolean
  | 10 => .array .long
  | 11 => .array .int
  | 12 => .long
  | 13 => .array .int
  | 14 => .int
  | 15 => .int
  | _ => .array .int
abbrev wsX20 : List Cond := u_ws RX2 TX2 17
theorem nmX2 : ∀ a, a < 17 → ∀ b, b < 17 → a ≠ b → (TX2 a).2.1 ≠ (TX2 b).2.1 := by decide +kernel
theorem tyX2_ok : ∀ k, k < 17 → parseFieldDescriptor (TX2 k).2.2.1 = some (tyX2 k) := by decide +kernel
abbrev cX2_init : ByteArray := prog_4_method_1_code
def yX2_init : MethodName := ⟨RX2, "<init>", "()V"⟩
abbrev cX2_isIn : ByteArray := prog_4_method_3_code
def yX2_isIn : MethodName := ⟨RX2, "isIn", "(JJJ)Z"⟩
abbrev cX2_isOrder : ByteArray := prog_4_method_4_code
def yX2_isOrder : MethodName := ⟨RX2, "isOrder", "(I)Z"⟩
abbrev cX2_isDay : ByteArray := prog_4_method_5_code
def yX2_isDay : MethodName := ⟨RX2, "isDay", "(J)Z"⟩
abbrev cX2_order : ByteArray := prog_4_method_6_code
def yX2_order : MethodName := ⟨RX2, "order", "(IIIIJJ)I"⟩
abbrev cX2_set : ByteArray := prog_4_method_7_code
def yX2_set : MethodName := ⟨RX2, "set", "(J)I"⟩
abbrev cX2_proof : ByteArray := prog_4_method_8_code
def yX2_proof : MethodName := ⟨RX2, "proof", "(IZJ)I"⟩
abbrev cX2_withdraw : ByteArray := prog_4_method_9_code
def yX2_withdraw : MethodName := ⟨RX2, "withdraw", "(IJ)I"⟩
abbrev cX2_isForce : ByteArray := prog_4_method_10_code
def yX2_isForce : MethodName := ⟨RX2, "isForce", "(IJ)Z"⟩
abbrev cX2_find : ByteArray := prog_4_method_11_code
def yX2_find : MethodName := ⟨RX2, "find", "(IIIJ)I"⟩
abbrev cX2_effective : ByteArray := prog_4_method_12_code
def yX2_effective : MethodName := ⟨RX2, "effective", "(IIIJ)I"⟩
abbrev cX2_ring : ByteArray := prog_4_method_13_code
def yX2_ring : MethodName := ⟨RX2, "ring", "(I)I"⟩
abbrev cX2_rank : ByteArray := prog_4_method_14_code
def yX2_rank : MethodName := ⟨RX2, "rank", "(II)I"⟩
abbrev cX2_tick : ByteArray := prog_4_method_15_code
def yX2_tick : MethodName := ⟨RX2, "tick", "(J)I"⟩
abbrev cX2_extend : ByteArray := prog_4_method_16_code
def yX2_extend : MethodName := ⟨RX2, "extend", "(IJ)I"⟩
abbrev cX2_told : ByteArray := prog_4_method_17_code
def yX2_told : MethodName := ⟨RX2, "told", "(II)I"⟩
def RJx145de : String := "java/io/Serializable"
def TJx145de : u_T := fun k => match k with
  | _ => ("", "", "", false)
def tyJx145de : Nat → FieldType := fun k => match k with
  | _ => .int
abbrev wsJx145de0 : List Cond := u_ws RJx145de TJx145de 0
theorem nmJx145de : ∀ a, a < 0 → ∀ b, b < 0 → a ≠ b → (TJx145de a).2.1 ≠ (TJx145de b).2.1 := by decide +kernel
theorem tyJx145de_ok : ∀ k, k < 0 → parseFieldDescriptor (TJx145de k).2.2.1 = some (tyJx145de k) := by decide +kernel
def RJx8e188 : String := "java/lang/Cloneable"
def TJx8e188 : u_T := fun k => match k with
  | _ => ("", "", "", false)
def tyJx8e188 : Nat → FieldType := fun k => match k with
  | _ => .int
abbrev wsJx8e1880 : List Cond := u_ws RJx8e188 TJx8e188 0
theorem nmJx8e188 : ∀ a, a < 0 → ∀ b, b < 0 → a ≠ b → (TJx8e188 a).2.1 ≠ (TJx8e188 b).2.1 := by decide +kernel
theorem tyJx8e188_ok : ∀ k, k < 0 → parseFieldDescriptor (TJx8e188 k).2.2.1 = some (tyJx8e188 k) := by decide +kernel
def RJxab1ab : String := "java/lang/Iterable"
def TJxab1ab : u_T := fun k => match k with
  | _ => ("", "", "", false)
def tyJxab1ab : Nat → FieldType := fun k => match k with
  | _ => .int
abbrev wsJxab1ab0 : List Cond := u_ws RJxab1ab TJxab1ab 0
theorem nmJxab1ab : ∀ a, a < 0 → ∀ b, b < 0 → a ≠ b → (TJxab1ab a).2.1 ≠ (TJxab1ab b).2.1 := by decide +kernel
theorem tyJxab1ab_ok : ∀ k, k < 0 → parseFieldDescriptor (TJxab1ab k).2.2.1 = some (tyJxab1ab k) := by decide +kernel
def RJ9 : String := "java/lang/Math"
def TJ9 : u_T := fun k => match k with
  | _ => ("", "", "", false)
def tyJ9 : Nat → FieldType := fun k => match k with
  | _ => .int
abbrev wsJ90 : List Cond := u_ws RJ9 TJ9 0
theorem nmJ9 : ∀ a, a < 0 → ∀ b, b < 0 → a ≠ b → (TJ9 a).2.1 ≠ (TJ9 b).2.1 := by decide +kernel
theorem tyJ9_ok : ∀ k, k < 0 → parseFieldDescriptor (TJ9 k).2.2.1 = some (tyJ9 k) := by decide +kernel
abbrev cJ9_max_7cf53 : ByteArray := prog_8_method_65_code
def yJ9_max_7cf53 : MethodName := ⟨RJ9, "max", "(II)I"⟩
abbrev cJ9_max_f86c9 : ByteArray := prog_8_method_66_code
def yJ9_max_f86c9 : MethodName := ⟨RJ9, "max", "(JJ)J"⟩
abbrev cJ9_min_7cf53 : ByteArray := prog_8_method_69_code
def yJ9_min_7cf53 : MethodName := ⟨RJ9, "min", "(II)I"⟩
def RJ10 : String := "java/lang/System"
def TJ10 : u_T := fun k => match k with
  | _ => ("", "", "", false)
def tyJ10 : Nat → FieldType := fun k => match k with
  | _ => .int
abbrev wsJ100 : List Cond := u_ws RJ10 TJ10 0
theorem nmJ10 : ∀ a, a < 0 → ∀ b, b < 0 → a ≠ b → (TJ10 a).2.1 ≠ (TJ10 b).2.1 := by decide +kernel
theorem tyJ10_ok : ∀ k, k < 0 → parseFieldDescriptor (TJ10 k).2.2.1 = some (tyJ10 k) := by decide +kernel
def RJxa1e45 : String := "java/util/AbstractCollection"
def TJxa1e45 : u_T := fun k => match k with
  | _ => ("", "", "", false)
def tyJxa1e45 : Nat → FieldType := fun k => match k with
  | _ => .int
abbrev wsJxa1e450 : List Cond := u_ws RJxa1e45 TJxa1e45 0
theorem nmJxa1e45 : ∀ a, a < 0 → ∀ b, b < 0 → a ≠ b → (TJxa1e45 a).2.1 ≠ (TJxa1e45 b).2.1 := by decide +kernel
theorem tyJxa1e45_ok : ∀ k, k < 0 → parseFieldDescriptor (TJxa1e45 k).2.2.1 = some (tyJxa1e45 k) := by decide +kernel
abbrev cJxa1e45_init_da8c8 : ByteArray := prog_10_method_1_code
def yJxa1e45_init_da8c8 : MethodName := ⟨RJxa1e45, "<init>", "()V"⟩
def RJxc12de : String := "java/util/AbstractList"
def TJxc12de : u_T := fun k => match k with
  | _ => ("", "", "", false)
def tyJxc12de : Nat → FieldType := fun k => match k with
  | _ => .int
abbrev wsJxc12de0 : List Cond := u_ws RJxc12de TJxc12de 0
theorem nmJxc12de : ∀ a, a < 0 → ∀ b, b < 0 → a ≠ b → (TJxc12de a).2.1 ≠ (TJxc12de b).2.1 := by decide +kernel
theorem tyJxc12de_ok : ∀ k, k < 0 → parseFieldDescriptor (TJxc12de k).2.2.1 = some (tyJxc12de k) := by decide +kernel
abbrev cJxc12de_init_da8c8 : ByteArray := prog_11_method_1_code
def yJxc12de_init_da8c8 : MethodName := ⟨RJxc12de, "<init>", "()V"⟩
def RJx4a65c : String := "java/util/ArrayList"
def TJx4a65c : u_T := fun k => match k with
  | 0 => ("java/util/AbstractList", "modCount", "I", false)
  | 1 => ("java/util/ArrayList", "elementData", "[Ljava/lang/Object;", false)
  | _ => ("java/util/ArrayList", "size", "I", false)
def tyJx4a65c : Nat → FieldType := fun k => match k with
  | 0 => .int
  | 1 => .array (.object "java/lang/Object")
  | _ => .int
abbrev wsJx4a65c0 : List Cond := u_ws RJx4a65c TJx4a65c 3
theorem nmJx4a65c : ∀ a, a < 3 → ∀ b, b < 3 → a ≠ b → (TJx4a65c a).2.1 ≠ (TJx4a65c b).2.1 := by decide +kernel
theorem tyJx4a65c_ok : ∀ k, k < 3 → parseFieldDescriptor (TJx4a65c k).2.2.1 = some (tyJx4a65c k) := by decide +kernel
abbrev cJx4a65c_init_da8c8 : ByteArray := prog_12_method_2_code
def yJx4a65c_init_da8c8 : MethodName := ⟨RJx4a65c, "<init>", "()V"⟩
abbrev cJx4a65c_grow_92f84 : ByteArray := prog_12_method_6_code
def yJx4a65c_grow_92f84 : MethodName := ⟨RJx4a65c, "grow", "(I)[Ljava/lang/Object;"⟩
abbrev cJx4a65c_grow_d5877 : ByteArray := prog_12_method_7_code
def yJx4a65c_grow_d5877 : MethodName := ⟨RJx4a65c, "grow", "()[Ljava/lang/Object;"⟩
abbrev cJx4a65c_size_8abf5 : ByteArray := prog_12_method_8_code
def yJx4a65c_size_8abf5 : MethodName := ⟨RJx4a65c, "size", "()I"⟩
abbrev cJx4a65c_elementData_915e3 : ByteArray := prog_12_method_18_code
def yJx4a65c_elementData_915e3 : MethodName := ⟨RJx4a65c, "elementData", "(I)Ljava/lang/Object;"⟩
abbrev cJx4a65c_get_915e3 : ByteArray := prog_12_method_20_code
def yJx4a65c_get_915e3 : MethodName := ⟨RJx4a65c, "get", "(I)Ljava/lang/Object;"⟩
abbrev cJx4a65c_add_72be8 : ByteArray := prog_12_method_24_code
def yJx4a65c_add_72be8 : MethodName := ⟨RJx4a65c, "add", "(Ljava/lang/Object;[Ljava/lang/Object;I)V"⟩
abbrev cJx4a65c_add_9ea2d : ByteArray := prog_12_method_25_code
def yJx4a65c_add_9ea2d : MethodName := ⟨RJx4a65c, "add", "(Ljava/lang/Object;)Z"⟩
def RJ7 : String := "java/util/Arrays"
def TJ7 : u_T := fun k => match k with
  | _ => ("", "", "", false)
def tyJ7 : Nat → FieldType := fun k => match k with
  | _ => .int
abbrev wsJ70 : List Cond := u_ws RJ7 TJ7 0
theorem nmJ7 : ∀ a, a < 0 → ∀ b, b < 0 → a ≠ b → (TJ7 a).2.1 ≠ (TJ7 b).2.1 := by decide +kernel
theorem tyJ7_ok : ∀ k, k < 0 → parseFieldDescriptor (TJ7 k).2.2.1 = some (tyJ7 k) := by decide +kernel
abbrev cJ7_copyOf_1904c : ByteArray := prog_13_method_119_code
def yJ7_copyOf_1904c : MethodName := ⟨RJ7, "copyOf", "([Ljava/lang/Object;I)[Ljava/lang/Object;"⟩
abbrev cJ7_copyOf_6403c : ByteArray := prog_13_method_120_code
def yJ7_copyOf_6403c : MethodName := ⟨RJ7, "copyOf", "([Ljava/lang/Object;ILjava/lang/Class;)[Ljava/lang/Object;"⟩
def RJx5ef63 : String := "java/util/Collection"
def TJx5ef63 : u_T := fun k => match k with
  | _ => ("", "", "", false)
def tyJx5ef63 : Nat → FieldType := fun k => match k with
  | _ => .int
abbrev wsJx5ef630 : List Cond := u_ws RJx5ef63 TJx5ef63 0
theorem nmJx5ef63 : ∀ a, a < 0 → ∀ b, b < 0 → a ≠ b → (TJx5ef63 a).2.1 ≠ (TJx5ef63 b).2.1 := by decide +kernel
theorem tyJx5ef63_ok : ∀ k, k < 0 → parseFieldDescriptor (TJx5ef63 k).2.2.1 = some (tyJx5ef63 k) := by decide +kernel
def RJxbd725 : String := "java/util/List"
def TJxbd725 : u_T := fun k => match k with
  | _ => ("", "", "", false)
def tyJxbd725 : Nat → FieldType := fun k => match k with
  | _ => .int
abbrev wsJxbd7250 : List Cond := u_ws RJxbd725 TJxbd725 0
theorem nmJxbd725 : ∀ a, a < 0 → ∀ b, b < 0 → a ≠ b → (TJxbd725 a).2.1 ≠ (TJxbd725 b).2.1 := by decide +kernel
theorem tyJxbd725_ok : ∀ k, k < 0 → parseFieldDescriptor (TJxbd725 k).2.2.1 = some (tyJxbd725 k) := by decide +kernel
def RJ15 : String := "java/util/Objects"
def TJ15 : u_T := fun k => match k with
  | _ => ("", "", "", false)
def tyJ15 : Nat → FieldType := fun k => match k with
  | _ => .int
abbrev wsJ150 : List Cond := u_ws RJ15 TJ15 0
theorem nmJ15 : ∀ a, a < 0 → ∀ b, b < 0 → a ≠ b → (TJ15 a).2.1 ≠ (TJ15 b).2.1 := by decide +kernel
theorem tyJ15_ok : ∀ k, k < 0 → parseFieldDescriptor (TJ15 k).2.2.1 = some (tyJ15 k) := by decide +kernel
abbrev cJ15_checkIndex_7cf53 : ByteArray := prog_16_method_17_code
def yJ15_checkIndex_7cf53 : MethodName := ⟨RJ15, "checkIndex", "(II)I"⟩
def RJxf0a74 : String := "java/util/RandomAccess"
def TJxf0a74 : u_T := fun k => match k with
  | _ => ("", "", "", false)
def tyJxf0a74 : Nat → FieldType := fun k => match k with
  | _ => .int
abbrev wsJxf0a740 : List Cond := u_ws RJxf0a74 TJxf0a74 0
theorem nmJxf0a74 : ∀ a, a < 0 → ∀ b, b < 0 → a ≠ b → (TJxf0a74 a).2.1 ≠ (TJxf0a74 b).2.1 := by decide +kernel
theorem tyJxf0a74_ok : ∀ k, k < 0 → parseFieldDescriptor (TJxf0a74 k).2.2.1 = some (tyJxf0a74 k) := by decide +kernel
def RJxa66e6 : String := "java/util/SequencedCollection"
def TJxa66e6 : u_T := fun k => match k with
  | _ => ("", "", "", false)
def tyJxa66e6 : Nat → FieldType := fun k => match k with
  | _ => .int
abbrev wsJxa66e60 : List Cond := u_ws RJxa66e6 TJxa66e6 0
theorem nmJxa66e6 : ∀ a, a < 0 → ∀ b, b < 0 → a ≠ b → (TJxa66e6 a).2.1 ≠ (TJxa66e6 b).2.1 := by decide +kernel
theorem tyJxa66e6_ok : ∀ k, k < 0 → parseFieldDescriptor (TJxa66e6 k).2.2.1 = some (tyJxa66e6 k) := by decide +kernel
def RJ8 : String := "jdk/internal/util/ArraysSupport"
def TJ8 : u_T := fun k => match k with
  | _ => ("", "", "", false)
def tyJ8 : Nat → FieldType := fun k => match k with
  | _ => .int
abbrev wsJ80 : List Cond := u_ws RJ8 TJ8 0
theorem nmJ8 : ∀ a, a < 0 → ∀ b, b < 0 → a ≠ b → (TJ8 a).2.1 ≠ (TJ8 b).2.1 := by decide +kernel
theorem tyJ8_ok : ∀ k, k < 0 → parseFieldDescriptor (TJ8 k).2.2.1 = some (tyJ8 k) := by decide +kernel
abbrev cJ8_newLength_cabcc : ByteArray := prog_19_method_27_code
def yJ8_newLength_cabcc : MethodName := ⟨RJ8, "newLength", "(III)I"⟩
abbrev cJ8_hugeLength_7cf53 : ByteArray := prog_19_method_28_code
def yJ8_hugeLength_7cf53 : MethodName := ⟨RJ8, "hugeLength", "(II)I"⟩
def RJ3 : String := "jdk/internal/util/Preconditions"
def TJ3 : u_T := fun k => match k with
  | _ => ("", "", "", false)
def tyJ3 : Nat → FieldType := fun k => match k with
  | _ => .int
abbrev wsJ30 : List Cond := u_ws RJ3 TJ3 0
theorem nmJ3 : ∀ a, a < 0 → ∀ b, b < 0 → a ≠ b → (TJ3 a).2.1 ≠ (TJ3 b).2.1 := by decide +kernel
theorem tyJ3_ok : ∀ k, k < 0 → parseFieldDescriptor (TJ3 k).2.2.1 = some (tyJ3 k) := by decide +kernel
abbrev cJ3_checkIndex_8e157 : ByteArray := prog_20_method_11_code
def yJ3_checkIndex_8e157 : MethodName := ⟨RJ3, "checkIndex", "(IILjava/util/function/BiFunction;)I"⟩
def RL : String := "OrderRows2Law"
abbrev cL_law : ByteArray := code
def yL_law : MethodName := ⟨RL, "law", "([I)Z"⟩
def wsX0_init : List Cond := .code yX0_init cX0_init 11 none :: ([.methodLink RX0 3 objectInit, .instanceMethod objectInit, .code objectInit ⟨#[0xb1]⟩ 1 none, .fieldLink RX0 9 "OrderRows2$Order" "kind" "I", .fieldLink RX0 15 "OrderRows2$Order" "entry" "I", .fieldLink RX0 18 "OrderRows2$Order" "who" "I", .fieldLink RX0 21 "OrderRows2$Order" "to" "I", .fieldLink RX0 24 "OrderRows2$Order" "from" "J", .fieldLink RX0 28 "OrderRows2$Order" "until" "J", .fieldLink RX0 31 "OrderRows2$Order" "made" "J", .constantLong RX0 34 (20001), .fieldLink RX0 36 "OrderRows2$Order" "overFrom" "J", .fieldLink RX0 39 "OrderRows2$Order" "isProved" "Z"] ++ wsX00)
def wsX0_isOver : List Cond := .code yX0_isOver cX0_isOver 1 (some .boolean) :: ([.fieldLink RX0 36 "OrderRows2$Order" "overFrom" "J", .constantLong RX0 34 (20001)] ++ wsX00)
def wsX1_doneBy : List Cond := .code yX1_doneBy cX1_doneBy 1 (some .int) :: ([])
def wsX0_sendsOn : List Cond := .code yX0_sendsOn cX0_sendsOn 1 (some .boolean) :: ([.fieldLink RX0 9 "OrderRows2$Order" "kind" "I", .static yX1_doneBy, .initialized RX1, .code yX1_doneBy cX1_doneBy 1 (some .int)] ++ wsX00)
def wsX0_concerns : List Cond := .code yX0_concerns cX0_concerns 4 (some .boolean) :: ([.fieldLink RX0 15 "OrderRows2$Order" "entry" "I", .fieldLink RX0 18 "OrderRows2$Order" "who" "I", .fieldLink RX0 9 "OrderRows2$Order" "kind" "I"] ++ wsX00)
def wsX0_isInForce : List Cond := .code yX0_isInForce cX0_isInForce 3 (some .boolean) :: ([.fieldLink RX0 24 "OrderRows2$Order" "from" "J", .fieldLink RX0 28 "OrderRows2$Order" "until" "J", .fieldLink RX0 36 "OrderRows2$Order" "overFrom" "J"] ++ wsX00)
def wsX0_isToldTo : List Cond := .code yX0_isToldTo cX0_isToldTo 4 (some .boolean) :: ([.fieldLink RX0 18 "OrderRows2$Order" "who" "I", .fieldLink RX0 39 "OrderRows2$Order" "isProved" "Z", .methodLink RX0 47 yX0_sendsOn, .instanceMethod yX0_sendsOn, .selects RX0 yX0_sendsOn yX0_sendsOn, .initialized RX0, .code yX0_sendsOn cX0_sendsOn 1 (some .boolean), .fieldLink RX0 9 "OrderRows2$Order" "kind" "I", .static yX1_doneBy, .initialized RX1, .code yX1_doneBy cX1_doneBy 1 (some .int), .methodLink RX0 51 yX0_isInForce, .instanceMethod yX0_isInForce, .selects RX0 yX0_isInForce yX0_isInForce, .code yX0_isInForce cX0_isInForce 3 (some .boolean), .fieldLink RX0 24 "OrderRows2$Order" "from" "J", .fieldLink RX0 28 "OrderRows2$Order" "until" "J", .fieldLink RX0 36 "OrderRows2$Order" "overFrom" "J"] ++ wsX00)
def wsX0_daysOfSpanFrom : List Cond := .code yX0_daysOfSpanFrom cX0_daysOfSpanFrom 5 (some .int) :: ([.fieldLink RX0 24 "OrderRows2$Order" "from" "J", .methodLink RX0 55 Lib.MathLoose.max_long.x, .static Lib.MathLoose.max_long.x, .initialized "java/lang/Math", .code Lib.MathLoose.max_long.x Lib.MathLoose.max_long.code 4 (some .long), .fieldLink RX0 28 "OrderRows2$Order" "until" "J"] ++ wsX00)
def wsX0_lapseIfDue : List Cond := .code yX0_lapseIfDue cX0_lapseIfDue 3 (some .boolean) :: ([.fieldLink RX0 39 "OrderRows2$Order" "isProved" "Z", .fieldLink RX0 31 "OrderRows2$Order" "made" "J", .constantLong RX0 64 (14), .fieldLink RX0 36 "OrderRows2$Order" "overFrom" "J", .methodLink RX0 61 yX0_isOver, .instanceMethod yX0_isOver, .selects RX0 yX0_isOver yX0_isOver, .initialized RX0, .code yX0_isOver cX0_isOver 1 (some .boolean), .constantLong RX0 34 (20001)] ++ wsX00)
def wsJxa1e45_init_da8c8 : List Cond := .code yJxa1e45_init_da8c8 cJxa1e45_init_da8c8 1 none :: ([.methodLink RJxa1e45 1 objectInit, .instanceMethod objectInit, .code objectInit ⟨#[0xb1]⟩ 1 none])
def wsJxc12de_init_da8c8 : List Cond := .code yJxc12de_init_da8c8 cJxc12de_init_da8c8 1 none :: ([.fieldLink RJxc12de 7 "java/util/AbstractList" "modCount" "I", .methodLink RJxc12de 1 yJxa1e45_init_da8c8, .instanceMethod yJxa1e45_init_da8c8, .initialized RJxa1e45, .code yJxa1e45_init_da8c8 cJxa1e45_init_da8c8 1 none, .methodLink RJxa1e45 1 objectInit, .instanceMethod objectInit, .code objectInit ⟨#[0xb1]⟩ 1 none] ++ wsJx4a65c0)
def wsJx4a65c_init_da8c8 : List Cond := .code yJx4a65c_init_da8c8 cJx4a65c_init_da8c8 1 none :: ([.fieldLink RJx4a65c 39 "java/util/ArrayList" "DEFAULTCAPACITY_EMPTY_ELEMENTDATA" "[Ljava/lang/Object;", .fieldLink RJx4a65c 9 "java/util/ArrayList" "elementData" "[Ljava/lang/Object;", .methodLink RJx4a65c 1 yJxc12de_init_da8c8, .instanceMethod yJxc12de_init_da8c8, .initialized RJxc12de, .code yJxc12de_init_da8c8 cJxc12de_init_da8c8 1 none, .fieldLink RJxc12de 7 "java/util/AbstractList" "modCount" "I", .methodLink RJxc12de 1 yJxa1e45_init_da8c8, .instanceMethod yJxa1e45_init_da8c8, .initialized RJxa1e45, .code yJxa1e45_init_da8c8 cJxa1e45_init_da8c8 1 none, .methodLink RJxa1e45 1 objectInit, .instanceMethod objectInit, .code objectInit ⟨#[0xb1]⟩ 1 none] ++ wsJx4a65c0)
def wsX1_init_r1 : List Cond := [Cond.methodLink RX1 1 objectInit, Cond.instanceMethod objectInit, Cond.code objectInit ⟨#[0xb1]⟩ 1 none, Cond.classLink RX1 7 RJx4a65c, Cond.instantiable RJx4a65c 3, Cond.initialized RJx4a65c, Cond.fieldLink RX1 10 "OrderRows2" "orders" "Ljava/util/ArrayList;", Cond.arrayClass .int, Cond.fieldLink RX1 16 "OrderRows2" "rankOfKind" "[I", Cond.fieldLink RX1 20 "OrderRows2" "path" "[I", Cond.fieldLink RX1 23 "OrderRows2" "ringTold" "[I", Cond.fieldLink RX1 26 "OrderRows2" "ringLength" "I", Cond.fieldLink RX1 30 "OrderRows2" "clock" "J", Cond.methodLink RX1 9 yJx4a65c_init_da8c8, Cond.instanceMethod yJx4a65c_init_da8c8, Cond.code yJx4a65c_init_da8c8 cJx4a65c_init_da8c8 1 none, Cond.fieldLink RJx4a65c 39 "java/util/ArrayList" "DEFAULTCAPACITY_EMPTY_ELEMENTDATA" "[Ljava/lang/Object;", Cond.fieldLink RJx4a65c 9 "java/util/ArrayList" "elementData" "[Ljava/lang/Object;", Cond.methodLink RJx4a65c 1 yJxc12de_init_da8c8, Cond.instanceMethod yJxc12de_init_da8c8, Cond.initialized RJxc12de, Cond.code yJxc12de_init_da8c8 cJxc12de_init_da8c8 1 none, Cond.fieldLink RJxc12de 7 "java/util/AbstractList" "modCount" "I", Cond.methodLink RJxc12de 1 yJxa1e45_init_da8c8]
def wsX1_init_r2 : List Cond := [Cond.instanceMethod yJxa1e45_init_da8c8, Cond.initialized RJxa1e45, Cond.code yJxa1e45_init_da8c8 cJxa1e45_init_da8c8 1 none, Cond.methodLink RJxa1e45 1 objectInit]
def wsX1_init : List Cond := .code yX1_init cX1_init 1 none :: ((wsX1_init_r1 ++ wsX1_init_r2) ++ wsJx4a65c0 ++ wsX10)
def wsX1_isKind : List Cond := .code yX1_isKind cX1_isKind 1 (some .boolean) :: ([])
def wsX1_isAddress : List Cond := .code yX1_isAddress cX1_isAddress 1 (some .boolean) :: ([])
def wsX1_isPerson : List Cond := .code yX1_isPerson cX1_isPerson 1 (some .boolean) :: ([])
def wsX1_isDay : List Cond := .code yX1_isDay cX1_isDay 2 (some .boolean) :: ([.constantLong RX1 121 (20000)])
def wsJx4a65c_size_8abf5 : List Cond := .code yJx4a65c_size_8abf5 cJx4a65c_size_8abf5 1 (some .int) :: ([.fieldLink RJx4a65c 48 "java/util/ArrayList" "size" "I"] ++ wsJx4a65c0)
def wsJ8_hugeLength_7cf53 : List Cond := .code yJ8_hugeLength_7cf53 cJ8_hugeLength_7cf53 3 (some .int) :: ([.constant RJ8 200 (2147483639)])
def wsJ8_newLength_cabcc : List Cond := .code yJ8_newLength_cabcc cJ8_newLength_cabcc 4 (some .int) :: ([.methodLink RJ8 194 Lib.Math.max.name, .static Lib.Math.max.name, .initialized "java/lang/Math", .code Lib.Math.max.name Lib.Math.max.code 2 (some .int), .constant RJ8 200 (2147483639), .methodLink RJ8 201 yJ8_hugeLength_7cf53, .static yJ8_hugeLength_7cf53, .initialized RJ8, .code yJ8_hugeLength_7cf53 cJ8_hugeLength_7cf53 3 (some .int)])
def wsJ7_copyOf_6403c : List Cond := .code yJ7_copyOf_6403c cJ7_copyOf_6403c 4 (some (.array (.object "java/lang/Object"))) :: ([.classLink RJ7 110 "[Ljava/lang/Object;", .classLink RJ7 2 "java/lang/Object", .methodLink RJ7 304 Lib.Math.min.name, .static Lib.Math.min.name, .initialized "java/lang/Math", .code Lib.Math.min.name Lib.Math.min.code 2 (some .int), .methodLink RJ7 150 arraycopyName, .native arraycopyName, .static arraycopyName, .initialized "java/lang/System"])
def wsJ7_copyOf_1904c : List Cond := .code yJ7_copyOf_1904c cJ7_copyOf_1904c 2 (some (.array (.object "java/lang/Object"))) :: ([.methodLink RJ7 86 ⟨"java/lang/Object", "getClass", "()Ljava/lang/Class;"⟩, .selects "[Ljava/lang/Object;" ⟨"java/lang/Object", "getClass", "()Ljava/lang/Class;"⟩ ⟨"java/lang/Object", "getClass", "()Ljava/lang/Class;"⟩, .instanceMethod ⟨"java/lang/Object", "getClass", "()Ljava/lang/Class;"⟩, .native ⟨"java/lang/Object", "getClass", "()Ljava/lang/Class;"⟩, .methodLink RJ7 300 yJ7_copyOf_6403c, .static yJ7_copyOf_6403c, .initialized RJ7, .code yJ7_copyOf_6403c cJ7_copyOf_6403c 4 (some (.array (.object "java/lang/Object"))), .classLink RJ7 110 "[Ljava/lang/Object;", .classLink RJ7 2 "java/lang/Object", .methodLink RJ7 304 Lib.Math.min.name, .static Lib.Math.min.name, .initialized "java/lang/Math", .code Lib.Math.min.name Lib.Math.min.code 2 (some .int), .methodLink RJ7 150 arraycopyName, .native arraycopyName, .static arraycopyName, .initialized "java/lang/System"])
def wsJx4a65c_grow_92f84_r1 : List Cond := [Cond.fieldLink RJx4a65c 9 "java/util/ArrayList" "elementData" "[Ljava/lang/Object;", Cond.fieldLink RJx4a65c 39 "java/util/ArrayList" "DEFAULTCAPACITY_EMPTY_ELEMENTDATA" "[Ljava/lang/Object;", Cond.methodLink RJx4a65c 79 Lib.Math.max.name, Cond.static Lib.Math.max.name, Cond.initialized "java/lang/Math", Cond.code Lib.Math.max.name Lib.Math.max.code 2 (some .int), Cond.classLink RJx4a65c 7 "java/lang/Object", Cond.methodLink RJx4a65c 73 yJ8_newLength_cabcc, Cond.static yJ8_newLength_cabcc, Cond.initialized RJ8, Cond.code yJ8_newLength_cabcc cJ8_newLength_cabcc 4 (some .int), Cond.methodLink RJ8 194 Lib.Math.max.name, Cond.constant RJ8 200 (2147483639), Cond.methodLink RJ8 201 yJ8_hugeLength_7cf53, Cond.static yJ8_hugeLength_7cf53, Cond.code yJ8_hugeLength_7cf53 cJ8_hugeLength_7cf53 3 (some .int), Cond.methodLink RJx4a65c 66 yJ7_copyOf_1904c, Cond.static yJ7_copyOf_1904c, Cond.initialized RJ7, Cond.code yJ7_copyOf_1904c cJ7_copyOf_1904c 2 (some (.array (.object "java/lang/Object"))), Cond.methodLink RJ7 86 ⟨"java/lang/Object", "getClass", "()Ljava/lang/Class;"⟩, Cond.selects "[Ljava/lang/Object;" ⟨"java/lang/Object", "getClass", "()Ljava/lang/Class;"⟩ ⟨"java/lang/Object", "getClass", "()Ljava/lang/Class;"⟩, Cond.instanceMethod ⟨"java/lang/Object", "getClass", "()Ljava/lang/Class;"⟩, Cond.native ⟨"java/lang/Object", "getClass", "()Ljava/lang/Class;"⟩]
def wsJx4a65c_grow_92f84_r2 : List Cond := [Cond.methodLink RJ7 300 yJ7_copyOf_6403c, Cond.static yJ7_copyOf_6403c, Cond.code yJ7_copyOf_6403c cJ7_copyOf_6403c 4 (some (.array (.object "java/lang/Object"))), Cond.classLink RJ7 110 "[Ljava/lang/Object;", Cond.classLink RJ7 2 "java/lang/Object", Cond.methodLink RJ7 304 Lib.Math.min.name, Cond.static Lib.Math.min.name, Cond.code Lib.Math.min.name Lib.Math.min.code 2 (some .int), Cond.methodLink RJ7 150 arraycopyName, Cond.native arraycopyName, Cond.static arraycopyName, Cond.initialized "java/lang/System"]
def wsJx4a65c_grow_92f84 : List Cond := .code yJx4a65c_grow_92f84 cJx4a65c_grow_92f84 4 (some (.array (.object "java/lang/Object"))) :: ((wsJx4a65c_grow_92f84_r1 ++ wsJx4a65c_grow_92f84_r2) ++ wsJx4a65c0)
def wsJx4a65c_grow_d5877_r1 : List Cond := [Cond.fieldLink RJx4a65c 48 "java/util/ArrayList" "size" "I", Cond.methodLink RJx4a65c 69 yJx4a65c_grow_92f84, Cond.instanceMethod yJx4a65c_grow_92f84, Cond.selects RJx4a65c yJx4a65c_grow_92f84 yJx4a65c_grow_92f84, Cond.initialized RJx4a65c, Cond.code yJx4a65c_grow_92f84 cJx4a65c_grow_92f84 4 (some (.array (.object "java/lang/Object"))), Cond.fieldLink RJx4a65c 9 "java/util/ArrayList" "elementData" "[Ljava/lang/Object;", Cond.fieldLink RJx4a65c 39 "java/util/ArrayList" "DEFAULTCAPACITY_EMPTY_ELEMENTDATA" "[Ljava/lang/Object;", Cond.methodLink RJx4a65c 79 Lib.Math.max.name, Cond.static Lib.Math.max.name, Cond.initialized "java/lang/Math", Cond.code Lib.Math.max.name Lib.Math.max.code 2 (some .int), Cond.classLink RJx4a65c 7 "java/lang/Object", Cond.methodLink RJx4a65c 73 yJ8_newLength_cabcc, Cond.static yJ8_newLength_cabcc, Cond.initialized RJ8, Cond.code yJ8_newLength_cabcc cJ8_newLength_cabcc 4 (some .int), Cond.methodLink RJ8 194 Lib.Math.max.name, Cond.constant RJ8 200 (2147483639), Cond.methodLink RJ8 201 yJ8_hugeLength_7cf53, Cond.static yJ8_hugeLength_7cf53, Cond.code yJ8_hugeLength_7cf53 cJ8_hugeLength_7cf53 3 (some .int), Cond.methodLink RJx4a65c 66 yJ7_copyOf_1904c, Cond.static yJ7_copyOf_1904c]
def wsJx4a65c_grow_d5877_r2 : List Cond := [Cond.initialized RJ7, Cond.code yJ7_copyOf_1904c cJ7_copyOf_1904c 2 (some (.array (.object "java/lang/Object"))), Cond.methodLink RJ7 86 ⟨"java/lang/Object", "getClass", "()Ljava/lang/Class;"⟩, Cond.selects "[Ljava/lang/Object;" ⟨"java/lang/Object", "getClass", "()Ljava/lang/Class;"⟩ ⟨"java/lang/Object", "getClass", "()Ljava/lang/Class;"⟩, Cond.instanceMethod ⟨"java/lang/Object", "getClass", "()Ljava/lang/Class;"⟩, Cond.native ⟨"java/lang/Object", "getClass", "()Ljava/lang/Class;"⟩, Cond.methodLink RJ7 300 yJ7_copyOf_6403c, Cond.static yJ7_copyOf_6403c, Cond.code yJ7_copyOf_6403c cJ7_copyOf_6403c 4 (some (.array (.object "java/lang/Object"))), Cond.classLink RJ7 110 "[Ljava/lang/Object;", Cond.classLink RJ7 2 "java/lang/Object", Cond.methodLink RJ7 304 Lib.Math.min.name, Cond.static Lib.Math.min.name, Cond.code Lib.Math.min.name Lib.Math.min.code 2 (some .int), Cond.methodLink RJ7 150 arraycopyName, Cond.native arraycopyName, Cond.static arraycopyName, Cond.initialized "java/lang/System"]
def wsJx4a65c_grow_d5877 : List Cond := .code yJx4a65c_grow_d5877 cJx4a65c_grow_d5877 1 (some (.array (.object "java/lang/Object"))) :: ((wsJx4a65c_grow_d5877_r1 ++ wsJx4a65c_grow_d5877_r2) ++ wsJx4a65c0)
def wsJx4a65c_add_72be8_r1 : List Cond := [Cond.fieldLink RJx4a65c 48 "java/util/ArrayList" "size" "I", Cond.methodLink RJx4a65c 129 yJx4a65c_grow_d5877, Cond.instanceMethod yJx4a65c_grow_d5877, Cond.selects RJx4a65c yJx4a65c_grow_d5877 yJx4a65c_grow_d5877, Cond.initialized RJx4a65c, Cond.code yJx4a65c_grow_d5877 cJx4a65c_grow_d5877 1 (some (.array (.object "java/lang/Object"))), Cond.methodLink RJx4a65c 69 yJx4a65c_grow_92f84, Cond.instanceMethod yJx4a65c_grow_92f84, Cond.selects RJx4a65c yJx4a65c_grow_92f84 yJx4a65c_grow_92f84, Cond.code yJx4a65c_grow_92f84 cJx4a65c_grow_92f84 4 (some (.array (.object "java/lang/Object"))), Cond.fieldLink RJx4a65c 9 "java/util/ArrayList" "elementData" "[Ljava/lang/Object;", Cond.fieldLink RJx4a65c 39 "java/util/ArrayList" "DEFAULTCAPACITY_EMPTY_ELEMENTDATA" "[Ljava/lang/Object;", Cond.methodLink RJx4a65c 79 Lib.Math.max.name, Cond.static Lib.Math.max.name, Cond.initialized "java/lang/Math", Cond.code Lib.Math.max.name Lib.Math.max.code 2 (some .int), Cond.classLink RJx4a65c 7 "java/lang/Object", Cond.methodLink RJx4a65c 73 yJ8_newLength_cabcc, Cond.static yJ8_newLength_cabcc, Cond.initialized RJ8, Cond.code yJ8_newLength_cabcc cJ8_newLength_cabcc 4 (some .int), Cond.methodLink RJ8 194 Lib.Math.max.name, Cond.constant RJ8 200 (2147483639), Cond.methodLink RJ8 201 yJ8_hugeLength_7cf53]
def wsJx4a65c_add_72be8_r2 : List Cond := [Cond.static yJ8_hugeLength_7cf53, Cond.code yJ8_hugeLength_7cf53 cJ8_hugeLength_7cf53 3 (some .int), Cond.methodLink RJx4a65c 66 yJ7_copyOf_1904c, Cond.static yJ7_copyOf_1904c, Cond.initialized RJ7, Cond.code yJ7_copyOf_1904c cJ7_copyOf_1904c 2 (some (.array (.object "java/lang/Object"))), Cond.methodLink RJ7 86 ⟨"java/lang/Object", "getClass", "()Ljava/lang/Class;"⟩, Cond.selects "[Ljava/lang/Object;" ⟨"java/lang/Object", "getClass", "()Ljava/lang/Class;"⟩ ⟨"java/lang/Object", "getClass", "()Ljava/lang/Class;"⟩, Cond.instanceMethod ⟨"java/lang/Object", "getClass", "()Ljava/lang/Class;"⟩, Cond.native ⟨"java/lang/Object", "getClass", "()Ljava/lang/Class;"⟩, Cond.methodLink RJ7 300 yJ7_copyOf_6403c, Cond.static yJ7_copyOf_6403c, Cond.code yJ7_copyOf_6403c cJ7_copyOf_6403c 4 (some (.array (.object "java/lang/Object"))), Cond.classLink RJ7 110 "[Ljava/lang/Object;", Cond.classLink RJ7 2 "java/lang/Object", Cond.methodLink RJ7 304 Lib.Math.min.name, Cond.static Lib.Math.min.name, Cond.code Lib.Math.min.name Lib.Math.min.code 2 (some .int), Cond.methodLink RJ7 150 arraycopyName, Cond.native arraycopyName, Cond.static arraycopyName, Cond.initialized "java/lang/System"]
def wsJx4a65c_add_72be8 : List Cond := .code yJx4a65c_add_72be8 cJx4a65c_add_72be8 4 none :: ((wsJx4a65c_add_72be8_r1 ++ wsJx4a65c_add_72be8_r2) ++ wsJx4a65c0)
def wsJx4a65c_add_9ea2d_r1 : List Cond := [Cond.fieldLink RJx4a65c 63 "java/util/ArrayList" "modCount" "I", Cond.sameField "java/util/ArrayList" "java/util/AbstractList" "modCount" "I", Cond.fieldLink RJx4a65c 9 "java/util/ArrayList" "elementData" "[Ljava/lang/Object;", Cond.fieldLink RJx4a65c 48 "java/util/ArrayList" "size" "I", Cond.methodLink RJx4a65c 131 yJx4a65c_add_72be8, Cond.instanceMethod yJx4a65c_add_72be8, Cond.selects RJx4a65c yJx4a65c_add_72be8 yJx4a65c_add_72be8, Cond.initialized RJx4a65c, Cond.code yJx4a65c_add_72be8 cJx4a65c_add_72be8 4 none, Cond.methodLink RJx4a65c 129 yJx4a65c_grow_d5877, Cond.instanceMethod yJx4a65c_grow_d5877, Cond.selects RJx4a65c yJx4a65c_grow_d5877 yJx4a65c_grow_d5877, Cond.code yJx4a65c_grow_d5877 cJx4a65c_grow_d5877 1 (some (.array (.object "java/lang/Object"))), Cond.methodLink RJx4a65c 69 yJx4a65c_grow_92f84, Cond.instanceMethod yJx4a65c_grow_92f84, Cond.selects RJx4a65c yJx4a65c_grow_92f84 yJx4a65c_grow_92f84, Cond.code yJx4a65c_grow_92f84 cJx4a65c_grow_92f84 4 (some (.array (.object "java/lang/Object"))), Cond.fieldLink RJx4a65c 39 "java/util/ArrayList" "DEFAULTCAPACITY_EMPTY_ELEMENTDATA" "[Ljava/lang/Object;", Cond.methodLink RJx4a65c 79 Lib.Math.max.name, Cond.static Lib.Math.max.name, Cond.initialized "java/lang/Math", Cond.code Lib.Math.max.name Lib.Math.max.code 2 (some .int), Cond.classLink RJx4a65c 7 "java/lang/Object", Cond.methodLink RJx4a65c 73 yJ8_newLength_cabcc]
def wsJx4a65c_add_9ea2d_r2 : List Cond := [Cond.static yJ8_newLength_cabcc, Cond.initialized RJ8, Cond.code yJ8_newLength_cabcc cJ8_newLength_cabcc 4 (some .int), Cond.methodLink RJ8 194 Lib.Math.max.name, Cond.constant RJ8 200 (2147483639), Cond.methodLink RJ8 201 yJ8_hugeLength_7cf53, Cond.static yJ8_hugeLength_7cf53, Cond.code yJ8_hugeLength_7cf53 cJ8_hugeLength_7cf53 3 (some .int), Cond.methodLink RJx4a65c 66 yJ7_copyOf_1904c, Cond.static yJ7_copyOf_1904c, Cond.initialized RJ7, Cond.code yJ7_copyOf_1904c cJ7_copyOf_1904c 2 (some (.array (.object "java/lang/Object"))), Cond.methodLink RJ7 86 ⟨"java/lang/Object", "getClass", "()Ljava/lang/Class;"⟩, Cond.selects "[Ljava/lang/Object;" ⟨"java/lang/Object", "getClass", "()Ljava/lang/Class;"⟩ ⟨"java/lang/Object", "getClass", "()Ljava/lang/Class;"⟩, Cond.instanceMethod ⟨"java/lang/Object", "getClass", "()Ljava/lang/Class;"⟩, Cond.native ⟨"java/lang/Object", "getClass", "()Ljava/lang/Class;"⟩, Cond.methodLink RJ7 300 yJ7_copyOf_6403c, Cond.static yJ7_copyOf_6403c, Cond.code yJ7_copyOf_6403c cJ7_copyOf_6403c 4 (some (.array (.object "java/lang/Object"))), Cond.classLink RJ7 110 "[Ljava/lang/Object;", Cond.classLink RJ7 2 "java/lang/Object", Cond.methodLink RJ7 304 Lib.Math.min.name, Cond.static Lib.Math.min.name, Cond.code Lib.Math.min.name Lib.Math.min.code 2 (some .int)]
def wsJx4a65c_add_9ea2d_r3 : List Cond := [Cond.methodLink RJ7 150 arraycopyName, Cond.native arraycopyName, Cond.static arraycopyName, Cond.initialized "java/lang/System"]
def wsJx4a65c_add_9ea2d : List Cond := .code yJx4a65c_add_9ea2d cJx4a65c_add_9ea2d 2 (some .boolean) :: ((wsJx4a65c_add_9ea2d_r1 ++ (wsJx4a65c_add_9ea2d_r2 ++ wsJx4a65c_add_9ea2d_r3)) ++ wsJx4a65c0)
def wsX1_order_r1 : List Cond := [Cond.fieldLink RX1 10 "OrderRows2" "orders" "Ljava/util/ArrayList;", Cond.classLink RX1 56 RX0, Cond.instantiable RX0 9, Cond.initialized RX0, Cond.fieldLink RX1 30 "OrderRows2" "clock" "J", Cond.methodLink RX1 34 yX1_isKind, Cond.static yX1_isKind, Cond.initialized RX1, Cond.code yX1_isKind cX1_isKind 1 (some .boolean), Cond.methodLink RX1 38 yX1_doneBy, Cond.static yX1_doneBy, Cond.code yX1_doneBy cX1_doneBy 1 (some .int), Cond.methodLink RX1 42 yX1_isAddress, Cond.static yX1_isAddress, Cond.code yX1_isAddress cX1_isAddress 1 (some .boolean), Cond.methodLink RX1 45 yX1_isPerson, Cond.static yX1_isPerson, Cond.code yX1_isPerson cX1_isPerson 1 (some .boolean), Cond.methodLink RX1 48 yX1_isDay, Cond.static yX1_isDay, Cond.code yX1_isDay cX1_isDay 2 (some .boolean), Cond.constantLong RX1 121 (20000), Cond.methodLink RX1 52 yJx4a65c_size_8abf5, Cond.instanceMethod yJx4a65c_size_8abf5]
def wsX1_order_r2 : List Cond := [Cond.selects RJx4a65c yJx4a65c_size_8abf5 yJx4a65c_size_8abf5, Cond.initialized RJx4a65c, Cond.code yJx4a65c_size_8abf5 cJx4a65c_size_8abf5 1 (some .int), Cond.fieldLink RJx4a65c 48 "java/util/ArrayList" "size" "I", Cond.methodLink RX1 58 yX0_init, Cond.instanceMethod yX0_init, Cond.code yX0_init cX0_init 11 none, Cond.methodLink RX0 3 objectInit, Cond.instanceMethod objectInit, Cond.code objectInit ⟨#[0xb1]⟩ 1 none, Cond.fieldLink RX0 9 "OrderRows2$Order" "kind" "I", Cond.fieldLink RX0 15 "OrderRows2$Order" "entry" "I", Cond.fieldLink RX0 18 "OrderRows2$Order" "who" "I", Cond.fieldLink RX0 21 "OrderRows2$Order" "to" "I", Cond.fieldLink RX0 24 "OrderRows2$Order" "from" "J", Cond.fieldLink RX0 28 "OrderRows2$Order" "until" "J", Cond.fieldLink RX0 31 "OrderRows2$Order" "made" "J", Cond.constantLong RX0 34 (20001), Cond.fieldLink RX0 36 "OrderRows2$Order" "overFrom" "J", Cond.fieldLink RX0 39 "OrderRows2$Order" "isProved" "Z", Cond.methodLink RX1 61 yJx4a65c_add_9ea2d, Cond.instanceMethod yJx4a65c_add_9ea2d, Cond.selects RJx4a65c yJx4a65c_add_9ea2d yJx4a65c_add_9ea2d, Cond.code yJx4a65c_add_9ea2d cJx4a65c_add_9ea2d 2 (some .boolean)]
def wsX1_order_r3 : List Cond := [Cond.fieldLink RJx4a65c 63 "java/util/ArrayList" "modCount" "I", Cond.sameField "java/util/ArrayList" "java/util/AbstractList" "modCount" "I", Cond.fieldLink RJx4a65c 9 "java/util/ArrayList" "elementData" "[Ljava/lang/Object;", Cond.methodLink RJx4a65c 131 yJx4a65c_add_72be8, Cond.instanceMethod yJx4a65c_add_72be8, Cond.selects RJx4a65c yJx4a65c_add_72be8 yJx4a65c_add_72be8, Cond.code yJx4a65c_add_72be8 cJx4a65c_add_72be8 4 none, Cond.methodLink RJx4a65c 129 yJx4a65c_grow_d5877, Cond.instanceMethod yJx4a65c_grow_d5877, Cond.selects RJx4a65c yJx4a65c_grow_d5877 yJx4a65c_grow_d5877, Cond.code yJx4a65c_grow_d5877 cJx4a65c_grow_d5877 1 (some (.array (.object "java/lang/Object"))), Cond.methodLink RJx4a65c 69 yJx4a65c_grow_92f84, Cond.instanceMethod yJx4a65c_grow_92f84, Cond.selects RJx4a65c yJx4a65c_grow_92f84 yJx4a65c_grow_92f84, Cond.code yJx4a65c_grow_92f84 cJx4a65c_grow_92f84 4 (some (.array (.object "java/lang/Object"))), Cond.fieldLink RJx4a65c 39 "java/util/ArrayList" "DEFAULTCAPACITY_EMPTY_ELEMENTDATA" "[Ljava/lang/Object;", Cond.methodLink RJx4a65c 79 Lib.Math.max.name, Cond.static Lib.Math.max.name, Cond.initialized "java/lang/Math", Cond.code Lib.Math.max.name Lib.Math.max.code 2 (some .int), Cond.classLink RJx4a65c 7 "java/lang/Object", Cond.methodLink RJx4a65c 73 yJ8_newLength_cabcc, Cond.static yJ8_newLength_cabcc, Cond.initialized RJ8]
def wsX1_order_r4 : List Cond := [Cond.code yJ8_newLength_cabcc cJ8_newLength_cabcc 4 (some .int), Cond.methodLink RJ8 194 Lib.Math.max.name, Cond.constant RJ8 200 (2147483639), Cond.methodLink RJ8 201 yJ8_hugeLength_7cf53, Cond.static yJ8_hugeLength_7cf53, Cond.code yJ8_hugeLength_7cf53 cJ8_hugeLength_7cf53 3 (some .int), Cond.methodLink RJx4a65c 66 yJ7_copyOf_1904c, Cond.static yJ7_copyOf_1904c, Cond.initialized RJ7, Cond.code yJ7_copyOf_1904c cJ7_copyOf_1904c 2 (some (.array (.object "java/lang/Object"))), Cond.methodLink RJ7 86 ⟨"java/lang/Object", "getClass", "()Ljava/lang/Class;"⟩, Cond.selects "[Ljava/lang/Object;" ⟨"java/lang/Object", "getClass", "()Ljava/lang/Class;"⟩ ⟨"java/lang/Object", "getClass", "()Ljava/lang/Class;"⟩, Cond.instanceMethod ⟨"java/lang/Object", "getClass", "()Ljava/lang/Class;"⟩, Cond.native ⟨"java/lang/Object", "getClass", "()Ljava/lang/Class;"⟩, Cond.methodLink RJ7 300 yJ7_copyOf_6403c, Cond.static yJ7_copyOf_6403c, Cond.code yJ7_copyOf_6403c cJ7_copyOf_6403c 4 (some (.array (.object "java/lang/Object"))), Cond.classLink RJ7 110 "[Ljava/lang/Object;", Cond.classLink RJ7 2 "java/lang/Object", Cond.methodLink RJ7 304 Lib.Math.min.name, Cond.static Lib.Math.min.name, Cond.code Lib.Math.min.name Lib.Math.min.code 2 (some .int), Cond.methodLink RJ7 150 arraycopyName, Cond.native arraycopyName]
def wsX1_order_r5 : List Cond := [Cond.static arraycopyName, Cond.initialized "java/lang/System"]
def wsX1_order : List Cond := .code yX1_order cX1_order 10 (some .int) :: ((wsX1_order_r1 ++ (wsX1_order_r2 ++ (wsX1_order_r3 ++ (wsX1_order_r4 ++ wsX1_order_r5)))) ++ wsX10 ++ wsX00 ++ wsJx4a65c0)
def wsJ3_checkIndex_8e157 : List Cond := .code yJ3_checkIndex_8e157 cJ3_checkIndex_8e157 3 (some .int) :: ([])
def wsJ15_checkIndex_7cf53 : List Cond := .code yJ15_checkIndex_7cf53 cJ15_checkIndex_7cf53 2 (some .int) :: ([.methodLink RJ15 105 yJ3_checkIndex_8e157, .static yJ3_checkIndex_8e157, .initialized RJ3, .code yJ3_checkIndex_8e157 cJ3_checkIndex_8e157 3 (some .int)])
def wsJx4a65c_elementData_915e3 : List Cond := .code yJx4a65c_elementData_915e3 cJx4a65c_elementData_915e3 2 (some (.object "java/lang/Object")) :: ([.fieldLink RJx4a65c 9 "java/util/ArrayList" "elementData" "[Ljava/lang/Object;"] ++ wsJx4a65c0)
def wsJx4a65c_get_915e3 : List Cond := .code yJx4a65c_get_915e3 cJx4a65c_get_915e3 2 (some (.object "java/lang/Object")) :: ([.fieldLink RJx4a65c 48 "java/util/ArrayList" "size" "I", .methodLink RJx4a65c 118 yJ15_checkIndex_7cf53, .static yJ15_checkIndex_7cf53, .initialized RJ15, .code yJ15_checkIndex_7cf53 cJ15_checkIndex_7cf53 2 (some .int), .methodLink RJ15 105 yJ3_checkIndex_8e157, .static yJ3_checkIndex_8e157, .initialized RJ3, .code yJ3_checkIndex_8e157 cJ3_checkIndex_8e157 3 (some .int), .methodLink RJx4a65c 123 yJx4a65c_elementData_915e3, .instanceMethod yJx4a65c_elementData_915e3, .selects RJx4a65c yJx4a65c_elementData_915e3 yJx4a65c_elementData_915e3, .initialized RJx4a65c, .code yJx4a65c_elementData_915e3 cJx4a65c_elementData_915e3 2 (some (.object "java/lang/Object")), .fieldLink RJx4a65c 9 "java/util/ArrayList" "elementData" "[Ljava/lang/Object;"] ++ wsJx4a65c0)
def wsX1_find_r1 : List Cond := [Cond.fieldLink RX1 10 "OrderRows2" "orders" "Ljava/util/ArrayList;", Cond.classLink RX1 56 "OrderRows2$Order", Cond.methodLink RX1 52 yJx4a65c_size_8abf5, Cond.instanceMethod yJx4a65c_size_8abf5, Cond.selects RJx4a65c yJx4a65c_size_8abf5 yJx4a65c_size_8abf5, Cond.initialized RJx4a65c, Cond.code yJx4a65c_size_8abf5 cJx4a65c_size_8abf5 1 (some .int), Cond.fieldLink RJx4a65c 48 "java/util/ArrayList" "size" "I", Cond.methodLink RX1 123 yJx4a65c_get_915e3, Cond.instanceMethod yJx4a65c_get_915e3, Cond.selects RJx4a65c yJx4a65c_get_915e3 yJx4a65c_get_915e3, Cond.code yJx4a65c_get_915e3 cJx4a65c_get_915e3 2 (some (.object "java/lang/Object")), Cond.methodLink RJx4a65c 118 yJ15_checkIndex_7cf53, Cond.static yJ15_checkIndex_7cf53, Cond.initialized RJ15, Cond.code yJ15_checkIndex_7cf53 cJ15_checkIndex_7cf53 2 (some .int), Cond.methodLink RJ15 105 yJ3_checkIndex_8e157, Cond.static yJ3_checkIndex_8e157, Cond.initialized RJ3, Cond.code yJ3_checkIndex_8e157 cJ3_checkIndex_8e157 3 (some .int), Cond.methodLink RJx4a65c 123 yJx4a65c_elementData_915e3, Cond.instanceMethod yJx4a65c_elementData_915e3, Cond.selects RJx4a65c yJx4a65c_elementData_915e3 yJx4a65c_elementData_915e3, Cond.code yJx4a65c_elementData_915e3 cJx4a65c_elementData_915e3 2 (some (.object "java/lang/Object"))]
def wsX1_find_r2 : List Cond := [Cond.fieldLink RJx4a65c 9 "java/util/ArrayList" "elementData" "[Ljava/lang/Object;"]
def wsX1_find : List Cond := .code yX1_find cX1_find 2 (some (.object "OrderRows2$Order")) :: ((wsX1_find_r1 ++ wsX1_find_r2) ++ wsX10 ++ wsJx4a65c0)
def wsX1_canBeClock : List Cond := .code yX1_canBeClock cX1_canBeClock 3 (some .boolean) :: ([.fieldLink RX1 30 "OrderRows2" "clock" "J", .methodLink RX1 48 yX1_isDay, .static yX1_isDay, .initialized RX1, .code yX1_isDay cX1_isDay 2 (some .boolean), .constantLong RX1 121 (20000)] ++ wsX10)
def wsX1_moveClock_r1 : List Cond := [Cond.fieldLink RX1 30 "OrderRows2" "clock" "J", Cond.fieldLink RX1 10 "OrderRows2" "orders" "Ljava/util/ArrayList;", Cond.methodLink RX1 52 yJx4a65c_size_8abf5, Cond.instanceMethod yJx4a65c_size_8abf5, Cond.selects RJx4a65c yJx4a65c_size_8abf5 yJx4a65c_size_8abf5, Cond.initialized RJx4a65c, Cond.code yJx4a65c_size_8abf5 cJx4a65c_size_8abf5 1 (some .int), Cond.fieldLink RJx4a65c 48 "java/util/ArrayList" "size" "I", Cond.methodLink RX1 65 yX1_find, Cond.instanceMethod yX1_find, Cond.selects RX1 yX1_find yX1_find, Cond.initialized RX1, Cond.code yX1_find cX1_find 2 (some (.object "OrderRows2$Order")), Cond.classLink RX1 56 "OrderRows2$Order", Cond.methodLink RX1 123 yJx4a65c_get_915e3, Cond.instanceMethod yJx4a65c_get_915e3, Cond.selects RJx4a65c yJx4a65c_get_915e3 yJx4a65c_get_915e3, Cond.code yJx4a65c_get_915e3 cJx4a65c_get_915e3 2 (some (.object "java/lang/Object")), Cond.methodLink RJx4a65c 118 yJ15_checkIndex_7cf53, Cond.static yJ15_checkIndex_7cf53, Cond.initialized RJ15, Cond.code yJ15_checkIndex_7cf53 cJ15_checkIndex_7cf53 2 (some .int), Cond.methodLink RJ15 105 yJ3_checkIndex_8e157, Cond.static yJ3_checkIndex_8e157]
def wsX1_moveClock_r2 : List Cond := [Cond.initialized RJ3, Cond.code yJ3_checkIndex_8e157 cJ3_checkIndex_8e157 3 (some .int), Cond.methodLink RJx4a65c 123 yJx4a65c_elementData_915e3, Cond.instanceMethod yJx4a65c_elementData_915e3, Cond.selects RJx4a65c yJx4a65c_elementData_915e3 yJx4a65c_elementData_915e3, Cond.code yJx4a65c_elementData_915e3 cJx4a65c_elementData_915e3 2 (some (.object "java/lang/Object")), Cond.fieldLink RJx4a65c 9 "java/util/ArrayList" "elementData" "[Ljava/lang/Object;", Cond.methodLink RX1 127 yX0_lapseIfDue, Cond.instanceMethod yX0_lapseIfDue, Cond.selects RX0 yX0_lapseIfDue yX0_lapseIfDue, Cond.initialized RX0, Cond.code yX0_lapseIfDue cX0_lapseIfDue 3 (some .boolean), Cond.fieldLink RX0 39 "OrderRows2$Order" "isProved" "Z", Cond.fieldLink RX0 31 "OrderRows2$Order" "made" "J", Cond.constantLong RX0 64 (14), Cond.fieldLink RX0 36 "OrderRows2$Order" "overFrom" "J", Cond.methodLink RX0 61 yX0_isOver, Cond.instanceMethod yX0_isOver, Cond.selects RX0 yX0_isOver yX0_isOver, Cond.code yX0_isOver cX0_isOver 1 (some .boolean), Cond.constantLong RX0 34 (20001)]
def wsX1_moveClock : List Cond := .code yX1_moveClock cX1_moveClock 6 (some .int) :: ((wsX1_moveClock_r1 ++ wsX1_moveClock_r2) ++ wsX10 ++ wsJx4a65c0 ++ wsX00)
def wsX1_proof_r1 : List Cond := [Cond.fieldLink RX1 80 "OrderRows2$Order" "isProved" "Z", Cond.fieldLink RX1 30 "OrderRows2" "clock" "J", Cond.fieldLink RX1 84 "OrderRows2$Order" "overFrom" "J", Cond.methodLink RX1 65 yX1_find, Cond.instanceMethod yX1_find, Cond.selects RX1 yX1_find yX1_find, Cond.initialized RX1, Cond.code yX1_find cX1_find 2 (some (.object "OrderRows2$Order")), Cond.fieldLink RX1 10 "OrderRows2" "orders" "Ljava/util/ArrayList;", Cond.classLink RX1 56 "OrderRows2$Order", Cond.methodLink RX1 52 yJx4a65c_size_8abf5, Cond.instanceMethod yJx4a65c_size_8abf5, Cond.selects RJx4a65c yJx4a65c_size_8abf5 yJx4a65c_size_8abf5, Cond.initialized RJx4a65c, Cond.code yJx4a65c_size_8abf5 cJx4a65c_size_8abf5 1 (some .int), Cond.fieldLink RJx4a65c 48 "java/util/ArrayList" "size" "I", Cond.methodLink RX1 123 yJx4a65c_get_915e3, Cond.instanceMethod yJx4a65c_get_915e3, Cond.selects RJx4a65c yJx4a65c_get_915e3 yJx4a65c_get_915e3, Cond.code yJx4a65c_get_915e3 cJx4a65c_get_915e3 2 (some (.object "java/lang/Object")), Cond.methodLink RJx4a65c 118 yJ15_checkIndex_7cf53, Cond.static yJ15_checkIndex_7cf53, Cond.initialized RJ15, Cond.code yJ15_checkIndex_7cf53 cJ15_checkIndex_7cf53 2 (some .int)]
def wsX1_proof_r2 : List Cond := [Cond.methodLink RJ15 105 yJ3_checkIndex_8e157, Cond.static yJ3_checkIndex_8e157, Cond.initialized RJ3, Cond.code yJ3_checkIndex_8e157 cJ3_checkIndex_8e157 3 (some .int), Cond.methodLink RJx4a65c 123 yJx4a65c_elementData_915e3, Cond.instanceMethod yJx4a65c_elementData_915e3, Cond.selects RJx4a65c yJx4a65c_elementData_915e3 yJx4a65c_elementData_915e3, Cond.code yJx4a65c_elementData_915e3 cJx4a65c_elementData_915e3 2 (some (.object "java/lang/Object")), Cond.fieldLink RJx4a65c 9 "java/util/ArrayList" "elementData" "[Ljava/lang/Object;", Cond.methodLink RX1 69 yX1_canBeClock, Cond.instanceMethod yX1_canBeClock, Cond.selects RX1 yX1_canBeClock yX1_canBeClock, Cond.code yX1_canBeClock cX1_canBeClock 3 (some .boolean), Cond.methodLink RX1 48 yX1_isDay, Cond.static yX1_isDay, Cond.code yX1_isDay cX1_isDay 2 (some .boolean), Cond.constantLong RX1 121 (20000), Cond.methodLink RX1 72 yX1_moveClock, Cond.instanceMethod yX1_moveClock, Cond.selects RX1 yX1_moveClock yX1_moveClock, Cond.code yX1_moveClock cX1_moveClock 6 (some .int), Cond.methodLink RX1 127 yX0_lapseIfDue, Cond.instanceMethod yX0_lapseIfDue, Cond.selects RX0 yX0_lapseIfDue yX0_lapseIfDue]
def wsX1_proof_r3 : List Cond := [Cond.initialized RX0, Cond.code yX0_lapseIfDue cX0_lapseIfDue 3 (some .boolean), Cond.fieldLink RX0 39 "OrderRows2$Order" "isProved" "Z", Cond.fieldLink RX0 31 "OrderRows2$Order" "made" "J", Cond.constantLong RX0 64 (14), Cond.fieldLink RX0 36 "OrderRows2$Order" "overFrom" "J", Cond.methodLink RX0 61 yX0_isOver, Cond.instanceMethod yX0_isOver, Cond.selects RX0 yX0_isOver yX0_isOver, Cond.code yX0_isOver cX0_isOver 1 (some .boolean), Cond.constantLong RX0 34 (20001), Cond.methodLink RX1 76 yX0_isOver]
def wsX1_proof : List Cond := .code yX1_proof cX1_proof 6 (some .int) :: ((wsX1_proof_r1 ++ (wsX1_proof_r2 ++ wsX1_proof_r3)) ++ wsX00 ++ wsX10 ++ wsJx4a65c0)
def wsX1_withdraw_r1 : List Cond := [Cond.fieldLink RX1 30 "OrderRows2" "clock" "J", Cond.fieldLink RX1 84 "OrderRows2$Order" "overFrom" "J", Cond.methodLink RX1 65 yX1_find, Cond.instanceMethod yX1_find, Cond.selects RX1 yX1_find yX1_find, Cond.initialized RX1, Cond.code yX1_find cX1_find 2 (some (.object "OrderRows2$Order")), Cond.fieldLink RX1 10 "OrderRows2" "orders" "Ljava/util/ArrayList;", Cond.classLink RX1 56 "OrderRows2$Order", Cond.methodLink RX1 52 yJx4a65c_size_8abf5, Cond.instanceMethod yJx4a65c_size_8abf5, Cond.selects RJx4a65c yJx4a65c_size_8abf5 yJx4a65c_size_8abf5, Cond.initialized RJx4a65c, Cond.code yJx4a65c_size_8abf5 cJx4a65c_size_8abf5 1 (some .int), Cond.fieldLink RJx4a65c 48 "java/util/ArrayList" "size" "I", Cond.methodLink RX1 123 yJx4a65c_get_915e3, Cond.instanceMethod yJx4a65c_get_915e3, Cond.selects RJx4a65c yJx4a65c_get_915e3 yJx4a65c_get_915e3, Cond.code yJx4a65c_get_915e3 cJx4a65c_get_915e3 2 (some (.object "java/lang/Object")), Cond.methodLink RJx4a65c 118 yJ15_checkIndex_7cf53, Cond.static yJ15_checkIndex_7cf53, Cond.initialized RJ15, Cond.code yJ15_checkIndex_7cf53 cJ15_checkIndex_7cf53 2 (some .int), Cond.methodLink RJ15 105 yJ3_checkIndex_8e157]
def wsX1_withdraw_r2 : List Cond := [Cond.static yJ3_checkIndex_8e157, Cond.initialized RJ3, Cond.code yJ3_checkIndex_8e157 cJ3_checkIndex_8e157 3 (some .int), Cond.methodLink RJx4a65c 123 yJx4a65c_elementData_915e3, Cond.instanceMethod yJx4a65c_elementData_915e3, Cond.selects RJx4a65c yJx4a65c_elementData_915e3 yJx4a65c_elementData_915e3, Cond.code yJx4a65c_elementData_915e3 cJx4a65c_elementData_915e3 2 (some (.object "java/lang/Object")), Cond.fieldLink RJx4a65c 9 "java/util/ArrayList" "elementData" "[Ljava/lang/Object;", Cond.methodLink RX1 69 yX1_canBeClock, Cond.instanceMethod yX1_canBeClock, Cond.selects RX1 yX1_canBeClock yX1_canBeClock, Cond.code yX1_canBeClock cX1_canBeClock 3 (some .boolean), Cond.methodLink RX1 48 yX1_isDay, Cond.static yX1_isDay, Cond.code yX1_isDay cX1_isDay 2 (some .boolean), Cond.constantLong RX1 121 (20000), Cond.methodLink RX1 72 yX1_moveClock, Cond.instanceMethod yX1_moveClock, Cond.selects RX1 yX1_moveClock yX1_moveClock, Cond.code yX1_moveClock cX1_moveClock 6 (some .int), Cond.methodLink RX1 127 yX0_lapseIfDue, Cond.instanceMethod yX0_lapseIfDue, Cond.selects RX0 yX0_lapseIfDue yX0_lapseIfDue, Cond.initialized RX0]
def wsX1_withdraw_r3 : List Cond := [Cond.code yX0_lapseIfDue cX0_lapseIfDue 3 (some .boolean), Cond.fieldLink RX0 39 "OrderRows2$Order" "isProved" "Z", Cond.fieldLink RX0 31 "OrderRows2$Order" "made" "J", Cond.constantLong RX0 64 (14), Cond.fieldLink RX0 36 "OrderRows2$Order" "overFrom" "J", Cond.methodLink RX0 61 yX0_isOver, Cond.instanceMethod yX0_isOver, Cond.selects RX0 yX0_isOver yX0_isOver, Cond.code yX0_isOver cX0_isOver 1 (some .boolean), Cond.constantLong RX0 34 (20001), Cond.methodLink RX1 76 yX0_isOver, Cond.methodLink RX1 87 yX0_daysOfSpanFrom, Cond.instanceMethod yX0_daysOfSpanFrom, Cond.selects RX0 yX0_daysOfSpanFrom yX0_daysOfSpanFrom, Cond.code yX0_daysOfSpanFrom cX0_daysOfSpanFrom 5 (some .int), Cond.fieldLink RX0 24 "OrderRows2$Order" "from" "J", Cond.methodLink RX0 55 Lib.MathLoose.max_long.x, Cond.static Lib.MathLoose.max_long.x, Cond.initialized "java/lang/Math", Cond.code Lib.MathLoose.max_long.x Lib.MathLoose.max_long.code 4 (some .long), Cond.fieldLink RX0 28 "OrderRows2$Order" "until" "J"]
def wsX1_withdraw : List Cond := .code yX1_withdraw cX1_withdraw 5 (some .int) :: ((wsX1_withdraw_r1 ++ (wsX1_withdraw_r2 ++ wsX1_withdraw_r3)) ++ wsX10 ++ wsX00 ++ wsJx4a65c0)
def wsX1_stepAt : List Cond := .code yX1_stepAt cX1_stepAt 4 (some .int) :: ([.fieldLink RX1 20 "OrderRows2" "path" "[I"] ++ wsX10)
def wsX1_tellRing : List Cond := .code yX1_tellRing cX1_tellRing 4 none :: ([.fieldLink RX1 26 "OrderRows2" "ringLength" "I", .methodLink RX1 137 Lib.Math.max.name, .static Lib.Math.max.name, .initialized "java/lang/Math", .code Lib.Math.max.name Lib.Math.max.code 2 (some .int), .fieldLink RX1 20 "OrderRows2" "path" "[I", .fieldLink RX1 23 "OrderRows2" "ringTold" "[I"] ++ wsX10)
def wsX1_rankOf : List Cond := .code yX1_rankOf cX1_rankOf 2 (some .int) :: ([.fieldLink RX1 16 "OrderRows2" "rankOfKind" "[I", .methodLink RX1 34 yX1_isKind, .static yX1_isKind, .initialized RX1, .code yX1_isKind cX1_isKind 1 (some .boolean)] ++ wsX10)
def wsX1_strongest_r1 : List Cond := [Cond.fieldLink RX1 10 "OrderRows2" "orders" "Ljava/util/ArrayList;", Cond.fieldLink RX1 105 "OrderRows2$Order" "kind" "I", Cond.methodLink RX1 52 yJx4a65c_size_8abf5, Cond.instanceMethod yJx4a65c_size_8abf5, Cond.selects RJx4a65c yJx4a65c_size_8abf5 yJx4a65c_size_8abf5, Cond.initialized RJx4a65c, Cond.code yJx4a65c_size_8abf5 cJx4a65c_size_8abf5 1 (some .int), Cond.fieldLink RJx4a65c 48 "java/util/ArrayList" "size" "I", Cond.methodLink RX1 65 yX1_find, Cond.instanceMethod yX1_find, Cond.selects RX1 yX1_find yX1_find, Cond.initialized RX1, Cond.code yX1_find cX1_find 2 (some (.object "OrderRows2$Order")), Cond.classLink RX1 56 "OrderRows2$Order", Cond.methodLink RX1 123 yJx4a65c_get_915e3, Cond.instanceMethod yJx4a65c_get_915e3, Cond.selects RJx4a65c yJx4a65c_get_915e3 yJx4a65c_get_915e3, Cond.code yJx4a65c_get_915e3 cJx4a65c_get_915e3 2 (some (.object "java/lang/Object")), Cond.methodLink RJx4a65c 118 yJ15_checkIndex_7cf53, Cond.static yJ15_checkIndex_7cf53, Cond.initialized RJ15, Cond.code yJ15_checkIndex_7cf53 cJ15_checkIndex_7cf53 2 (some .int), Cond.methodLink RJ15 105 yJ3_checkIndex_8e157, Cond.static yJ3_checkIndex_8e157]
def wsX1_strongest_r2 : List Cond := [Cond.initialized RJ3, Cond.code yJ3_checkIndex_8e157 cJ3_checkIndex_8e157 3 (some .int), Cond.methodLink RJx4a65c 123 yJx4a65c_elementData_915e3, Cond.instanceMethod yJx4a65c_elementData_915e3, Cond.selects RJx4a65c yJx4a65c_elementData_915e3 yJx4a65c_elementData_915e3, Cond.code yJx4a65c_elementData_915e3 cJx4a65c_elementData_915e3 2 (some (.object "java/lang/Object")), Cond.fieldLink RJx4a65c 9 "java/util/ArrayList" "elementData" "[Ljava/lang/Object;", Cond.methodLink RX1 130 yX0_concerns, Cond.instanceMethod yX0_concerns, Cond.selects RX0 yX0_concerns yX0_concerns, Cond.initialized RX0, Cond.code yX0_concerns cX0_concerns 4 (some .boolean), Cond.fieldLink RX0 15 "OrderRows2$Order" "entry" "I", Cond.fieldLink RX0 18 "OrderRows2$Order" "who" "I", Cond.fieldLink RX0 9 "OrderRows2$Order" "kind" "I", Cond.methodLink RX1 134 yX0_isInForce, Cond.instanceMethod yX0_isInForce, Cond.selects RX0 yX0_isInForce yX0_isInForce, Cond.code yX0_isInForce cX0_isInForce 3 (some .boolean), Cond.fieldLink RX0 24 "OrderRows2$Order" "from" "J", Cond.fieldLink RX0 28 "OrderRows2$Order" "until" "J", Cond.fieldLink RX0 36 "OrderRows2$Order" "overFrom" "J", Cond.methodLink RX1 111 yX1_rankOf, Cond.instanceMethod yX1_rankOf]
def wsX1_strongest_r3 : List Cond := [Cond.selects RX1 yX1_rankOf yX1_rankOf, Cond.code yX1_rankOf cX1_rankOf 2 (some .int), Cond.fieldLink RX1 16 "OrderRows2" "rankOfKind" "[I", Cond.methodLink RX1 34 yX1_isKind, Cond.static yX1_isKind, Cond.code yX1_isKind cX1_isKind 1 (some .boolean)]
def wsX1_strongest : List Cond := .code yX1_strongest cX1_strongest 9 (some (.object "OrderRows2$Order")) :: ((wsX1_strongest_r1 ++ (wsX1_strongest_r2 ++ wsX1_strongest_r3)) ++ wsX10 ++ wsX00 ++ wsJx4a65c0)
def wsX1_effective_r1 : List Cond := [Cond.fieldLink RX1 20 "OrderRows2" "path" "[I", Cond.fieldLink RX1 105 "OrderRows2$Order" "kind" "I", Cond.fieldLink RX1 108 "OrderRows2$Order" "to" "I", Cond.methodLink RX1 42 yX1_isAddress, Cond.static yX1_isAddress, Cond.initialized RX1, Cond.code yX1_isAddress cX1_isAddress 1 (some .boolean), Cond.methodLink RX1 45 yX1_isPerson, Cond.static yX1_isPerson, Cond.code yX1_isPerson cX1_isPerson 1 (some .boolean), Cond.methodLink RX1 48 yX1_isDay, Cond.static yX1_isDay, Cond.code yX1_isDay cX1_isDay 2 (some .boolean), Cond.constantLong RX1 121 (20000), Cond.methodLink RX1 90 yX1_stepAt, Cond.instanceMethod yX1_stepAt, Cond.selects RX1 yX1_stepAt yX1_stepAt, Cond.code yX1_stepAt cX1_stepAt 4 (some .int), Cond.methodLink RX1 94 yX1_tellRing, Cond.instanceMethod yX1_tellRing, Cond.selects RX1 yX1_tellRing yX1_tellRing, Cond.code yX1_tellRing cX1_tellRing 4 none, Cond.fieldLink RX1 26 "OrderRows2" "ringLength" "I", Cond.methodLink RX1 137 Lib.Math.max.name]
def wsX1_effective_r2 : List Cond := [Cond.static Lib.Math.max.name, Cond.initialized "java/lang/Math", Cond.code Lib.Math.max.name Lib.Math.max.code 2 (some .int), Cond.fieldLink RX1 23 "OrderRows2" "ringTold" "[I", Cond.methodLink RX1 98 yX1_strongest, Cond.instanceMethod yX1_strongest, Cond.selects RX1 yX1_strongest yX1_strongest, Cond.code yX1_strongest cX1_strongest 9 (some (.object "OrderRows2$Order")), Cond.fieldLink RX1 10 "OrderRows2" "orders" "Ljava/util/ArrayList;", Cond.methodLink RX1 52 yJx4a65c_size_8abf5, Cond.instanceMethod yJx4a65c_size_8abf5, Cond.selects RJx4a65c yJx4a65c_size_8abf5 yJx4a65c_size_8abf5, Cond.initialized RJx4a65c, Cond.code yJx4a65c_size_8abf5 cJx4a65c_size_8abf5 1 (some .int), Cond.fieldLink RJx4a65c 48 "java/util/ArrayList" "size" "I", Cond.methodLink RX1 65 yX1_find, Cond.instanceMethod yX1_find, Cond.selects RX1 yX1_find yX1_find, Cond.code yX1_find cX1_find 2 (some (.object "OrderRows2$Order")), Cond.classLink RX1 56 "OrderRows2$Order", Cond.methodLink RX1 123 yJx4a65c_get_915e3, Cond.instanceMethod yJx4a65c_get_915e3, Cond.selects RJx4a65c yJx4a65c_get_915e3 yJx4a65c_get_915e3, Cond.code yJx4a65c_get_915e3 cJx4a65c_get_915e3 2 (some (.object "java/lang/Object"))]
def wsX1_effective_r3 : List Cond := [Cond.methodLink RJx4a65c 118 yJ15_checkIndex_7cf53, Cond.static yJ15_checkIndex_7cf53, Cond.initialized RJ15, Cond.code yJ15_checkIndex_7cf53 cJ15_checkIndex_7cf53 2 (some .int), Cond.methodLink RJ15 105 yJ3_checkIndex_8e157, Cond.static yJ3_checkIndex_8e157, Cond.initialized RJ3, Cond.code yJ3_checkIndex_8e157 cJ3_checkIndex_8e157 3 (some .int), Cond.methodLink RJx4a65c 123 yJx4a65c_elementData_915e3, Cond.instanceMethod yJx4a65c_elementData_915e3, Cond.selects RJx4a65c yJx4a65c_elementData_915e3 yJx4a65c_elementData_915e3, Cond.code yJx4a65c_elementData_915e3 cJx4a65c_elementData_915e3 2 (some (.object "java/lang/Object")), Cond.fieldLink RJx4a65c 9 "java/util/ArrayList" "elementData" "[Ljava/lang/Object;", Cond.methodLink RX1 130 yX0_concerns, Cond.instanceMethod yX0_concerns, Cond.selects RX0 yX0_concerns yX0_concerns, Cond.initialized RX0, Cond.code yX0_concerns cX0_concerns 4 (some .boolean), Cond.fieldLink RX0 15 "OrderRows2$Order" "entry" "I", Cond.fieldLink RX0 18 "OrderRows2$Order" "who" "I", Cond.fieldLink RX0 9 "OrderRows2$Order" "kind" "I", Cond.methodLink RX1 134 yX0_isInForce, Cond.instanceMethod yX0_isInForce, Cond.selects RX0 yX0_isInForce yX0_isInForce]
def wsX1_effective_r4 : List Cond := [Cond.code yX0_isInForce cX0_isInForce 3 (some .boolean), Cond.fieldLink RX0 24 "OrderRows2$Order" "from" "J", Cond.fieldLink RX0 28 "OrderRows2$Order" "until" "J", Cond.fieldLink RX0 36 "OrderRows2$Order" "overFrom" "J", Cond.methodLink RX1 111 yX1_rankOf, Cond.instanceMethod yX1_rankOf, Cond.selects RX1 yX1_rankOf yX1_rankOf, Cond.code yX1_rankOf cX1_rankOf 2 (some .int), Cond.fieldLink RX1 16 "OrderRows2" "rankOfKind" "[I", Cond.methodLink RX1 34 yX1_isKind, Cond.static yX1_isKind, Cond.code yX1_isKind cX1_isKind 1 (some .boolean), Cond.methodLink RX1 102 yX0_sendsOn, Cond.instanceMethod yX0_sendsOn, Cond.selects RX0 yX0_sendsOn yX0_sendsOn, Cond.code yX0_sendsOn cX0_sendsOn 1 (some .boolean), Cond.static yX1_doneBy, Cond.code yX1_doneBy cX1_doneBy 1 (some .int), Cond.methodLink RX1 38 yX1_doneBy]
def wsX1_effective : List Cond := .code yX1_effective cX1_effective 10 (some .int) :: ((wsX1_effective_r1 ++ (wsX1_effective_r2 ++ (wsX1_effective_r3 ++ wsX1_effective_r4))) ++ wsX10 ++ wsX00 ++ wsJx4a65c0)
def wsX1_ring : List Cond := .code yX1_ring cX1_ring 2 (some .int) :: ([.fieldLink RX1 26 "OrderRows2" "ringLength" "I", .fieldLink RX1 23 "OrderRows2" "ringTold" "[I"] ++ wsX10)
def wsX1_rank : List Cond := .code yX1_rank cX1_rank 4 (some .int) :: ([.fieldLink RX1 16 "OrderRows2" "rankOfKind" "[I", .methodLink RX1 34 yX1_isKind, .static yX1_isKind, .initialized RX1, .code yX1_isKind cX1_isKind 1 (some .boolean), .methodLink RX1 111 yX1_rankOf, .instanceMethod yX1_rankOf, .selects RX1 yX1_rankOf yX1_rankOf, .code yX1_rankOf cX1_rankOf 2 (some .int)] ++ wsX10)
def wsX1_tick_r1 : List Cond := [Cond.methodLink RX1 69 yX1_canBeClock, Cond.instanceMethod yX1_canBeClock, Cond.selects RX1 yX1_canBeClock yX1_canBeClock, Cond.initialized RX1, Cond.code yX1_canBeClock cX1_canBeClock 3 (some .boolean), Cond.fieldLink RX1 30 "OrderRows2" "clock" "J", Cond.methodLink RX1 48 yX1_isDay, Cond.static yX1_isDay, Cond.code yX1_isDay cX1_isDay 2 (some .boolean), Cond.constantLong RX1 121 (20000), Cond.methodLink RX1 72 yX1_moveClock, Cond.instanceMethod yX1_moveClock, Cond.selects RX1 yX1_moveClock yX1_moveClock, Cond.code yX1_moveClock cX1_moveClock 6 (some .int), Cond.fieldLink RX1 10 "OrderRows2" "orders" "Ljava/util/ArrayList;", Cond.methodLink RX1 52 yJx4a65c_size_8abf5, Cond.instanceMethod yJx4a65c_size_8abf5, Cond.selects RJx4a65c yJx4a65c_size_8abf5 yJx4a65c_size_8abf5, Cond.initialized RJx4a65c, Cond.code yJx4a65c_size_8abf5 cJx4a65c_size_8abf5 1 (some .int), Cond.fieldLink RJx4a65c 48 "java/util/ArrayList" "size" "I", Cond.methodLink RX1 65 yX1_find, Cond.instanceMethod yX1_find, Cond.selects RX1 yX1_find yX1_find]
def wsX1_tick_r2 : List Cond := [Cond.code yX1_find cX1_find 2 (some (.object "OrderRows2$Order")), Cond.classLink RX1 56 "OrderRows2$Order", Cond.methodLink RX1 123 yJx4a65c_get_915e3, Cond.instanceMethod yJx4a65c_get_915e3, Cond.selects RJx4a65c yJx4a65c_get_915e3 yJx4a65c_get_915e3, Cond.code yJx4a65c_get_915e3 cJx4a65c_get_915e3 2 (some (.object "java/lang/Object")), Cond.methodLink RJx4a65c 118 yJ15_checkIndex_7cf53, Cond.static yJ15_checkIndex_7cf53, Cond.initialized RJ15, Cond.code yJ15_checkIndex_7cf53 cJ15_checkIndex_7cf53 2 (some .int), Cond.methodLink RJ15 105 yJ3_checkIndex_8e157, Cond.static yJ3_checkIndex_8e157, Cond.initialized RJ3, Cond.code yJ3_checkIndex_8e157 cJ3_checkIndex_8e157 3 (some .int), Cond.methodLink RJx4a65c 123 yJx4a65c_elementData_915e3, Cond.instanceMethod yJx4a65c_elementData_915e3, Cond.selects RJx4a65c yJx4a65c_elementData_915e3 yJx4a65c_elementData_915e3, Cond.code yJx4a65c_elementData_915e3 cJx4a65c_elementData_915e3 2 (some (.object "java/lang/Object")), Cond.fieldLink RJx4a65c 9 "java/util/ArrayList" "elementData" "[Ljava/lang/Object;", Cond.methodLink RX1 127 yX0_lapseIfDue, Cond.instanceMethod yX0_lapseIfDue, Cond.selects RX0 yX0_lapseIfDue yX0_lapseIfDue, Cond.initialized RX0, Cond.code yX0_lapseIfDue cX0_lapseIfDue 3 (some .boolean)]
def wsX1_tick_r3 : List Cond := [Cond.fieldLink RX0 39 "OrderRows2$Order" "isProved" "Z", Cond.fieldLink RX0 31 "OrderRows2$Order" "made" "J", Cond.constantLong RX0 64 (14), Cond.fieldLink RX0 36 "OrderRows2$Order" "overFrom" "J", Cond.methodLink RX0 61 yX0_isOver, Cond.instanceMethod yX0_isOver, Cond.selects RX0 yX0_isOver yX0_isOver, Cond.code yX0_isOver cX0_isOver 1 (some .boolean), Cond.constantLong RX0 34 (20001)]
def wsX1_tick : List Cond := .code yX1_tick cX1_tick 3 (some .int) :: ((wsX1_tick_r1 ++ (wsX1_tick_r2 ++ wsX1_tick_r3)) ++ wsX10 ++ wsJx4a65c0 ++ wsX00)
def wsX1_extend_r1 : List Cond := [Cond.fieldLink RX1 114 "OrderRows2$Order" "until" "J", Cond.methodLink RX1 65 yX1_find, Cond.instanceMethod yX1_find, Cond.selects RX1 yX1_find yX1_find, Cond.initialized RX1, Cond.code yX1_find cX1_find 2 (some (.object "OrderRows2$Order")), Cond.fieldLink RX1 10 "OrderRows2" "orders" "Ljava/util/ArrayList;", Cond.classLink RX1 56 "OrderRows2$Order", Cond.methodLink RX1 52 yJx4a65c_size_8abf5, Cond.instanceMethod yJx4a65c_size_8abf5, Cond.selects RJx4a65c yJx4a65c_size_8abf5 yJx4a65c_size_8abf5, Cond.initialized RJx4a65c, Cond.code yJx4a65c_size_8abf5 cJx4a65c_size_8abf5 1 (some .int), Cond.fieldLink RJx4a65c 48 "java/util/ArrayList" "size" "I", Cond.methodLink RX1 123 yJx4a65c_get_915e3, Cond.instanceMethod yJx4a65c_get_915e3, Cond.selects RJx4a65c yJx4a65c_get_915e3 yJx4a65c_get_915e3, Cond.code yJx4a65c_get_915e3 cJx4a65c_get_915e3 2 (some (.object "java/lang/Object")), Cond.methodLink RJx4a65c 118 yJ15_checkIndex_7cf53, Cond.static yJ15_checkIndex_7cf53, Cond.initialized RJ15, Cond.code yJ15_checkIndex_7cf53 cJ15_checkIndex_7cf53 2 (some .int), Cond.methodLink RJ15 105 yJ3_checkIndex_8e157, Cond.static yJ3_checkIndex_8e157]
def wsX1_extend_r2 : List Cond := [Cond.initialized RJ3, Cond.code yJ3_checkIndex_8e157 cJ3_checkIndex_8e157 3 (some .int), Cond.methodLink RJx4a65c 123 yJx4a65c_elementData_915e3, Cond.instanceMethod yJx4a65c_elementData_915e3, Cond.selects RJx4a65c yJx4a65c_elementData_915e3 yJx4a65c_elementData_915e3, Cond.code yJx4a65c_elementData_915e3 cJx4a65c_elementData_915e3 2 (some (.object "java/lang/Object")), Cond.fieldLink RJx4a65c 9 "java/util/ArrayList" "elementData" "[Ljava/lang/Object;", Cond.methodLink RX1 48 yX1_isDay, Cond.static yX1_isDay, Cond.code yX1_isDay cX1_isDay 2 (some .boolean), Cond.constantLong RX1 121 (20000), Cond.methodLink RX1 76 yX0_isOver, Cond.instanceMethod yX0_isOver, Cond.selects RX0 yX0_isOver yX0_isOver, Cond.initialized RX0, Cond.code yX0_isOver cX0_isOver 1 (some .boolean), Cond.fieldLink RX0 36 "OrderRows2$Order" "overFrom" "J", Cond.constantLong RX0 34 (20001)]
def wsX1_extend : List Cond := .code yX1_extend cX1_extend 5 (some .int) :: ((wsX1_extend_r1 ++ wsX1_extend_r2) ++ wsX00 ++ wsX10 ++ wsJx4a65c0)
def wsX1_told_r1 : List Cond := [Cond.fieldLink RX1 10 "OrderRows2" "orders" "Ljava/util/ArrayList;", Cond.fieldLink RX1 30 "OrderRows2" "clock" "J", Cond.methodLink RX1 45 yX1_isPerson, Cond.static yX1_isPerson, Cond.initialized RX1, Cond.code yX1_isPerson cX1_isPerson 1 (some .boolean), Cond.methodLink RX1 52 yJx4a65c_size_8abf5, Cond.instanceMethod yJx4a65c_size_8abf5, Cond.selects RJx4a65c yJx4a65c_size_8abf5 yJx4a65c_size_8abf5, Cond.initialized RJx4a65c, Cond.code yJx4a65c_size_8abf5 cJx4a65c_size_8abf5 1 (some .int), Cond.fieldLink RJx4a65c 48 "java/util/ArrayList" "size" "I", Cond.methodLink RX1 65 yX1_find, Cond.instanceMethod yX1_find, Cond.selects RX1 yX1_find yX1_find, Cond.code yX1_find cX1_find 2 (some (.object "OrderRows2$Order")), Cond.classLink RX1 56 "OrderRows2$Order", Cond.methodLink RX1 123 yJx4a65c_get_915e3, Cond.instanceMethod yJx4a65c_get_915e3, Cond.selects RJx4a65c yJx4a65c_get_915e3 yJx4a65c_get_915e3, Cond.code yJx4a65c_get_915e3 cJx4a65c_get_915e3 2 (some (.object "java/lang/Object")), Cond.methodLink RJx4a65c 118 yJ15_checkIndex_7cf53, Cond.static yJ15_checkIndex_7cf53, Cond.initialized RJ15]
def wsX1_told_r2 : List Cond := [Cond.code yJ15_checkIndex_7cf53 cJ15_checkIndex_7cf53 2 (some .int), Cond.methodLink RJ15 105 yJ3_checkIndex_8e157, Cond.static yJ3_checkIndex_8e157, Cond.initialized RJ3, Cond.code yJ3_checkIndex_8e157 cJ3_checkIndex_8e157 3 (some .int), Cond.methodLink RJx4a65c 123 yJx4a65c_elementData_915e3, Cond.instanceMethod yJx4a65c_elementData_915e3, Cond.selects RJx4a65c yJx4a65c_elementData_915e3 yJx4a65c_elementData_915e3, Cond.code yJx4a65c_elementData_915e3 cJx4a65c_elementData_915e3 2 (some (.object "java/lang/Object")), Cond.fieldLink RJx4a65c 9 "java/util/ArrayList" "elementData" "[Ljava/lang/Object;", Cond.methodLink RX1 117 yX0_isToldTo, Cond.instanceMethod yX0_isToldTo, Cond.selects RX0 yX0_isToldTo yX0_isToldTo, Cond.initialized RX0, Cond.code yX0_isToldTo cX0_isToldTo 4 (some .boolean), Cond.fieldLink RX0 18 "OrderRows2$Order" "who" "I", Cond.fieldLink RX0 39 "OrderRows2$Order" "isProved" "Z", Cond.methodLink RX0 47 yX0_sendsOn, Cond.instanceMethod yX0_sendsOn, Cond.selects RX0 yX0_sendsOn yX0_sendsOn, Cond.code yX0_sendsOn cX0_sendsOn 1 (some .boolean), Cond.fieldLink RX0 9 "OrderRows2$Order" "kind" "I", Cond.static yX1_doneBy, Cond.code yX1_doneBy cX1_doneBy 1 (some .int)]
def wsX1_told_r3 : List Cond := [Cond.methodLink RX0 51 yX0_isInForce, Cond.instanceMethod yX0_isInForce, Cond.selects RX0 yX0_isInForce yX0_isInForce, Cond.code yX0_isInForce cX0_isInForce 3 (some .boolean), Cond.fieldLink RX0 24 "OrderRows2$Order" "from" "J", Cond.fieldLink RX0 28 "OrderRows2$Order" "until" "J", Cond.fieldLink RX0 36 "OrderRows2$Order" "overFrom" "J"]
def wsX1_told : List Cond := .code yX1_told cX1_told 6 (some .int) :: ((wsX1_told_r1 ++ (wsX1_told_r2 ++ wsX1_told_r3)) ++ wsX10 ++ wsJx4a65c0 ++ wsX00)
def wsX2_init : List Cond := .code yX2_init cX2_init 1 none :: ([.methodLink RX2 1 objectInit, .instanceMethod objectInit, .code objectInit ⟨#[0xb1]⟩ 1 none, .arrayClass .int, .fieldLink RX2 7 "OrderRows2Model" "kinds" "[I", .fieldLink RX2 13 "OrderRows2Model" "entries" "[I", .fieldLink RX2 16 "OrderRows2Model" "persons" "[I", .fieldLink RX2 19 "OrderRows2Model" "tos" "[I", .arrayClass .long, .fieldLink RX2 22 "OrderRows2Model" "froms" "[J", .fieldLink RX2 26 "OrderRows2Model" "untils" "[J", .fieldLink RX2 29 "OrderRows2Model" "made" "[J", .arrayClass .boolean, .fieldLink RX2 32 "OrderRows2Model" "proved" "[Z", .fieldLink RX2 36 "OrderRows2Model" "overs" "[J", .fieldLink RX2 39 "OrderRows2Model" "ranks" "[I", .fieldLink RX2 42 "OrderRows2Model" "way" "[I", .fieldLink RX2 45 "OrderRows2Model" "ring" "[I", .fieldLink RX2 48 "OrderRows2Model" "ringSize" "I"] ++ wsX20)
def wsX2_isIn : List Cond := .code yX2_isIn cX2_isIn 6 (some .boolean) :: ([])
def wsX2_isOrder : List Cond := .code yX2_isOrder cX2_isOrder 2 (some .boolean) :: ([.fieldLink RX2 55 "OrderRows2Model" "orders" "I", .methodLink RX2 58 yX2_isIn, .static yX2_isIn, .initialized RX2, .code yX2_isIn cX2_isIn 6 (some .boolean)] ++ wsX20)
def wsX2_isDay : List Cond := .code yX2_isDay cX2_isDay 3 (some .boolean) :: ([.fieldLink RX2 62 "OrderRows2Model" "now" "J", .constantLong RX2 66 (20000), .methodLink RX2 58 yX2_isIn, .static yX2_isIn, .initialized RX2, .code yX2_isIn cX2_isIn 6 (some .boolean)] ++ wsX20)
def wsX2_order : List Cond := .code yX2_order cX2_order 10 (some .int) :: ([.fieldLink RX2 52 "OrderRows2Model" "thrown" "I", .constantLong RX2 68 (99), .constantLong RX2 70 (-1), .constantLong RX2 72 (49), .constantLong RX2 74 (8), .constantLong RX2 66 (20000), .fieldLink RX2 55 "OrderRows2Model" "orders" "I", .fieldLink RX2 7 "OrderRows2Model" "kinds" "[I", .fieldLink RX2 13 "OrderRows2Model" "entries" "[I", .fieldLink RX2 16 "OrderRows2Model" "persons" "[I", .fieldLink RX2 19 "OrderRows2Model" "tos" "[I", .fieldLink RX2 22 "OrderRows2Model" "froms" "[J", .fieldLink RX2 26 "OrderRows2Model" "untils" "[J", .fieldLink RX2 29 "OrderRows2Model" "made" "[J", .fieldLink RX2 62 "OrderRows2Model" "now" "J", .fieldLink RX2 36 "OrderRows2Model" "overs" "[J", .methodLink RX2 58 yX2_isIn, .static yX2_isIn, .initialized RX2, .code yX2_isIn cX2_isIn 6 (some .boolean)] ++ wsX20)
def wsX2_set : List Cond := .code yX2_set cX2_set 5 (some .int) :: ([.fieldLink RX2 62 "OrderRows2Model" "now" "J", .fieldLink RX2 55 "OrderRows2Model" "orders" "I", .fieldLink RX2 32 "OrderRows2Model" "proved" "[Z", .fieldLink RX2 36 "OrderRows2Model" "overs" "[J", .fieldLink RX2 29 "OrderRows2Model" "made" "[J", .constantLong RX2 76 (14), .constantLong RX2 78 (15)] ++ wsX20)
def wsX2_proof_r1 : List Cond := [Cond.fieldLink RX2 52 "OrderRows2Model" "thrown" "I", Cond.fieldLink RX2 36 "OrderRows2Model" "overs" "[J", Cond.fieldLink RX2 32 "OrderRows2Model" "proved" "[Z", Cond.constantLong RX2 70 (-1), Cond.methodLink RX2 80 yX2_isOrder, Cond.instanceMethod yX2_isOrder, Cond.selects RX2 yX2_isOrder yX2_isOrder, Cond.initialized RX2, Cond.code yX2_isOrder cX2_isOrder 2 (some .boolean), Cond.fieldLink RX2 55 "OrderRows2Model" "orders" "I", Cond.methodLink RX2 58 yX2_isIn, Cond.static yX2_isIn, Cond.code yX2_isIn cX2_isIn 6 (some .boolean), Cond.methodLink RX2 84 yX2_isDay, Cond.instanceMethod yX2_isDay, Cond.selects RX2 yX2_isDay yX2_isDay, Cond.code yX2_isDay cX2_isDay 3 (some .boolean), Cond.fieldLink RX2 62 "OrderRows2Model" "now" "J", Cond.constantLong RX2 66 (20000), Cond.methodLink RX2 88 yX2_set, Cond.instanceMethod yX2_set, Cond.selects RX2 yX2_set yX2_set, Cond.code yX2_set cX2_set 5 (some .int), Cond.fieldLink RX2 29 "OrderRows2Model" "made" "[J"]
def wsX2_proof_r2 : List Cond := [Cond.constantLong RX2 76 (14), Cond.constantLong RX2 78 (15)]
def wsX2_proof : List Cond := .code yX2_proof cX2_proof 6 (some .int) :: ((wsX2_proof_r1 ++ wsX2_proof_r2) ++ wsX20)
def wsX2_withdraw_r1 : List Cond := [Cond.fieldLink RX2 52 "OrderRows2Model" "thrown" "I", Cond.fieldLink RX2 36 "OrderRows2Model" "overs" "[J", Cond.fieldLink RX2 22 "OrderRows2Model" "froms" "[J", Cond.fieldLink RX2 26 "OrderRows2Model" "untils" "[J", Cond.methodLink RX2 80 yX2_isOrder, Cond.instanceMethod yX2_isOrder, Cond.selects RX2 yX2_isOrder yX2_isOrder, Cond.initialized RX2, Cond.code yX2_isOrder cX2_isOrder 2 (some .boolean), Cond.fieldLink RX2 55 "OrderRows2Model" "orders" "I", Cond.methodLink RX2 58 yX2_isIn, Cond.static yX2_isIn, Cond.code yX2_isIn cX2_isIn 6 (some .boolean), Cond.methodLink RX2 84 yX2_isDay, Cond.instanceMethod yX2_isDay, Cond.selects RX2 yX2_isDay yX2_isDay, Cond.code yX2_isDay cX2_isDay 3 (some .boolean), Cond.fieldLink RX2 62 "OrderRows2Model" "now" "J", Cond.constantLong RX2 66 (20000), Cond.methodLink RX2 88 yX2_set, Cond.instanceMethod yX2_set, Cond.selects RX2 yX2_set yX2_set, Cond.code yX2_set cX2_set 5 (some .int), Cond.fieldLink RX2 32 "OrderRows2Model" "proved" "[Z"]
def wsX2_withdraw_r2 : List Cond := [Cond.fieldLink RX2 29 "OrderRows2Model" "made" "[J", Cond.constantLong RX2 76 (14), Cond.constantLong RX2 78 (15)]
def wsX2_withdraw : List Cond := .code yX2_withdraw cX2_withdraw 8 (some .int) :: ((wsX2_withdraw_r1 ++ wsX2_withdraw_r2) ++ wsX20)
def wsX2_isForce : List Cond := .code yX2_isForce cX2_isForce 4 (some .boolean) :: ([.fieldLink RX2 22 "OrderRows2Model" "froms" "[J", .fieldLink RX2 26 "OrderRows2Model" "untils" "[J", .fieldLink RX2 36 "OrderRows2Model" "overs" "[J", .methodLink RX2 58 yX2_isIn, .static yX2_isIn, .initialized RX2, .code yX2_isIn cX2_isIn 6 (some .boolean)] ++ wsX20)
def wsX2_find : List Cond := .code yX2_find cX2_find 9 (some .int) :: ([.fieldLink RX2 55 "OrderRows2Model" "orders" "I", .fieldLink RX2 13 "OrderRows2Model" "entries" "[I", .fieldLink RX2 16 "OrderRows2Model" "persons" "[I", .fieldLink RX2 7 "OrderRows2Model" "kinds" "[I", .fieldLink RX2 39 "OrderRows2Model" "ranks" "[I", .methodLink RX2 92 yX2_isForce, .instanceMethod yX2_isForce, .selects RX2 yX2_isForce yX2_isForce, .initialized RX2, .code yX2_isForce cX2_isForce 4 (some .boolean), .fieldLink RX2 22 "OrderRows2Model" "froms" "[J", .fieldLink RX2 26 "OrderRows2Model" "untils" "[J", .fieldLink RX2 36 "OrderRows2Model" "overs" "[J", .methodLink RX2 58 yX2_isIn, .static yX2_isIn, .code yX2_isIn cX2_isIn 6 (some .boolean)] ++ wsX20)
def wsX2_effective_r1 : List Cond := [Cond.fieldLink RX2 52 "OrderRows2Model" "thrown" "I", Cond.constantLong RX2 68 (99), Cond.constantLong RX2 72 (49), Cond.constantLong RX2 96 (2), Cond.constantLong RX2 66 (20000), Cond.fieldLink RX2 42 "OrderRows2Model" "way" "[I", Cond.fieldLink RX2 7 "OrderRows2Model" "kinds" "[I", Cond.fieldLink RX2 19 "OrderRows2Model" "tos" "[I", Cond.fieldLink RX2 48 "OrderRows2Model" "ringSize" "I", Cond.fieldLink RX2 45 "OrderRows2Model" "ring" "[I", Cond.methodLink RX2 58 yX2_isIn, Cond.static yX2_isIn, Cond.initialized RX2, Cond.code yX2_isIn cX2_isIn 6 (some .boolean), Cond.methodLink RX2 98 yX2_find, Cond.instanceMethod yX2_find, Cond.selects RX2 yX2_find yX2_find, Cond.code yX2_find cX2_find 9 (some .int), Cond.fieldLink RX2 55 "OrderRows2Model" "orders" "I", Cond.fieldLink RX2 13 "OrderRows2Model" "entries" "[I", Cond.fieldLink RX2 16 "OrderRows2Model" "persons" "[I", Cond.fieldLink RX2 39 "OrderRows2Model" "ranks" "[I", Cond.methodLink RX2 92 yX2_isForce, Cond.instanceMethod yX2_isForce]
def wsX2_effective_r2 : List Cond := [Cond.selects RX2 yX2_isForce yX2_isForce, Cond.code yX2_isForce cX2_isForce 4 (some .boolean), Cond.fieldLink RX2 22 "OrderRows2Model" "froms" "[J", Cond.fieldLink RX2 26 "OrderRows2Model" "untils" "[J", Cond.fieldLink RX2 36 "OrderRows2Model" "overs" "[J"]
def wsX2_effective : List Cond := .code yX2_effective cX2_effective 10 (some .int) :: ((wsX2_effective_r1 ++ wsX2_effective_r2) ++ wsX20)
def wsX2_ring : List Cond := .code yX2_ring cX2_ring 2 (some .int) :: ([.fieldLink RX2 52 "OrderRows2Model" "thrown" "I", .fieldLink RX2 48 "OrderRows2Model" "ringSize" "I", .fieldLink RX2 45 "OrderRows2Model" "ring" "[I"] ++ wsX20)
def wsX2_rank : List Cond := .code yX2_rank cX2_rank 4 (some .int) :: ([.fieldLink RX2 52 "OrderRows2Model" "thrown" "I", .constantLong RX2 74 (8), .constantLong RX2 102 (100), .fieldLink RX2 39 "OrderRows2Model" "ranks" "[I", .methodLink RX2 58 yX2_isIn, .static yX2_isIn, .initialized RX2, .code yX2_isIn cX2_isIn 6 (some .boolean)] ++ wsX20)
def wsX2_tick : List Cond := .code yX2_tick cX2_tick 3 (some .int) :: ([.fieldLink RX2 52 "OrderRows2Model" "thrown" "I", .methodLink RX2 84 yX2_isDay, .instanceMethod yX2_isDay, .selects RX2 yX2_isDay yX2_isDay, .initialized RX2, .code yX2_isDay cX2_isDay 3 (some .boolean), .fieldLink RX2 62 "OrderRows2Model" "now" "J", .constantLong RX2 66 (20000), .methodLink RX2 58 yX2_isIn, .static yX2_isIn, .code yX2_isIn cX2_isIn 6 (some .boolean), .methodLink RX2 88 yX2_set, .instanceMethod yX2_set, .selects RX2 yX2_set yX2_set, .code yX2_set cX2_set 5 (some .int), .fieldLink RX2 55 "OrderRows2Model" "orders" "I", .fieldLink RX2 32 "OrderRows2Model" "proved" "[Z", .fieldLink RX2 36 "OrderRows2Model" "overs" "[J", .fieldLink RX2 29 "OrderRows2Model" "made" "[J", .constantLong RX2 76 (14), .constantLong RX2 78 (15)] ++ wsX20)
def wsX2_extend : List Cond := .code yX2_extend cX2_extend 5 (some .int) :: ([.fieldLink RX2 52 "OrderRows2Model" "thrown" "I", .constantLong RX2 66 (20000), .fieldLink RX2 36 "OrderRows2Model" "overs" "[J", .fieldLink RX2 26 "OrderRows2Model" "untils" "[J", .methodLink RX2 80 yX2_isOrder, .instanceMethod yX2_isOrder, .selects RX2 yX2_isOrder yX2_isOrder, .initialized RX2, .code yX2_isOrder cX2_isOrder 2 (some .boolean), .fieldLink RX2 55 "OrderRows2Model" "orders" "I", .methodLink RX2 58 yX2_isIn, .static yX2_isIn, .code yX2_isIn cX2_isIn 6 (some .boolean)] ++ wsX20)
def wsX2_told : List Cond := .code yX2_told cX2_told 6 (some .int) :: ([.fieldLink RX2 52 "OrderRows2Model" "thrown" "I", .constantLong RX2 72 (49), .fieldLink RX2 55 "OrderRows2Model" "orders" "I", .fieldLink RX2 16 "OrderRows2Model" "persons" "[I", .fieldLink RX2 32 "OrderRows2Model" "proved" "[Z", .fieldLink RX2 7 "OrderRows2Model" "kinds" "[I", .fieldLink RX2 62 "OrderRows2Model" "now" "J", .methodLink RX2 58 yX2_isIn, .static yX2_isIn, .initialized RX2, .code yX2_isIn cX2_isIn 6 (some .boolean), .methodLink RX2 92 yX2_isForce, .instanceMethod yX2_isForce, .selects RX2 yX2_isForce yX2_isForce, .code yX2_isForce cX2_isForce 4 (some .boolean), .fieldLink RX2 22 "OrderRows2Model" "froms" "[J", .fieldLink RX2 26 "OrderRows2Model" "untils" "[J", .fieldLink RX2 36 "OrderRows2Model" "overs" "[J"] ++ wsX20)
def wsJ9_max_7cf53 : List Cond := .code yJ9_max_7cf53 cJ9_max_7cf53 2 (some .int) :: ([])
def wsJ9_max_f86c9 : List Cond := .code yJ9_max_f86c9 cJ9_max_f86c9 4 (some .long) :: ([])
def wsJ9_min_7cf53 : List Cond := .code yJ9_min_7cf53 cJ9_min_7cf53 2 (some .int) :: ([])
def wsL_law_r1 : List Cond := [Cond.classLink RL 7 RX1, Cond.instantiable RX1 6, Cond.initialized RX1, Cond.classLink RL 10 RX2, Cond.instantiable RX2 17, Cond.initialized RX2, Cond.constantLong RL 13 (4294967295), Cond.methodLink RL 9 yX1_init, Cond.instanceMethod yX1_init, Cond.code yX1_init cX1_init 1 none, Cond.methodLink RX1 1 objectInit, Cond.instanceMethod objectInit, Cond.code objectInit ⟨#[0xb1]⟩ 1 none, Cond.classLink RX1 7 RJx4a65c, Cond.instantiable RJx4a65c 3, Cond.initialized RJx4a65c, Cond.fieldLink RX1 10 "OrderRows2" "orders" "Ljava/util/ArrayList;", Cond.arrayClass .int, Cond.fieldLink RX1 16 "OrderRows2" "rankOfKind" "[I", Cond.fieldLink RX1 20 "OrderRows2" "path" "[I", Cond.fieldLink RX1 23 "OrderRows2" "ringTold" "[I", Cond.fieldLink RX1 26 "OrderRows2" "ringLength" "I", Cond.fieldLink RX1 30 "OrderRows2" "clock" "J", Cond.methodLink RX1 9 yJx4a65c_init_da8c8]
def wsL_law_r2 : List Cond := [Cond.instanceMethod yJx4a65c_init_da8c8, Cond.code yJx4a65c_init_da8c8 cJx4a65c_init_da8c8 1 none, Cond.fieldLink RJx4a65c 39 "java/util/ArrayList" "DEFAULTCAPACITY_EMPTY_ELEMENTDATA" "[Ljava/lang/Object;", Cond.fieldLink RJx4a65c 9 "java/util/ArrayList" "elementData" "[Ljava/lang/Object;", Cond.methodLink RJx4a65c 1 yJxc12de_init_da8c8, Cond.instanceMethod yJxc12de_init_da8c8, Cond.initialized RJxc12de, Cond.code yJxc12de_init_da8c8 cJxc12de_init_da8c8 1 none, Cond.fieldLink RJxc12de 7 "java/util/AbstractList" "modCount" "I", Cond.methodLink RJxc12de 1 yJxa1e45_init_da8c8, Cond.instanceMethod yJxa1e45_init_da8c8, Cond.initialized RJxa1e45, Cond.code yJxa1e45_init_da8c8 cJxa1e45_init_da8c8 1 none, Cond.methodLink RJxa1e45 1 objectInit, Cond.methodLink RL 12 yX2_init, Cond.instanceMethod yX2_init, Cond.code yX2_init cX2_init 1 none, Cond.methodLink RX2 1 objectInit, Cond.fieldLink RX2 7 "OrderRows2Model" "kinds" "[I", Cond.fieldLink RX2 13 "OrderRows2Model" "entries" "[I", Cond.fieldLink RX2 16 "OrderRows2Model" "persons" "[I", Cond.fieldLink RX2 19 "OrderRows2Model" "tos" "[I", Cond.arrayClass .long, Cond.fieldLink RX2 22 "OrderRows2Model" "froms" "[J"]
def wsL_law_r3 : List Cond := [Cond.fieldLink RX2 26 "OrderRows2Model" "untils" "[J", Cond.fieldLink RX2 29 "OrderRows2Model" "made" "[J", Cond.arrayClass .boolean, Cond.fieldLink RX2 32 "OrderRows2Model" "proved" "[Z", Cond.fieldLink RX2 36 "OrderRows2Model" "overs" "[J", Cond.fieldLink RX2 39 "OrderRows2Model" "ranks" "[I", Cond.fieldLink RX2 42 "OrderRows2Model" "way" "[I", Cond.fieldLink RX2 45 "OrderRows2Model" "ring" "[I", Cond.fieldLink RX2 48 "OrderRows2Model" "ringSize" "I", Cond.methodLink RL 15 yX1_order, Cond.instanceMethod yX1_order, Cond.selects RX1 yX1_order yX1_order, Cond.code yX1_order cX1_order 10 (some .int), Cond.classLink RX1 56 RX0, Cond.instantiable RX0 9, Cond.initialized RX0, Cond.methodLink RX1 34 yX1_isKind, Cond.static yX1_isKind, Cond.code yX1_isKind cX1_isKind 1 (some .boolean), Cond.methodLink RX1 38 yX1_doneBy, Cond.static yX1_doneBy, Cond.code yX1_doneBy cX1_doneBy 1 (some .int), Cond.methodLink RX1 42 yX1_isAddress, Cond.static yX1_isAddress]
def wsL_law_r4 : List Cond := [Cond.code yX1_isAddress cX1_isAddress 1 (some .boolean), Cond.methodLink RX1 45 yX1_isPerson, Cond.static yX1_isPerson, Cond.code yX1_isPerson cX1_isPerson 1 (some .boolean), Cond.methodLink RX1 48 yX1_isDay, Cond.static yX1_isDay, Cond.code yX1_isDay cX1_isDay 2 (some .boolean), Cond.constantLong RX1 121 (20000), Cond.methodLink RX1 52 yJx4a65c_size_8abf5, Cond.instanceMethod yJx4a65c_size_8abf5, Cond.selects RJx4a65c yJx4a65c_size_8abf5 yJx4a65c_size_8abf5, Cond.code yJx4a65c_size_8abf5 cJx4a65c_size_8abf5 1 (some .int), Cond.fieldLink RJx4a65c 48 "java/util/ArrayList" "size" "I", Cond.methodLink RX1 58 yX0_init, Cond.instanceMethod yX0_init, Cond.code yX0_init cX0_init 11 none, Cond.methodLink RX0 3 objectInit, Cond.fieldLink RX0 9 "OrderRows2$Order" "kind" "I", Cond.fieldLink RX0 15 "OrderRows2$Order" "entry" "I", Cond.fieldLink RX0 18 "OrderRows2$Order" "who" "I", Cond.fieldLink RX0 21 "OrderRows2$Order" "to" "I", Cond.fieldLink RX0 24 "OrderRows2$Order" "from" "J", Cond.fieldLink RX0 28 "OrderRows2$Order" "until" "J", Cond.fieldLink RX0 31 "OrderRows2$Order" "made" "J"]
def wsL_law_r5 : List Cond := [Cond.constantLong RX0 34 (20001), Cond.fieldLink RX0 36 "OrderRows2$Order" "overFrom" "J", Cond.fieldLink RX0 39 "OrderRows2$Order" "isProved" "Z", Cond.methodLink RX1 61 yJx4a65c_add_9ea2d, Cond.instanceMethod yJx4a65c_add_9ea2d, Cond.selects RJx4a65c yJx4a65c_add_9ea2d yJx4a65c_add_9ea2d, Cond.code yJx4a65c_add_9ea2d cJx4a65c_add_9ea2d 2 (some .boolean), Cond.fieldLink RJx4a65c 63 "java/util/ArrayList" "modCount" "I", Cond.sameField "java/util/ArrayList" "java/util/AbstractList" "modCount" "I", Cond.methodLink RJx4a65c 131 yJx4a65c_add_72be8, Cond.instanceMethod yJx4a65c_add_72be8, Cond.selects RJx4a65c yJx4a65c_add_72be8 yJx4a65c_add_72be8, Cond.code yJx4a65c_add_72be8 cJx4a65c_add_72be8 4 none, Cond.methodLink RJx4a65c 129 yJx4a65c_grow_d5877, Cond.instanceMethod yJx4a65c_grow_d5877, Cond.selects RJx4a65c yJx4a65c_grow_d5877 yJx4a65c_grow_d5877, Cond.code yJx4a65c_grow_d5877 cJx4a65c_grow_d5877 1 (some (.array (.object "java/lang/Object"))), Cond.methodLink RJx4a65c 69 yJx4a65c_grow_92f84, Cond.instanceMethod yJx4a65c_grow_92f84, Cond.selects RJx4a65c yJx4a65c_grow_92f84 yJx4a65c_grow_92f84, Cond.code yJx4a65c_grow_92f84 cJx4a65c_grow_92f84 4 (some (.array (.object "java/lang/Object"))), Cond.methodLink RJx4a65c 79 Lib.Math.max.name, Cond.static Lib.Math.max.name, Cond.initialized "java/lang/Math"]
def wsL_law_r6 : List Cond := [Cond.code Lib.Math.max.name Lib.Math.max.code 2 (some .int), Cond.classLink RJx4a65c 7 "java/lang/Object", Cond.methodLink RJx4a65c 73 yJ8_newLength_cabcc, Cond.static yJ8_newLength_cabcc, Cond.initialized RJ8, Cond.code yJ8_newLength_cabcc cJ8_newLength_cabcc 4 (some .int), Cond.methodLink RJ8 194 Lib.Math.max.name, Cond.constant RJ8 200 (2147483639), Cond.methodLink RJ8 201 yJ8_hugeLength_7cf53, Cond.static yJ8_hugeLength_7cf53, Cond.code yJ8_hugeLength_7cf53 cJ8_hugeLength_7cf53 3 (some .int), Cond.methodLink RJx4a65c 66 yJ7_copyOf_1904c, Cond.static yJ7_copyOf_1904c, Cond.initialized RJ7, Cond.code yJ7_copyOf_1904c cJ7_copyOf_1904c 2 (some (.array (.object "java/lang/Object"))), Cond.methodLink RJ7 86 ⟨"java/lang/Object", "getClass", "()Ljava/lang/Class;"⟩, Cond.selects "[Ljava/lang/Object;" ⟨"java/lang/Object", "getClass", "()Ljava/lang/Class;"⟩ ⟨"java/lang/Object", "getClass", "()Ljava/lang/Class;"⟩, Cond.instanceMethod ⟨"java/lang/Object", "getClass", "()Ljava/lang/Class;"⟩, Cond.native ⟨"java/lang/Object", "getClass", "()Ljava/lang/Class;"⟩, Cond.methodLink RJ7 300 yJ7_copyOf_6403c, Cond.static yJ7_copyOf_6403c, Cond.code yJ7_copyOf_6403c cJ7_copyOf_6403c 4 (some (.array (.object "java/lang/Object"))), Cond.classLink RJ7 110 "[Ljava/lang/Object;", Cond.classLink RJ7 2 "java/lang/Object"]
def wsL_law_r7 : List Cond := [Cond.methodLink RJ7 304 Lib.Math.min.name, Cond.static Lib.Math.min.name, Cond.code Lib.Math.min.name Lib.Math.min.code 2 (some .int), Cond.methodLink RJ7 150 arraycopyName, Cond.native arraycopyName, Cond.static arraycopyName, Cond.initialized "java/lang/System", Cond.methodLink RL 19 yX2_order, Cond.instanceMethod yX2_order, Cond.selects RX2 yX2_order yX2_order, Cond.code yX2_order cX2_order 10 (some .int), Cond.fieldLink RX2 52 "OrderRows2Model" "thrown" "I", Cond.constantLong RX2 68 (99), Cond.constantLong RX2 70 (-1), Cond.constantLong RX2 72 (49), Cond.constantLong RX2 74 (8), Cond.constantLong RX2 66 (20000), Cond.fieldLink RX2 55 "OrderRows2Model" "orders" "I", Cond.fieldLink RX2 62 "OrderRows2Model" "now" "J", Cond.methodLink RX2 58 yX2_isIn, Cond.static yX2_isIn, Cond.code yX2_isIn cX2_isIn 6 (some .boolean), Cond.methodLink RL 20 yX1_proof, Cond.instanceMethod yX1_proof]
def wsL_law_r8 : List Cond := [Cond.selects RX1 yX1_proof yX1_proof, Cond.code yX1_proof cX1_proof 6 (some .int), Cond.fieldLink RX1 80 "OrderRows2$Order" "isProved" "Z", Cond.fieldLink RX1 84 "OrderRows2$Order" "overFrom" "J", Cond.methodLink RX1 65 yX1_find, Cond.instanceMethod yX1_find, Cond.selects RX1 yX1_find yX1_find, Cond.code yX1_find cX1_find 2 (some (.object "OrderRows2$Order")), Cond.classLink RX1 56 "OrderRows2$Order", Cond.methodLink RX1 123 yJx4a65c_get_915e3, Cond.instanceMethod yJx4a65c_get_915e3, Cond.selects RJx4a65c yJx4a65c_get_915e3 yJx4a65c_get_915e3, Cond.code yJx4a65c_get_915e3 cJx4a65c_get_915e3 2 (some (.object "java/lang/Object")), Cond.methodLink RJx4a65c 118 yJ15_checkIndex_7cf53, Cond.static yJ15_checkIndex_7cf53, Cond.initialized RJ15, Cond.code yJ15_checkIndex_7cf53 cJ15_checkIndex_7cf53 2 (some .int), Cond.methodLink RJ15 105 yJ3_checkIndex_8e157, Cond.static yJ3_checkIndex_8e157, Cond.initialized RJ3, Cond.code yJ3_checkIndex_8e157 cJ3_checkIndex_8e157 3 (some .int), Cond.methodLink RJx4a65c 123 yJx4a65c_elementData_915e3, Cond.instanceMethod yJx4a65c_elementData_915e3, Cond.selects RJx4a65c yJx4a65c_elementData_915e3 yJx4a65c_elementData_915e3]
def wsL_law_r9 : List Cond := [Cond.code yJx4a65c_elementData_915e3 cJx4a65c_elementData_915e3 2 (some (.object "java/lang/Object")), Cond.methodLink RX1 69 yX1_canBeClock, Cond.instanceMethod yX1_canBeClock, Cond.selects RX1 yX1_canBeClock yX1_canBeClock, Cond.code yX1_canBeClock cX1_canBeClock 3 (some .boolean), Cond.methodLink RX1 72 yX1_moveClock, Cond.instanceMethod yX1_moveClock, Cond.selects RX1 yX1_moveClock yX1_moveClock, Cond.code yX1_moveClock cX1_moveClock 6 (some .int), Cond.methodLink RX1 127 yX0_lapseIfDue, Cond.instanceMethod yX0_lapseIfDue, Cond.selects RX0 yX0_lapseIfDue yX0_lapseIfDue, Cond.code yX0_lapseIfDue cX0_lapseIfDue 3 (some .boolean), Cond.constantLong RX0 64 (14), Cond.methodLink RX0 61 yX0_isOver, Cond.instanceMethod yX0_isOver, Cond.selects RX0 yX0_isOver yX0_isOver, Cond.code yX0_isOver cX0_isOver 1 (some .boolean), Cond.methodLink RX1 76 yX0_isOver, Cond.methodLink RL 24 yX2_proof, Cond.instanceMethod yX2_proof, Cond.selects RX2 yX2_proof yX2_proof, Cond.code yX2_proof cX2_proof 6 (some .int), Cond.methodLink RX2 80 yX2_isOrder]
def wsL_law_r10 : List Cond := [Cond.instanceMethod yX2_isOrder, Cond.selects RX2 yX2_isOrder yX2_isOrder, Cond.code yX2_isOrder cX2_isOrder 2 (some .boolean), Cond.methodLink RX2 84 yX2_isDay, Cond.instanceMethod yX2_isDay, Cond.selects RX2 yX2_isDay yX2_isDay, Cond.code yX2_isDay cX2_isDay 3 (some .boolean), Cond.methodLink RX2 88 yX2_set, Cond.instanceMethod yX2_set, Cond.selects RX2 yX2_set yX2_set, Cond.code yX2_set cX2_set 5 (some .int), Cond.constantLong RX2 76 (14), Cond.constantLong RX2 78 (15), Cond.methodLink RL 25 yX1_withdraw, Cond.instanceMethod yX1_withdraw, Cond.selects RX1 yX1_withdraw yX1_withdraw, Cond.code yX1_withdraw cX1_withdraw 5 (some .int), Cond.methodLink RX1 87 yX0_daysOfSpanFrom, Cond.instanceMethod yX0_daysOfSpanFrom, Cond.selects RX0 yX0_daysOfSpanFrom yX0_daysOfSpanFrom, Cond.code yX0_daysOfSpanFrom cX0_daysOfSpanFrom 5 (some .int), Cond.methodLink RX0 55 Lib.MathLoose.max_long.x, Cond.static Lib.MathLoose.max_long.x, Cond.code Lib.MathLoose.max_long.x Lib.MathLoose.max_long.code 4 (some .long)]
def wsL_law_r11 : List Cond := [Cond.methodLink RL 29 yX2_withdraw, Cond.instanceMethod yX2_withdraw, Cond.selects RX2 yX2_withdraw yX2_withdraw, Cond.code yX2_withdraw cX2_withdraw 8 (some .int), Cond.methodLink RL 30 yX1_effective, Cond.instanceMethod yX1_effective, Cond.selects RX1 yX1_effective yX1_effective, Cond.code yX1_effective cX1_effective 10 (some .int), Cond.fieldLink RX1 105 "OrderRows2$Order" "kind" "I", Cond.fieldLink RX1 108 "OrderRows2$Order" "to" "I", Cond.methodLink RX1 90 yX1_stepAt, Cond.instanceMethod yX1_stepAt, Cond.selects RX1 yX1_stepAt yX1_stepAt, Cond.code yX1_stepAt cX1_stepAt 4 (some .int), Cond.methodLink RX1 94 yX1_tellRing, Cond.instanceMethod yX1_tellRing, Cond.selects RX1 yX1_tellRing yX1_tellRing, Cond.code yX1_tellRing cX1_tellRing 4 none, Cond.methodLink RX1 137 Lib.Math.max.name, Cond.methodLink RX1 98 yX1_strongest, Cond.instanceMethod yX1_strongest, Cond.selects RX1 yX1_strongest yX1_strongest, Cond.code yX1_strongest cX1_strongest 9 (some (.object "OrderRows2$Order")), Cond.methodLink RX1 130 yX0_concerns]
def wsL_law_r12 : List Cond := [Cond.instanceMethod yX0_concerns, Cond.selects RX0 yX0_concerns yX0_concerns, Cond.code yX0_concerns cX0_concerns 4 (some .boolean), Cond.methodLink RX1 134 yX0_isInForce, Cond.instanceMethod yX0_isInForce, Cond.selects RX0 yX0_isInForce yX0_isInForce, Cond.code yX0_isInForce cX0_isInForce 3 (some .boolean), Cond.methodLink RX1 111 yX1_rankOf, Cond.instanceMethod yX1_rankOf, Cond.selects RX1 yX1_rankOf yX1_rankOf, Cond.code yX1_rankOf cX1_rankOf 2 (some .int), Cond.methodLink RX1 102 yX0_sendsOn, Cond.instanceMethod yX0_sendsOn, Cond.selects RX0 yX0_sendsOn yX0_sendsOn, Cond.code yX0_sendsOn cX0_sendsOn 1 (some .boolean), Cond.methodLink RL 34 yX2_effective, Cond.instanceMethod yX2_effective, Cond.selects RX2 yX2_effective yX2_effective, Cond.code yX2_effective cX2_effective 10 (some .int), Cond.constantLong RX2 96 (2), Cond.methodLink RX2 98 yX2_find, Cond.instanceMethod yX2_find, Cond.selects RX2 yX2_find yX2_find, Cond.code yX2_find cX2_find 9 (some .int)]
def wsL_law_r13 : List Cond := [Cond.methodLink RX2 92 yX2_isForce, Cond.instanceMethod yX2_isForce, Cond.selects RX2 yX2_isForce yX2_isForce, Cond.code yX2_isForce cX2_isForce 4 (some .boolean), Cond.methodLink RL 35 yX1_ring, Cond.instanceMethod yX1_ring, Cond.selects RX1 yX1_ring yX1_ring, Cond.code yX1_ring cX1_ring 2 (some .int), Cond.methodLink RL 39 yX2_ring, Cond.instanceMethod yX2_ring, Cond.selects RX2 yX2_ring yX2_ring, Cond.code yX2_ring cX2_ring 2 (some .int), Cond.methodLink RL 40 yX1_rank, Cond.instanceMethod yX1_rank, Cond.selects RX1 yX1_rank yX1_rank, Cond.code yX1_rank cX1_rank 4 (some .int), Cond.methodLink RL 44 yX2_rank, Cond.instanceMethod yX2_rank, Cond.selects RX2 yX2_rank yX2_rank, Cond.code yX2_rank cX2_rank 4 (some .int), Cond.constantLong RX2 102 (100), Cond.methodLink RL 45 yX1_tick, Cond.instanceMethod yX1_tick, Cond.selects RX1 yX1_tick yX1_tick]
def wsL_law_r14 : List Cond := [Cond.code yX1_tick cX1_tick 3 (some .int), Cond.methodLink RL 49 yX2_tick, Cond.instanceMethod yX2_tick, Cond.selects RX2 yX2_tick yX2_tick, Cond.code yX2_tick cX2_tick 3 (some .int), Cond.methodLink RL 50 yX1_extend, Cond.instanceMethod yX1_extend, Cond.selects RX1 yX1_extend yX1_extend, Cond.code yX1_extend cX1_extend 5 (some .int), Cond.fieldLink RX1 114 "OrderRows2$Order" "until" "J", Cond.methodLink RL 53 yX2_extend, Cond.instanceMethod yX2_extend, Cond.selects RX2 yX2_extend yX2_extend, Cond.code yX2_extend cX2_extend 5 (some .int), Cond.methodLink RL 54 yX1_told, Cond.instanceMethod yX1_told, Cond.selects RX1 yX1_told yX1_told, Cond.code yX1_told cX1_told 6 (some .int), Cond.methodLink RX1 117 yX0_isToldTo, Cond.instanceMethod yX0_isToldTo, Cond.selects RX0 yX0_isToldTo yX0_isToldTo, Cond.code yX0_isToldTo cX0_isToldTo 4 (some .boolean), Cond.methodLink RX0 47 yX0_sendsOn, Cond.methodLink RX0 51 yX0_isInForce]
def wsL_law_r15 : List Cond := [Cond.methodLink RL 57 yX2_told, Cond.instanceMethod yX2_told, Cond.selects RX2 yX2_told yX2_told, Cond.code yX2_told cX2_told 6 (some .int)]
def wsL_law : List Cond := (wsL_law_r1 ++ (wsL_law_r2 ++ (wsL_law_r3 ++ (wsL_law_r4 ++ (wsL_law_r5 ++ (wsL_law_r6 ++ (wsL_law_r7 ++ (wsL_law_r8 ++ (wsL_law_r9 ++ (wsL_law_r10 ++ (wsL_law_r11 ++ (wsL_law_r12 ++ (wsL_law_r13 ++ (wsL_law_r14 ++ wsL_law_r15)))))))))))))) ++ wsX10 ++ wsX20 ++ wsJx4a65c0 ++ wsX00 ++ ([] : List Cond)
set_option maxRecDepth 20000 in
theorem wsL_law_in : ∀ w ∈ wsL_law, w ∈ lw_tbl := fun w h => (goodIn_p wsL_law [32, 35, 40, 43, 46, 312, 85, 88, 91, 94, 97, 100, 105, 110, 149, 153, 157, 161, 167, 164, 171, 174, 185, 191, 370, 374, 200, 204, 208, 211, 214, 218, 222, 226, 230, 234, 382, 386, 390, 394, 240, 244, 247, 400, 251, 255, 259, 264, 268, 272, 276, 280, 404, 409, 413, 285, 417, 289, 421, 293, 426, 297, 430, 301, 305, 434] (by decide +kernel) (by decide +kernel) w h).1
theorem inlX0 : ∀ w ∈ wsX00, w ∈ wsL_law := fun _ h => List.mem_append_left _ (List.mem_append_right _ h)
theorem inX0 : ∀ w ∈ wsX00, w ∈ lw_tbl := fun w h => wsL_law_in w (inlX0 w h)
theorem inlX1 : ∀ w ∈ wsX10, w ∈ wsL_law := fun _ h => List.mem_append_left _ (List.mem_append_left _ (List.mem_append_left _ (List.mem_append_left _ (List.mem_append_right _ h))))
theorem inX1 : ∀ w ∈ wsX10, w ∈ lw_tbl := fun w h => wsL_law_in w (inlX1 w h)
theorem inlX2 : ∀ w ∈ wsX20, w ∈ wsL_law := fun _ h => List.mem_append_left _ (List.mem_append_left _ (List.mem_append_left _ (List.mem_append_right _ h)))
theorem inX2 : ∀ w ∈ wsX20, w ∈ lw_tbl := fun w h => wsL_law_in w (inlX2 w h)
theorem inJx145de : ∀ w ∈ wsJx145de0, w ∈ lw_tbl := by decide +kernel
theorem inJx8e188 : ∀ w ∈ wsJx8e1880, w ∈ lw_tbl := by decide +kernel
theorem inJxab1ab : ∀ w ∈ wsJxab1ab0, w ∈ lw_tbl := by decide +kernel
theorem inJ9 : ∀ w ∈ wsJ90, w ∈ lw_tbl := by decide +kernel
theorem inJ10 : ∀ w ∈ wsJ100, w ∈ lw_tbl := by decide +kernel
theorem inJxa1e45 : ∀ w ∈ wsJxa1e450, w ∈ lw_tbl := by decide +kernel
theorem inJxc12de : ∀ w ∈ wsJxc12de0, w ∈ lw_tbl := by decide +kernel
theorem inlJx4a65c : ∀ w ∈ wsJx4a65c0, w ∈ wsL_law := fun _ h => List.mem_append_left _ (List.mem_append_left _ (List.mem_append_right _ h))
theorem inJx4a65c : ∀ w ∈ wsJx4a65c0, w ∈ lw_tbl := fun w h => wsL_law_in w (inlJx4a65c w h)
theorem inJ7 : ∀ w ∈ wsJ70, w ∈ lw_tbl := by decide +kernel
theorem inJx5ef63 : ∀ w ∈ wsJx5ef630, w ∈ lw_tbl := by decide +kernel
theorem inJxbd725 : ∀ w ∈ wsJxbd7250, w ∈ lw_tbl := by decide +kernel
theorem inJ15 : ∀ w ∈ wsJ150, w ∈ lw_tbl := by decide +kernel
theorem inJxf0a74 : ∀ w ∈ wsJxf0a740, w ∈ lw_tbl := by decide +kernel
theorem inJxa66e6 : ∀ w ∈ wsJxa66e60, w ∈ lw_tbl := by decide +kernel
theorem inJ8 : ∀ w ∈ wsJ80, w ∈ lw_tbl := by decide +kernel
theorem inJ3 : ∀ w ∈ wsJ30, w ∈ lw_tbl := by decide +kernel
theorem dX0_init_0 : decode cX0_init 0 = .ok (.aload_n 0, 1) := by decide +kernel
theorem dX0_init_1 : decode cX0_init 1 = .ok (.invokespecial 3, 3) := by decide +kernel
theorem dX0_init_4 : decode cX0_init 4 = .ok (.aload_n 0, 1) := by decide +kernel
theorem dX0_init_5 : decode cX0_init 5 = .ok (.iload_n 1, 1) := by decide +kernel
theorem dX0_init_6 : decode cX0_init 6 = .ok (.putfield 9, 3) := by decide +kernel
theorem dX0_init_9 : decode cX0_init 9 = .ok (.aload_n 0, 1) := by decide +kernel
theorem dX0_init_10 : decode cX0_init 10 = .ok (.iload_n 2, 1) := by decide +kernel
theorem dX0_init_11 : decode cX0_init 11 = .ok (.putfield 15, 3) := by decide +kernel
theorem dX0_init_14 : decode cX0_init 14 = .ok (.aload_n 0, 1) := by decide +kernel
theorem dX0_init_15 : decode cX0_init 15 = .ok (.iload_n 3, 1) := by decide +kernel
theorem dX0_init_16 : decode cX0_init 16 = .ok (.putfield 18, 3) := by decide +kernel
theorem dX0_init_19 : decode cX0_init 19 = .ok (.aload_n 0, 1) := by decide +kernel
theorem dX0_init_20 : decode cX0_init 20 = .ok (.iload 4, 2) := by decide +kernel
theorem dX0_init_22 : decode cX0_init 22 = .ok (.putfield 21, 3) := by decide +kernel
theorem dX0_init_25 : decode cX0_init 25 = .ok (.aload_n 0, 1) := by decide +kernel
theorem dX0_init_26 : decode cX0_init 26 = .ok (.lload 5, 2) := by decide +kernel
theorem dX0_init_28 : decode cX0_init 28 = .ok (.putfield 24, 3) := by decide +kernel
theorem dX0_init_31 : decode cX0_init 31 = .ok (.aload_n 0, 1) := by decide +kernel
theorem dX0_init_32 : decode cX0_init 32 = .ok (.lload 7, 2) := by decide +kernel
theorem dX0_init_34 : decode cX0_init 34 = .ok (.putfield 28, 3) := by decide +kernel
theorem dX0_init_37 : decode cX0_init 37 = .ok (.aload_n 0, 1) := by decide +kernel
theorem dX0_init_38 : decode cX0_init 38 = .ok (.lload 9, 2) := by decide +kernel
theorem dX0_init_40 : decode cX0_init 40 = .ok (.putfield 31, 3) := by decide +kernel
theorem dX0_init_43 : decode cX0_init 43 = .ok (.aload_n 0, 1) := by decide +kernel
theorem dX0_init_44 : decode cX0_init 44 = .ok (.ldc2_w 34, 3) := by decide +kernel
theorem dX0_init_47 : decode cX0_init 47 = .ok (.putfield 36, 3) := by decide +kernel
theorem dX0_init_50 : decode cX0_init 50 = .ok (.aload_n 0, 1) := by decide +kernel
theorem dX0_init_51 : decode cX0_init 51 = .ok (.iconst 0, 1) := by decide +kernel
theorem dX0_init_52 : decode cX0_init 52 = .ok (.putfield 39, 3) := by decide +kernel
theorem dX0_init_55 : decode cX0_init 55 = .ok (.return_, 1) := by decide +kernel
theorem dX0_isOver_0 : decode cX0_isOver 0 = .ok (.aload_n 0, 1) := by decide +kernel
theorem dX0_isOver_1 : decode cX0_isOver 1 = .ok (.getfield 36, 3) := by decide +kernel
theorem dX0_isOver_4 : decode cX0_isOver 4 = .ok (.ldc2_w 34, 3) := by decide +kernel
theorem dX0_isOver_7 : decode cX0_isOver 7 = .ok (.lcmp, 1) := by decide +kernel
theorem dX0_isOver_8 : decode cX0_isOver 8 = .ok (.ifCond .eq 7, 3) := by decide +kernel
theorem dX0_isOver_11 : decode cX0_isOver 11 = .ok (.iconst 1, 1) := by decide +kernel
theorem dX0_isOver_12 : decode cX0_isOver 12 = .ok (.goto 4, 3) := by decide +kernel
theorem dX0_isOver_15 : decode cX0_isOver 15 = .ok (.iconst 0, 1) := by decide +kernel
theorem dX0_isOver_16 : decode cX0_isOver 16 = .ok (.ireturn, 1) := by decide +kernel
set_option maxRecDepth 20000 in
theorem ggX0_sendsOn_X1_doneBy : GoodIn wsX0_sendsOn wsX1_doneBy := goodIn_r _ [4] (by decide +kernel) (by decide +kernel)
set_option maxRecDepth 20000 in
theorem gX0_sendsOn_X1_doneBy_n43 : GoodIn wsX0_sendsOn (wsX1_doneBy) := ggX0_sendsOn_X1_doneBy
theorem dX0_sendsOn_0 : decode cX0_sendsOn 0 = .ok (.aload_n 0, 1) := by decide +kernel
theorem dX0_sendsOn_1 : decode cX0_sendsOn 1 = .ok (.getfield 9, 3) := by decide +kernel
theorem dX0_sendsOn_4 : decode cX0_sendsOn 4 = .ok (.invokestatic 43, 3) := by decide +kernel
theorem dX0_sendsOn_7 : decode cX0_sendsOn 7 = .ok (.ifCond .ne 7, 3) := by decide +kernel
theorem dX0_sendsOn_10 : decode cX0_sendsOn 10 = .ok (.iconst 1, 1) := by decide +kernel
theorem dX0_sendsOn_11 : decode cX0_sendsOn 11 = .ok (.goto 4, 3) := by decide +kernel
theorem dX0_sendsOn_14 : decode cX0_sendsOn 14 = .ok (.iconst 0, 1) := by decide +kernel
theorem dX0_sendsOn_15 : decode cX0_sendsOn 15 = .ok (.ireturn, 1) := by decide +kernel
theorem dX0_concerns_0 : decode cX0_concerns 0 = .ok (.aload_n 0, 1) := by decide +kernel
theorem dX0_concerns_1 : decode cX0_concerns 1 = .ok (.getfield 15, 3) := by decide +kernel
theorem dX0_concerns_4 : decode cX0_concerns 4 = .ok (.iload_n 1, 1) := by decide +kernel
theorem dX0_concerns_5 : decode cX0_concerns 5 = .ok (.if_icmp .ne 33, 3) := by decide +kernel
theorem dX0_concerns_8 : decode cX0_concerns 8 = .ok (.aload_n 0, 1) := by decide +kernel
theorem dX0_concerns_9 : decode cX0_concerns 9 = .ok (.getfield 18, 3) := by decide +kernel
theorem dX0_concerns_12 : decode cX0_concerns 12 = .ok (.iconst (-1), 1) := by decide +kernel
theorem dX0_concerns_13 : decode cX0_concerns 13 = .ok (.if_icmp .eq 11, 3) := by decide +kernel
theorem dX0_concerns_16 : decode cX0_concerns 16 = .ok (.aload_n 0, 1) := by decide +kernel
theorem dX0_concerns_17 : decode cX0_concerns 17 = .ok (.getfield 18, 3) := by decide +kernel
theorem dX0_concerns_20 : decode cX0_concerns 20 = .ok (.iload_n 2, 1) := by decide +kernel
theorem dX0_concerns_21 : decode cX0_concerns 21 = .ok (.if_icmp .ne 17, 3) := by decide +kernel
theorem dX0_concerns_24 : decode cX0_concerns 24 = .ok (.aload_n 0, 1) := by decide +kernel
theorem dX0_concerns_25 : decode cX0_concerns 25 = .ok (.getfield 9, 3) := by decide +kernel
theorem dX0_concerns_28 : decode cX0_concerns 28 = .ok (.iconst 3, 1) := by decide +kernel
theorem dX0_concerns_29 : decode cX0_concerns 29 = .ok (.irem, 1) := by decide +kernel
theorem dX0_concerns_30 : decode cX0_concerns 30 = .ok (.iload_n 3, 1) := by decide +kernel
theorem dX0_concerns_31 : decode cX0_concerns 31 = .ok (.if_icmp .ne 7, 3) := by decide +kernel
theorem dX0_concerns_34 : decode cX0_concerns 34 = .ok (.iconst 1, 1) := by decide +kernel
theorem dX0_concerns_35 : decode cX0_concerns 35 = .ok (.goto 4, 3) := by decide +kernel
theorem dX0_concerns_38 : decode cX0_concerns 38 = .ok (.iconst 0, 1) := by decide +kernel
theorem dX0_concerns_39 : decode cX0_concerns 39 = .ok (.ireturn, 1) := by decide +kernel
set_option maxRecDepth 20000 in
theorem ggX0_isToldTo_X0_sendsOn : GoodIn wsX0_isToldTo wsX0_sendsOn := goodIn_r _ [7, 8, 9, 10, 11, 19, 20, 21, 22, 23, 24, 25, 26, 27] (by decide +kernel) (by decide +kernel)
set_option maxRecDepth 20000 in
theorem gX0_isToldTo_X0_sendsOn : GoodIn wsX0_isToldTo (wsV RX0 47 RX0 yX0_sendsOn wsX0_sendsOn) := goodIn_app (goodIn_of _ (by decide +kernel)) ggX0_isToldTo_X0_sendsOn
set_option maxRecDepth 20000 in
theorem ggX0_isToldTo_X0_isInForce : GoodIn wsX0_isToldTo wsX0_isInForce := goodIn_r _ [15, 16, 17, 18, 19, 20, 21, 22, 23, 24, 25, 26, 27] (by decide +kernel) (by decide +kernel)
set_option maxRecDepth 20000 in
theorem gX0_isToldTo_X0_isInForce : GoodIn wsX0_isToldTo (wsV RX0 51 RX0 yX0_isInForce wsX0_isInForce) := goodIn_app (goodIn_of _ (by decide +kernel)) ggX0_isToldTo_X0_isInForce
theorem dX0_isToldTo_0 : decode cX0_isToldTo 0 = .ok (.aload_n 0, 1) := by decide +kernel
theorem dX0_isToldTo_1 : decode cX0_isToldTo 1 = .ok (.getfield 18, 3) := by decide +kernel
theorem dX0_isToldTo_4 : decode cX0_isToldTo 4 = .ok (.iload_n 1, 1) := by decide +kernel
theorem dX0_isToldTo_5 : decode cX0_isToldTo 5 = .ok (.if_icmp .ne 29, 3) := by decide +kernel
theorem dX0_isToldTo_8 : decode cX0_isToldTo 8 = .ok (.aload_n 0, 1) := by decide +kernel
theorem dX0_isToldTo_9 : decode cX0_isToldTo 9 = .ok (.getfield 39, 3) := by decide +kernel
theorem dX0_isToldTo_12 : decode cX0_isToldTo 12 = .ok (.ifCond .eq 22, 3) := by decide +kernel
theorem dX0_isToldTo_15 : decode cX0_isToldTo 15 = .ok (.aload_n 0, 1) := by decide +kernel
theorem dX0_isToldTo_16 : decode cX0_isToldTo 16 = .ok (.invokevirtual 47, 3) := by decide +kernel
theorem dX0_isToldTo_19 : decode cX0_isToldTo 19 = .ok (.ifCond .eq 15, 3) := by decide +kernel
theorem dX0_isToldTo_22 : decode cX0_isToldTo 22 = .ok (.aload_n 0, 1) := by decide +kernel
theorem dX0_isToldTo_23 : decode cX0_isToldTo 23 = .ok (.lload_n 2, 1) := by decide +kernel
theorem dX0_isToldTo_24 : decode cX0_isToldTo 24 = .ok (.invokevirtual 51, 3) := by decide +kernel
theorem dX0_isToldTo_27 : decode cX0_isToldTo 27 = .ok (.ifCond .eq 7, 3) := by decide +kernel
theorem dX0_isToldTo_30 : decode cX0_isToldTo 30 = .ok (.iconst 1, 1) := by decide +kernel
theorem dX0_isToldTo_31 : decode cX0_isToldTo 31 = .ok (.goto 4, 3) := by decide +kernel
theorem dX0_isToldTo_34 : decode cX0_isToldTo 34 = .ok (.iconst 0, 1) := by decide +kernel
theorem dX0_isToldTo_35 : decode cX0_isToldTo 35 = .ok (.ireturn, 1) := by decide +kernel
theorem dX0_isInForce_0 : decode cX0_isInForce 0 = .ok (.aload_n 0, 1) := by decide +kernel
theorem dX0_isInForce_1 : decode cX0_isInForce 1 = .ok (.getfield 24, 3) := by decide +kernel
theorem dX0_isInForce_4 : decode cX0_isInForce 4 = .ok (.lload_n 1, 1) := by decide +kernel
theorem dX0_isInForce_5 : decode cX0_isInForce 5 = .ok (.lcmp, 1) := by decide +kernel
theorem dX0_isInForce_6 : decode cX0_isInForce 6 = .ok (.ifCond .gt 25, 3) := by decide +kernel
theorem dX0_isInForce_9 : decode cX0_isInForce 9 = .ok (.lload_n 1, 1) := by decide +kernel
theorem dX0_isInForce_10 : decode cX0_isInForce 10 = .ok (.aload_n 0, 1) := by decide +kernel
theorem dX0_isInForce_11 : decode cX0_isInForce 11 = .ok (.getfield 28, 3) := by decide +kernel
theorem dX0_isInForce_14 : decode cX0_isInForce 14 = .ok (.lcmp, 1) := by decide +kernel
theorem dX0_isInForce_15 : decode cX0_isInForce 15 = .ok (.ifCond .gt 16, 3) := by decide +kernel
theorem dX0_isInForce_18 : decode cX0_isInForce 18 = .ok (.lload_n 1, 1) := by decide +kernel
theorem dX0_isInForce_19 : decode cX0_isInForce 19 = .ok (.aload_n 0, 1) := by decide +kernel
theorem dX0_isInForce_20 : decode cX0_isInForce 20 = .ok (.getfield 36, 3) := by decide +kernel
theorem dX0_isInForce_23 : decode cX0_isInForce 23 = .ok (.lcmp, 1) := by decide +kernel
theorem dX0_isInForce_24 : decode cX0_isInForce 24 = .ok (.ifCond .ge 7, 3) := by decide +kernel
theorem dX0_isInForce_27 : decode cX0_isInForce 27 = .ok (.iconst 1, 1) := by decide +kernel
theorem dX0_isInForce_28 : decode cX0_isInForce 28 = .ok (.goto 4, 3) := by decide +kernel
theorem dX0_isInForce_31 : decode cX0_isInForce 31 = .ok (.iconst 0, 1) := by decide +kernel
theorem dX0_isInForce_32 : decode cX0_isInForce 32 = .ok (.ireturn, 1) := by decide +kernel
theorem dX0_daysOfSpanFrom_0 : decode cX0_daysOfSpanFrom 0 = .ok (.aload_n 0, 1) := by decide +kernel
theorem dX0_daysOfSpanFrom_1 : decode cX0_daysOfSpanFrom 1 = .ok (.getfield 24, 3) := by decide +kernel
theorem dX0_daysOfSpanFrom_4 : decode cX0_daysOfSpanFrom 4 = .ok (.lload_n 1, 1) := by decide +kernel
theorem dX0_daysOfSpanFrom_5 : decode cX0_daysOfSpanFrom 5 = .ok (.invokestatic 55, 3) := by decide +kernel
theorem dX0_daysOfSpanFrom_8 : decode cX0_daysOfSpanFrom 8 = .ok (.lstore_n 3, 1) := by decide +kernel
theorem dX0_daysOfSpanFrom_9 : decode cX0_daysOfSpanFrom 9 = .ok (.lload_n 3, 1) := by decide +kernel
theorem dX0_daysOfSpanFrom_10 : decode cX0_daysOfSpanFrom 10 = .ok (.aload_n 0, 1) := by decide +kernel
theorem dX0_daysOfSpanFrom_11 : decode cX0_daysOfSpanFrom 11 = .ok (.getfield 28, 3) := by decide +kernel
theorem dX0_daysOfSpanFrom_14 : decode cX0_daysOfSpanFrom 14 = .ok (.lcmp, 1) := by decide +kernel
theorem dX0_daysOfSpanFrom_15 : decode cX0_daysOfSpanFrom 15 = .ok (.ifCond .le 7, 3) := by decide +kernel
theorem dX0_daysOfSpanFrom_18 : decode cX0_daysOfSpanFrom 18 = .ok (.iconst 0, 1) := by decide +kernel
theorem dX0_daysOfSpanFrom_19 : decode cX0_daysOfSpanFrom 19 = .ok (.goto 12, 3) := by decide +kernel
theorem dX0_daysOfSpanFrom_22 : decode cX0_daysOfSpanFrom 22 = .ok (.aload_n 0, 1) := by decide +kernel
theorem dX0_daysOfSpanFrom_23 : decode cX0_daysOfSpanFrom 23 = .ok (.getfield 28, 3) := by decide +kernel
theorem dX0_daysOfSpanFrom_26 : decode cX0_daysOfSpanFrom 26 = .ok (.lload_n 3, 1) := by decide +kernel
theorem dX0_daysOfSpanFrom_27 : decode cX0_daysOfSpanFrom 27 = .ok (.lsub, 1) := by decide +kernel
theorem dX0_daysOfSpanFrom_28 : decode cX0_daysOfSpanFrom 28 = .ok (.lconst 1, 1) := by decide +kernel
theorem dX0_daysOfSpanFrom_29 : decode cX0_daysOfSpanFrom 29 = .ok (.ladd, 1) := by decide +kernel
theorem dX0_daysOfSpanFrom_30 : decode cX0_daysOfSpanFrom 30 = .ok (.l2i, 1) := by decide +kernel
theorem dX0_daysOfSpanFrom_31 : decode cX0_daysOfSpanFrom 31 = .ok (.ireturn, 1) := by decide +kernel
set_option maxRecDepth 20000 in
theorem ggX0_lapseIfDue_X0_isOver : GoodIn wsX0_lapseIfDue wsX0_isOver := goodIn_r _ [9, 4, 10, 11, 12, 13, 14, 15, 16, 17, 18, 19] (by decide +kernel) (by decide +kernel)
set_option maxRecDepth 20000 in
theorem gX0_lapseIfDue_X0_isOver : GoodIn wsX0_lapseIfDue (wsV RX0 61 RX0 yX0_isOver wsX0_isOver) := goodIn_app (goodIn_of _ (by decide +kernel)) ggX0_lapseIfDue_X0_isOver
theorem dX0_lapseIfDue_0 : decode cX0_lapseIfDue 0 = .ok (.aload_n 0, 1) := by decide +kernel
theorem dX0_lapseIfDue_1 : decode cX0_lapseIfDue 1 = .ok (.getfield 39, 3) := by decide +kernel
theorem dX0_lapseIfDue_4 : decode cX0_lapseIfDue 4 = .ok (.ifCond .ne 23, 3) := by decide +kernel
theorem dX0_lapseIfDue_7 : decode cX0_lapseIfDue 7 = .ok (.aload_n 0, 1) := by decide +kernel
theorem dX0_lapseIfDue_8 : decode cX0_lapseIfDue 8 = .ok (.invokevirtual 61, 3) := by decide +kernel
theorem dX0_lapseIfDue_11 : decode cX0_lapseIfDue 11 = .ok (.ifCond .ne 16, 3) := by decide +kernel
theorem dX0_lapseIfDue_14 : decode cX0_lapseIfDue 14 = .ok (.lload_n 1, 1) := by decide +kernel
theorem dX0_lapseIfDue_15 : decode cX0_lapseIfDue 15 = .ok (.aload_n 0, 1) := by decide +kernel
theorem dX0_lapseIfDue_16 : decode cX0_lapseIfDue 16 = .ok (.getfield 31, 3) := by decide +kernel
theorem dX0_lapseIfDue_19 : decode cX0_lapseIfDue 19 = .ok (.ldc2_w 64, 3) := by decide +kernel
theorem dX0_lapseIfDue_22 : decode cX0_lapseIfDue 22 = .ok (.ladd, 1) := by decide +kernel
theorem dX0_lapseIfDue_23 : decode cX0_lapseIfDue 23 = .ok (.lcmp, 1) := by decide +kernel
theorem dX0_lapseIfDue_24 : decode cX0_lapseIfDue 24 = .ok (.ifCond .gt 5, 3) := by decide +kernel
theorem dX0_lapseIfDue_27 : decode cX0_lapseIfDue 27 = .ok (.iconst 0, 1) := by decide +kernel
theorem dX0_lapseIfDue_28 : decode cX0_lapseIfDue 28 = .ok (.ireturn, 1) := by decide +kernel
theorem dX0_lapseIfDue_29 : decode cX0_lapseIfDue 29 = .ok (.aload_n 0, 1) := by decide +kernel
theorem dX0_lapseIfDue_30 : decode cX0_lapseIfDue 30 = .ok (.aload_n 0, 1) := by decide +kernel
theorem dX0_lapseIfDue_31 : decode cX0_lapseIfDue 31 = .ok (.getfield 31, 3) := by decide +kernel
theorem dX0_lapseIfDue_34 : decode cX0_lapseIfDue 34 = .ok (.ldc2_w 64, 3) := by decide +kernel
theorem dX0_lapseIfDue_37 : decode cX0_lapseIfDue 37 = .ok (.ladd, 1) := by decide +kernel
theorem dX0_lapseIfDue_38 : decode cX0_lapseIfDue 38 = .ok (.lconst 1, 1) := by decide +kernel
theorem dX0_lapseIfDue_39 : decode cX0_lapseIfDue 39 = .ok (.ladd, 1) := by decide +kernel
theorem dX0_lapseIfDue_40 : decode cX0_lapseIfDue 40 = .ok (.putfield 36, 3) := by decide +kernel
theorem dX0_lapseIfDue_43 : decode cX0_lapseIfDue 43 = .ok (.iconst 1, 1) := by decide +kernel
theorem dX0_lapseIfDue_44 : decode cX0_lapseIfDue 44 = .ok (.ireturn, 1) := by decide +kernel
set_option maxRecDepth 20000 in
theorem ggX1_init_Jx4a65c_init_da8c8 : GoodIn wsX1_init wsJx4a65c_init_da8c8 := goodIn_r _ [16, 17, 18, 19, 20, 21, 22, 23, 24, 25, 26, 27, 28, 2, 3, 29, 30, 31] (by decide +kernel) (by decide +kernel)
set_option maxRecDepth 20000 in
theorem gX1_init_Jx4a65c_init_da8c8 : GoodIn wsX1_init (wsJx4a65c_init_da8c8) := ggX1_init_Jx4a65c_init_da8c8
theorem dX1_init_0 : decode cX1_init 0 = .ok (.aload_n 0, 1) := by decide +kernel
theorem dX1_init_1 : decode cX1_init 1 = .ok (.invokespecial 1, 3) := by decide +kernel
theorem dX1_init_4 : decode cX1_init 4 = .ok (.aload_n 0, 1) := by decide +kernel
theorem dX1_init_5 : decode cX1_init 5 = .ok (.new 7, 3) := by decide +kernel
theorem dX1_init_8 : decode cX1_init 8 = .ok (.dup, 1) := by decide +kernel
theorem dX1_init_9 : decode cX1_init 9 = .ok (.invokespecial 9, 3) := by decide +kernel
theorem dX1_init_12 : decode cX1_init 12 = .ok (.putfield 10, 3) := by decide +kernel
theorem dX1_init_15 : decode cX1_init 15 = .ok (.aload_n 0, 1) := by decide +kernel
theorem dX1_init_16 : decode cX1_init 16 = .ok (.bipush 9, 2) := by decide +kernel
theorem dX1_init_18 : decode cX1_init 18 = .ok (.newarray .int, 2) := by decide +kernel
theorem dX1_init_20 : decode cX1_init 20 = .ok (.putfield 16, 3) := by decide +kernel
theorem dX1_init_23 : decode cX1_init 23 = .ok (.aload_n 0, 1) := by decide +kernel
theorem dX1_init_24 : decode cX1_init 24 = .ok (.bipush 100, 2) := by decide +kernel
theorem dX1_init_26 : decode cX1_init 26 = .ok (.newarray .int, 2) := by decide +kernel
theorem dX1_init_28 : decode cX1_init 28 = .ok (.putfield 20, 3) := by decide +kernel
theorem dX1_init_31 : decode cX1_init 31 = .ok (.aload_n 0, 1) := by decide +kernel
theorem dX1_init_32 : decode cX1_init 32 = .ok (.bipush 99, 2) := by decide +kernel
theorem dX1_init_34 : decode cX1_init 34 = .ok (.newarray .int, 2) := by decide +kernel
theorem dX1_init_36 : decode cX1_init 36 = .ok (.putfield 23, 3) := by decide +kernel
theorem dX1_init_39 : decode cX1_init 39 = .ok (.aload_n 0, 1) := by decide +kernel
theorem dX1_init_40 : decode cX1_init 40 = .ok (.iconst 0, 1) := by decide +kernel
theorem dX1_init_41 : decode cX1_init 41 = .ok (.putfield 26, 3) := by decide +kernel
theorem dX1_init_44 : decode cX1_init 44 = .ok (.aload_n 0, 1) := by decide +kernel
theorem dX1_init_45 : decode cX1_init 45 = .ok (.lconst 0, 1) := by decide +kernel
theorem dX1_init_46 : decode cX1_init 46 = .ok (.putfield 30, 3) := by decide +kernel
theorem dX1_init_49 : decode cX1_init 49 = .ok (.return_, 1) := by decide +kernel
set_option maxRecDepth 20000 in
theorem ggX1_order_X1_isKind : GoodIn wsX1_order wsX1_isKind := goodIn_r _ [9] (by decide +kernel) (by decide +kernel)
set_option maxRecDepth 20000 in
theorem gX1_order_X1_isKind : GoodIn wsX1_order (va_wsS RX1 34 yX1_isKind wsX1_isKind) := goodIn_app (goodIn_of _ (by decide +kernel)) ggX1_order_X1_isKind
set_option maxRecDepth 20000 in
theorem ggX1_order_X1_doneBy : GoodIn wsX1_order wsX1_doneBy := goodIn_r _ [12] (by decide +kernel) (by decide +kernel)
set_option maxRecDepth 20000 in
theorem gX1_order_X1_doneBy : GoodIn wsX1_order (va_wsS RX1 38 yX1_doneBy wsX1_doneBy) := goodIn_app (goodIn_of _ (by decide +kernel)) ggX1_order_X1_doneBy
set_option maxRecDepth 20000 in
theorem ggX1_order_X1_isAddress : GoodIn wsX1_order wsX1_isAddress := goodIn_r _ [15] (by decide +kernel) (by decide +kernel)
set_option maxRecDepth 20000 in
theorem gX1_order_X1_isAddress : GoodIn wsX1_order (va_wsS RX1 42 yX1_isAddress wsX1_isAddress) := goodIn_app (goodIn_of _ (by decide +kernel)) ggX1_order_X1_isAddress
set_option maxRecDepth 20000 in
theorem ggX1_order_X1_isPerson : GoodIn wsX1_order wsX1_isPerson := goodIn_r _ [18] (by decide +kernel) (by decide +kernel)
set_option maxRecDepth 20000 in
theorem gX1_order_X1_isPerson : GoodIn wsX1_order (va_wsS RX1 45 yX1_isPerson wsX1_isPerson) := goodIn_app (goodIn_of _ (by decide +kernel)) ggX1_order_X1_isPerson
set_option maxRecDepth 20000 in
theorem ggX1_order_X1_isDay : GoodIn wsX1_order wsX1_isDay := goodIn_r _ [21, 22] (by decide +kernel) (by decide +kernel)
set_option maxRecDepth 20000 in
theorem gX1_order_X1_isDay : GoodIn wsX1_order (va_wsS RX1 48 yX1_isDay wsX1_isDay) := goodIn_app (goodIn_of _ (by decide +kernel)) ggX1_order_X1_isDay
set_option maxRecDepth 20000 in
theorem ggX1_order_Jx4a65c_size_8abf5 : GoodIn wsX1_order wsJx4a65c_size_8abf5 := goodIn_r _ [27, 28, 114, 115, 116] (by decide +kernel) (by decide +kernel)
set_option maxRecDepth 20000 in
theorem gX1_order_Jx4a65c_size_8abf5 : GoodIn wsX1_order (wsV RX1 52 RJx4a65c yJx4a65c_size_8abf5 wsJx4a65c_size_8abf5) := goodIn_app (goodIn_of _ (by decide +kernel)) ggX1_order_Jx4a65c_size_8abf5
set_option maxRecDepth 20000 in
theorem ggX1_order_X0_init : GoodIn wsX1_order wsX0_init := goodIn_r _ [31, 32, 33, 34, 35, 36, 37, 38, 39, 40, 41, 42, 43, 44, 105, 106, 107, 108, 109, 110, 111, 112, 113] (by decide +kernel) (by decide +kernel)
set_option maxRecDepth 20000 in
theorem gX1_order_X0_init : GoodIn wsX1_order (wsX0_init) := ggX1_order_X0_init
set_option maxRecDepth 20000 in
theorem ggX1_order_Jx4a65c_add_9ea2d : GoodIn wsX1_order wsJx4a65c_add_9ea2d := goodIn_r _ [48, 49, 50, 51, 28, 52, 53, 54, 26, 55, 56, 57, 58, 59, 60, 61, 62, 63, 64, 65, 66, 67, 68, 69, 70, 71, 72, 73, 74, 75, 76, 77, 78, 79, 80, 81, 82, 83, 84, 85, 86, 87, 88, 89, 90, 91, 92, 93, 94, 95, 96, 97, 98, 114, 115, 116] (by decide +kernel) (by decide +kernel)
set_option maxRecDepth 20000 in
theorem gX1_order_Jx4a65c_add_9ea2d : GoodIn wsX1_order (wsV RX1 61 RJx4a65c yJx4a65c_add_9ea2d wsJx4a65c_add_9ea2d) := goodIn_app (goodIn_of _ (by decide +kernel)) ggX1_order_Jx4a65c_add_9ea2d
theorem dX1_order_0 : decode cX1_order 0 = .ok (.iload_n 1, 1) := by decide +kernel
theorem dX1_order_1 : decode cX1_order 1 = .ok (.invokestatic 34, 3) := by decide +kernel
theorem dX1_order_4 : decode cX1_order 4 = .ok (.ifCond .eq 14, 3) := by decide +kernel
theorem dX1_order_7 : decode cX1_order 7 = .ok (.iload_n 1, 1) := by decide +kernel
theorem dX1_order_8 : decode cX1_order 8 = .ok (.invokestatic 38, 3) := by decide +kernel
theorem dX1_order_11 : decode cX1_order 11 = .ok (.ifCond .ne 7, 3) := by decide +kernel
theorem dX1_order_14 : decode cX1_order 14 = .ok (.iconst 1, 1) := by decide +kernel
theorem dX1_order_15 : decode cX1_order 15 = .ok (.goto 4, 3) := by decide +kernel
theorem dX1_order_18 : decode cX1_order 18 = .ok (.iconst 0, 1) := by decide +kernel
theorem dX1_order_19 : decode cX1_order 19 = .ok (.istore 9, 2) := by decide +kernel
theorem dX1_order_21 : decode cX1_order 21 = .ok (.iload_n 2, 1) := by decide +kernel
theorem dX1_order_22 : decode cX1_order 22 = .ok (.invokestatic 42, 3) := by decide +kernel
theorem dX1_order_25 : decode cX1_order 25 = .ok (.ifCond .eq 28, 3) := by decide +kernel
theorem dX1_order_28 : decode cX1_order 28 = .ok (.iload_n 3, 1) := by decide +kernel
theorem dX1_order_29 : decode cX1_order 29 = .ok (.iconst (-1), 1) := by decide +kernel
theorem dX1_order_30 : decode cX1_order 30 = .ok (.if_icmp .eq 10, 3) := by decide +kernel
theorem dX1_order_33 : decode cX1_order 33 = .ok (.iload_n 3, 1) := by decide +kernel
theorem dX1_order_34 : decode cX1_order 34 = .ok (.invokestatic 45, 3) := by decide +kernel
theorem dX1_order_37 : decode cX1_order 37 = .ok (.ifCond .eq 16, 3) := by decide +kernel
theorem dX1_order_40 : decode cX1_order 40 = .ok (.iload 9, 2) := by decide +kernel
theorem dX1_order_42 : decode cX1_order 42 = .ok (.ifCond .eq 14, 3) := by decide +kernel
theorem dX1_order_45 : decode cX1_order 45 = .ok (.iload 4, 2) := by decide +kernel
theorem dX1_order_47 : decode cX1_order 47 = .ok (.invokestatic 42, 3) := by decide +kernel
theorem dX1_order_50 : decode cX1_order 50 = .ok (.ifCond .ne 6, 3) := by decide +kernel
theorem dX1_order_53 : decode cX1_order 53 = .ok (.bipush (-101), 2) := by decide +kernel
theorem dX1_order_55 : decode cX1_order 55 = .ok (.ireturn, 1) := by decide +kernel
theorem dX1_order_56 : decode cX1_order 56 = .ok (.iload_n 1, 1) := by decide +kernel
theorem dX1_order_57 : decode cX1_order 57 = .ok (.invokestatic 34, 3) := by decide +kernel
theorem dX1_order_60 : decode cX1_order 60 = .ok (.ifCond .eq 38, 3) := by decide +kernel
theorem dX1_order_63 : decode cX1_order 63 = .ok (.lload 5, 2) := by decide +kernel
theorem dX1_order_65 : decode cX1_order 65 = .ok (.invokestatic 48, 3) := by decide +kernel
theorem dX1_order_68 : decode cX1_order 68 = .ok (.ifCond .eq 30, 3) := by decide +kernel
theorem dX1_order_71 : decode cX1_order 71 = .ok (.lload 7, 2) := by decide +kernel
theorem dX1_order_73 : decode cX1_order 73 = .ok (.invokestatic 48, 3) := by decide +kernel
theorem dX1_order_76 : decode cX1_order 76 = .ok (.ifCond .eq 22, 3) := by decide +kernel
theorem dX1_order_79 : decode cX1_order 79 = .ok (.lload 7, 2) := by decide +kernel
theorem dX1_order_81 : decode cX1_order 81 = .ok (.lload 5, 2) := by decide +kernel
theorem dX1_order_83 : decode cX1_order 83 = .ok (.lcmp, 1) := by decide +kernel
theorem dX1_order_84 : decode cX1_order 84 = .ok (.ifCond .lt 14, 3) := by decide +kernel
theorem dX1_order_87 : decode cX1_order 87 = .ok (.iload 9, 2) := by decide +kernel
theorem dX1_order_89 : decode cX1_order 89 = .ok (.ifCond .eq 12, 3) := by decide +kernel
theorem dX1_order_92 : decode cX1_order 92 = .ok (.iload 4, 2) := by decide +kernel
theorem dX1_order_94 : decode cX1_order 94 = .ok (.iload_n 2, 1) := by decide +kernel
theorem dX1_order_95 : decode cX1_order 95 = .ok (.if_icmp .ne 6, 3) := by decide +kernel
theorem dX1_order_98 : decode cX1_order 98 = .ok (.bipush (-102), 2) := by decide +kernel
theorem dX1_order_100 : decode cX1_order 100 = .ok (.ireturn, 1) := by decide +kernel
theorem dX1_order_101 : decode cX1_order 101 = .ok (.aload_n 0, 1) := by decide +kernel
theorem dX1_order_102 : decode cX1_order 102 = .ok (.getfield 10, 3) := by decide +kernel
theorem dX1_order_105 : decode cX1_order 105 = .ok (.invokevirtual 52, 3) := by decide +kernel
theorem dX1_order_108 : decode cX1_order 108 = .ok (.sipush 200, 3) := by decide +kernel
theorem dX1_order_111 : decode cX1_order 111 = .ok (.if_icmp .lt 6, 3) := by decide +kernel
theorem dX1_order_114 : decode cX1_order 114 = .ok (.bipush (-104), 2) := by decide +kernel
theorem dX1_order_116 : decode cX1_order 116 = .ok (.ireturn, 1) := by decide +kernel
theorem dX1_order_117 : decode cX1_order 117 = .ok (.aload_n 0, 1) := by decide +kernel
theorem dX1_order_118 : decode cX1_order 118 = .ok (.getfield 10, 3) := by decide +kernel
theorem dX1_order_121 : decode cX1_order 121 = .ok (.new 56, 3) := by decide +kernel
theorem dX1_order_124 : decode cX1_order 124 = .ok (.dup, 1) := by decide +kernel
theorem dX1_order_125 : decode cX1_order 125 = .ok (.iload_n 1, 1) := by decide +kernel
theorem dX1_order_126 : decode cX1_order 126 = .ok (.iload_n 2, 1) := by decide +kernel
theorem dX1_order_127 : decode cX1_order 127 = .ok (.iload_n 3, 1) := by decide +kernel
theorem dX1_order_128 : decode cX1_order 128 = .ok (.iload 4, 2) := by decide +kernel
theorem dX1_order_130 : decode cX1_order 130 = .ok (.lload 5, 2) := by decide +kernel
theorem dX1_order_132 : decode cX1_order 132 = .ok (.lload 7, 2) := by decide +kernel
theorem dX1_order_134 : decode cX1_order 134 = .ok (.aload_n 0, 1) := by decide +kernel
theorem dX1_order_135 : decode cX1_order 135 = .ok (.getfield 30, 3) := by decide +kernel
theorem dX1_order_138 : decode cX1_order 138 = .ok (.invokespecial 58, 3) := by decide +kernel
theorem dX1_order_141 : decode cX1_order 141 = .ok (.invokevirtual 61, 3) := by decide +kernel
theorem dX1_order_144 : decode cX1_order 144 = .ok (.pop, 1) := by decide +kernel
theorem dX1_order_145 : decode cX1_order 145 = .ok (.aload_n 0, 1) := by decide +kernel
theorem dX1_order_146 : decode cX1_order 146 = .ok (.getfield 10, 3) := by decide +kernel
theorem dX1_order_149 : decode cX1_order 149 = .ok (.invokevirtual 52, 3) := by decide +kernel
theorem dX1_order_152 : decode cX1_order 152 = .ok (.ireturn, 1) := by decide +kernel
set_option maxRecDepth 20000 in
theorem ggX1_proof_X1_find : GoodIn wsX1_proof wsX1_find := goodIn_r _ [8, 9, 10, 11, 12, 13, 14, 15, 16, 17, 18, 19, 20, 21, 22, 23, 24, 25, 26, 27, 28, 29, 30, 31, 32, 33, 70, 71, 72, 73, 74, 75, 76, 77, 78] (by decide +kernel) (by decide +kernel)
set_option maxRecDepth 20000 in
theorem gX1_proof_X1_find : GoodIn wsX1_proof (wsV RX1 65 RX1 yX1_find wsX1_find) := goodIn_app (goodIn_of _ (by decide +kernel)) ggX1_proof_X1_find
set_option maxRecDepth 20000 in
theorem ggX1_proof_X1_canBeClock : GoodIn wsX1_proof wsX1_canBeClock := goodIn_r _ [37, 2, 38, 39, 7, 40, 41, 70, 71, 72, 73, 74, 75] (by decide +kernel) (by decide +kernel)
set_option maxRecDepth 20000 in
theorem gX1_proof_X1_canBeClock : GoodIn wsX1_proof (wsV RX1 69 RX1 yX1_canBeClock wsX1_canBeClock) := goodIn_app (goodIn_of _ (by decide +kernel)) ggX1_proof_X1_canBeClock
set_option maxRecDepth 20000 in
theorem ggX1_proof_X1_moveClock : GoodIn wsX1_proof wsX1_moveClock := goodIn_r _ [45, 2, 9, 11, 12, 13, 14, 15, 16, 4, 5, 6, 7, 8, 10, 17, 18, 19, 20, 21, 22, 23, 24, 25, 26, 27, 28, 29, 30, 31, 32, 33, 46, 47, 48, 49, 50, 51, 52, 53, 54, 55, 56, 57, 58, 59, 70, 71, 72, 73, 74, 75, 76, 77, 78, 61, 62, 63, 64, 65, 66, 67, 68, 69] (by decide +kernel) (by decide +kernel)
set_option maxRecDepth 20000 in
theorem gX1_proof_X1_moveClock : GoodIn wsX1_proof (wsV RX1 72 RX1 yX1_moveClock wsX1_moveClock) := goodIn_app (goodIn_of _ (by decide +kernel)) ggX1_proof_X1_moveClock
set_option maxRecDepth 20000 in
theorem ggX1_proof_X0_isOver : GoodIn wsX1_proof wsX0_isOver := goodIn_r _ [58, 54, 59, 61, 62, 63, 64, 65, 66, 67, 68, 69] (by decide +kernel) (by decide +kernel)
set_option maxRecDepth 20000 in
theorem gX1_proof_X0_isOver : GoodIn wsX1_proof (wsV RX1 76 RX0 yX0_isOver wsX0_isOver) := goodIn_app (goodIn_of _ (by decide +kernel)) ggX1_proof_X0_isOver
theorem dX1_proof_0 : decode cX1_proof 0 = .ok (.aload_n 0, 1) := by decide +kernel
theorem dX1_proof_1 : decode cX1_proof 1 = .ok (.iload_n 1, 1) := by decide +kernel
theorem dX1_proof_2 : decode cX1_proof 2 = .ok (.invokevirtual 65, 3) := by decide +kernel
theorem dX1_proof_5 : decode cX1_proof 5 = .ok (.astore 5, 2) := by decide +kernel
theorem dX1_proof_7 : decode cX1_proof 7 = .ok (.aload 5, 2) := by decide +kernel
theorem dX1_proof_9 : decode cX1_proof 9 = .ok (.ifnonnull 6, 3) := by decide +kernel
theorem dX1_proof_12 : decode cX1_proof 12 = .ok (.bipush (-101), 2) := by decide +kernel
theorem dX1_proof_14 : decode cX1_proof 14 = .ok (.ireturn, 1) := by decide +kernel
theorem dX1_proof_15 : decode cX1_proof 15 = .ok (.aload_n 0, 1) := by decide +kernel
theorem dX1_proof_16 : decode cX1_proof 16 = .ok (.lload_n 3, 1) := by decide +kernel
theorem dX1_proof_17 : decode cX1_proof 17 = .ok (.invokevirtual 69, 3) := by decide +kernel
theorem dX1_proof_20 : decode cX1_proof 20 = .ok (.ifCond .ne 6, 3) := by decide +kernel
theorem dX1_proof_23 : decode cX1_proof 23 = .ok (.bipush (-102), 2) := by decide +kernel
theorem dX1_proof_25 : decode cX1_proof 25 = .ok (.ireturn, 1) := by decide +kernel
theorem dX1_proof_26 : decode cX1_proof 26 = .ok (.aload_n 0, 1) := by decide +kernel
theorem dX1_proof_27 : decode cX1_proof 27 = .ok (.lload_n 3, 1) := by decide +kernel
theorem dX1_proof_28 : decode cX1_proof 28 = .ok (.invokevirtual 72, 3) := by decide +kernel
theorem dX1_proof_31 : decode cX1_proof 31 = .ok (.pop, 1) := by decide +kernel
theorem dX1_proof_32 : decode cX1_proof 32 = .ok (.aload 5, 2) := by decide +kernel
theorem dX1_proof_34 : decode cX1_proof 34 = .ok (.invokevirtual 76, 3) := by decide +kernel
theorem dX1_proof_37 : decode cX1_proof 37 = .ok (.ifCond .ne 11, 3) := by decide +kernel
theorem dX1_proof_40 : decode cX1_proof 40 = .ok (.aload 5, 2) := by decide +kernel
theorem dX1_proof_42 : decode cX1_proof 42 = .ok (.getfield 80, 3) := by decide +kernel
theorem dX1_proof_45 : decode cX1_proof 45 = .ok (.ifCond .eq 6, 3) := by decide +kernel
theorem dX1_proof_48 : decode cX1_proof 48 = .ok (.bipush (-103), 2) := by decide +kernel
theorem dX1_proof_50 : decode cX1_proof 50 = .ok (.ireturn, 1) := by decide +kernel
theorem dX1_proof_51 : decode cX1_proof 51 = .ok (.iload_n 2, 1) := by decide +kernel
theorem dX1_proof_52 : decode cX1_proof 52 = .ok (.ifCond .ne 14, 3) := by decide +kernel
theorem dX1_proof_55 : decode cX1_proof 55 = .ok (.aload 5, 2) := by decide +kernel
theorem dX1_proof_57 : decode cX1_proof 57 = .ok (.aload_n 0, 1) := by decide +kernel
theorem dX1_proof_58 : decode cX1_proof 58 = .ok (.getfield 30, 3) := by decide +kernel
theorem dX1_proof_61 : decode cX1_proof 61 = .ok (.putfield 84, 3) := by decide +kernel
theorem dX1_proof_64 : decode cX1_proof 64 = .ok (.iconst 0, 1) := by decide +kernel
theorem dX1_proof_65 : decode cX1_proof 65 = .ok (.ireturn, 1) := by decide +kernel
theorem dX1_proof_66 : decode cX1_proof 66 = .ok (.aload 5, 2) := by decide +kernel
theorem dX1_proof_68 : decode cX1_proof 68 = .ok (.iconst 1, 1) := by decide +kernel
theorem dX1_proof_69 : decode cX1_proof 69 = .ok (.putfield 80, 3) := by decide +kernel
theorem dX1_proof_72 : decode cX1_proof 72 = .ok (.iconst 1, 1) := by decide +kernel
theorem dX1_proof_73 : decode cX1_proof 73 = .ok (.ireturn, 1) := by decide +kernel
set_option maxRecDepth 20000 in
theorem ggX1_withdraw_X1_find : GoodIn wsX1_withdraw wsX1_find := goodIn_r _ [7, 8, 9, 10, 11, 12, 13, 14, 15, 16, 17, 18, 19, 20, 21, 22, 23, 24, 25, 26, 27, 28, 29, 30, 31, 32, 70, 71, 72, 73, 74, 75, 85, 86, 87] (by decide +kernel) (by decide +kernel)
set_option maxRecDepth 20000 in
theorem gX1_withdraw_X1_find : GoodIn wsX1_withdraw (wsV RX1 65 RX1 yX1_find wsX1_find) := goodIn_app (goodIn_of _ (by decide +kernel)) ggX1_withdraw_X1_find
set_option maxRecDepth 20000 in
theorem ggX1_withdraw_X1_canBeClock : GoodIn wsX1_withdraw wsX1_canBeClock := goodIn_r _ [36, 1, 37, 38, 6, 39, 40, 70, 71, 72, 73, 74, 75] (by decide +kernel) (by decide +kernel)
set_option maxRecDepth 20000 in
theorem gX1_withdraw_X1_canBeClock : GoodIn wsX1_withdraw (wsV RX1 69 RX1 yX1_canBeClock wsX1_canBeClock) := goodIn_app (goodIn_of _ (by decide +kernel)) ggX1_withdraw_X1_canBeClock
set_option maxRecDepth 20000 in
theorem ggX1_withdraw_X1_moveClock : GoodIn wsX1_withdraw wsX1_moveClock := goodIn_r _ [44, 1, 8, 10, 11, 12, 13, 14, 15, 3, 4, 5, 6, 7, 9, 16, 17, 18, 19, 20, 21, 22, 23, 24, 25, 26, 27, 28, 29, 30, 31, 32, 45, 46, 47, 48, 49, 50, 51, 52, 53, 54, 55, 56, 57, 58, 70, 71, 72, 73, 74, 75, 85, 86, 87, 76, 77, 78, 79, 80, 81, 82, 83, 84] (by decide +kernel) (by decide +kernel)
set_option maxRecDepth 20000 in
theorem gX1_withdraw_X1_moveClock : GoodIn wsX1_withdraw (wsV RX1 72 RX1 yX1_moveClock wsX1_moveClock) := goodIn_app (goodIn_of _ (by decide +kernel)) ggX1_withdraw_X1_moveClock
set_option maxRecDepth 20000 in
theorem ggX1_withdraw_X0_isOver : GoodIn wsX1_withdraw wsX0_isOver := goodIn_r _ [57, 53, 58, 76, 77, 78, 79, 80, 81, 82, 83, 84] (by decide +kernel) (by decide +kernel)
set_option maxRecDepth 20000 in
theorem gX1_withdraw_X0_isOver : GoodIn wsX1_withdraw (wsV RX1 76 RX0 yX0_isOver wsX0_isOver) := goodIn_app (goodIn_of _ (by decide +kernel)) ggX1_withdraw_X0_isOver
set_option maxRecDepth 20000 in
theorem ggX1_withdraw_X0_daysOfSpanFrom : GoodIn wsX1_withdraw wsX0_daysOfSpanFrom := goodIn_r _ [63, 64, 65, 66, 67, 68, 69, 76, 77, 78, 79, 80, 81, 82, 83, 84] (by decide +kernel) (by decide +kernel)
set_option maxRecDepth 20000 in
theorem gX1_withdraw_X0_daysOfSpanFrom : GoodIn wsX1_withdraw (wsV RX1 87 RX0 yX0_daysOfSpanFrom wsX0_daysOfSpanFrom) := goodIn_app (goodIn_of _ (by decide +kernel)) ggX1_withdraw_X0_daysOfSpanFrom
theorem dX1_withdraw_0 : decode cX1_withdraw 0 = .ok (.aload_n 0, 1) := by decide +kernel
theorem dX1_withdraw_1 : decode cX1_withdraw 1 = .ok (.iload_n 1, 1) := by decide +kernel
theorem dX1_withdraw_2 : decode cX1_withdraw 2 = .ok (.invokevirtual 65, 3) := by decide +kernel
theorem dX1_withdraw_5 : decode cX1_withdraw 5 = .ok (.astore 4, 2) := by decide +kernel
theorem dX1_withdraw_7 : decode cX1_withdraw 7 = .ok (.aload 4, 2) := by decide +kernel
theorem dX1_withdraw_9 : decode cX1_withdraw 9 = .ok (.ifnonnull 6, 3) := by decide +kernel
theorem dX1_withdraw_12 : decode cX1_withdraw 12 = .ok (.bipush (-101), 2) := by decide +kernel
theorem dX1_withdraw_14 : decode cX1_withdraw 14 = .ok (.ireturn, 1) := by decide +kernel
theorem dX1_withdraw_15 : decode cX1_withdraw 15 = .ok (.aload_n 0, 1) := by decide +kernel
theorem dX1_withdraw_16 : decode cX1_withdraw 16 = .ok (.lload_n 2, 1) := by decide +kernel
theorem dX1_withdraw_17 : decode cX1_withdraw 17 = .ok (.invokevirtual 69, 3) := by decide +kernel
theorem dX1_withdraw_20 : decode cX1_withdraw 20 = .ok (.ifCond .ne 6, 3) := by decide +kernel
theorem dX1_withdraw_23 : decode cX1_withdraw 23 = .ok (.bipush (-102), 2) := by decide +kernel
theorem dX1_withdraw_25 : decode cX1_withdraw 25 = .ok (.ireturn, 1) := by decide +kernel
theorem dX1_withdraw_26 : decode cX1_withdraw 26 = .ok (.aload_n 0, 1) := by decide +kernel
theorem dX1_withdraw_27 : decode cX1_withdraw 27 = .ok (.lload_n 2, 1) := by decide +kernel
theorem dX1_withdraw_28 : decode cX1_withdraw 28 = .ok (.invokevirtual 72, 3) := by decide +kernel
theorem dX1_withdraw_31 : decode cX1_withdraw 31 = .ok (.pop, 1) := by decide +kernel
theorem dX1_withdraw_32 : decode cX1_withdraw 32 = .ok (.aload 4, 2) := by decide +kernel
theorem dX1_withdraw_34 : decode cX1_withdraw 34 = .ok (.invokevirtual 76, 3) := by decide +kernel
theorem dX1_withdraw_37 : decode cX1_withdraw 37 = .ok (.ifCond .eq 6, 3) := by decide +kernel
theorem dX1_withdraw_40 : decode cX1_withdraw 40 = .ok (.bipush (-103), 2) := by decide +kernel
theorem dX1_withdraw_42 : decode cX1_withdraw 42 = .ok (.ireturn, 1) := by decide +kernel
theorem dX1_withdraw_43 : decode cX1_withdraw 43 = .ok (.aload 4, 2) := by decide +kernel
theorem dX1_withdraw_45 : decode cX1_withdraw 45 = .ok (.aload_n 0, 1) := by decide +kernel
theorem dX1_withdraw_46 : decode cX1_withdraw 46 = .ok (.getfield 30, 3) := by decide +kernel
theorem dX1_withdraw_49 : decode cX1_withdraw 49 = .ok (.putfield 84, 3) := by decide +kernel
theorem dX1_withdraw_52 : decode cX1_withdraw 52 = .ok (.aload 4, 2) := by decide +kernel
theorem dX1_withdraw_54 : decode cX1_withdraw 54 = .ok (.aload_n 0, 1) := by decide +kernel
theorem dX1_withdraw_55 : decode cX1_withdraw 55 = .ok (.getfield 30, 3) := by decide +kernel
theorem dX1_withdraw_58 : decode cX1_withdraw 58 = .ok (.invokevirtual 87, 3) := by decide +kernel
theorem dX1_withdraw_61 : decode cX1_withdraw 61 = .ok (.ireturn, 1) := by decide +kernel
set_option maxRecDepth 20000 in
theorem ggX1_effective_X1_isAddress : GoodIn wsX1_effective wsX1_isAddress := goodIn_r _ [7] (by decide +kernel) (by decide +kernel)
set_option maxRecDepth 20000 in
theorem gX1_effective_X1_isAddress : GoodIn wsX1_effective (va_wsS RX1 42 yX1_isAddress wsX1_isAddress) := goodIn_app (goodIn_of _ (by decide +kernel)) ggX1_effective_X1_isAddress
set_option maxRecDepth 20000 in
theorem ggX1_effective_X1_isPerson : GoodIn wsX1_effective wsX1_isPerson := goodIn_r _ [10] (by decide +kernel) (by decide +kernel)
set_option maxRecDepth 20000 in
theorem gX1_effective_X1_isPerson : GoodIn wsX1_effective (va_wsS RX1 45 yX1_isPerson wsX1_isPerson) := goodIn_app (goodIn_of _ (by decide +kernel)) ggX1_effective_X1_isPerson
set_option maxRecDepth 20000 in
theorem ggX1_effective_X1_isDay : GoodIn wsX1_effective wsX1_isDay := goodIn_r _ [13, 14] (by decide +kernel) (by decide +kernel)
set_option maxRecDepth 20000 in
theorem gX1_effective_X1_isDay : GoodIn wsX1_effective (va_wsS RX1 48 yX1_isDay wsX1_isDay) := goodIn_app (goodIn_of _ (by decide +kernel)) ggX1_effective_X1_isDay
set_option maxRecDepth 20000 in
theorem ggX1_effective_X1_stepAt : GoodIn wsX1_effective wsX1_stepAt := goodIn_r _ [18, 1, 92, 93, 94, 95, 96, 97] (by decide +kernel) (by decide +kernel)
set_option maxRecDepth 20000 in
theorem gX1_effective_X1_stepAt : GoodIn wsX1_effective (wsV RX1 90 RX1 yX1_stepAt wsX1_stepAt) := goodIn_app (goodIn_of _ (by decide +kernel)) ggX1_effective_X1_stepAt
set_option maxRecDepth 20000 in
theorem ggX1_effective_X1_tellRing : GoodIn wsX1_effective wsX1_tellRing := goodIn_r _ [22, 23, 24, 25, 26, 27, 1, 28, 92, 93, 94, 95, 96, 97] (by decide +kernel) (by decide +kernel)
set_option maxRecDepth 20000 in
theorem gX1_effective_X1_tellRing : GoodIn wsX1_effective (wsV RX1 94 RX1 yX1_tellRing wsX1_tellRing) := goodIn_app (goodIn_of _ (by decide +kernel)) ggX1_effective_X1_tellRing
set_option maxRecDepth 20000 in
theorem ggX1_effective_X1_strongest : GoodIn wsX1_effective wsX1_strongest := goodIn_r _ [32, 33, 2, 34, 35, 36, 37, 38, 39, 40, 41, 42, 6, 43, 44, 45, 46, 47, 48, 49, 50, 51, 52, 53, 54, 55, 56, 57, 58, 59, 60, 61, 62, 63, 64, 65, 66, 67, 68, 69, 70, 71, 72, 73, 74, 75, 76, 77, 78, 79, 80, 81, 82, 83, 84, 92, 93, 94, 95, 96, 97, 98, 99, 100, 101, 102, 103, 104, 105, 106, 107, 108, 109] (by decide +kernel) (by decide +kernel)
set_option maxRecDepth 20000 in
theorem gX1_effective_X1_strongest : GoodIn wsX1_effective (wsV RX1 98 RX1 yX1_strongest wsX1_strongest) := goodIn_app (goodIn_of _ (by decide +kernel)) ggX1_effective_X1_strongest
set_option maxRecDepth 20000 in
theorem ggX1_effective_X0_sendsOn : GoodIn wsX1_effective wsX0_sendsOn := goodIn_r _ [88, 69, 89, 6, 90, 98, 99, 100, 101, 102, 103, 104, 105, 106] (by decide +kernel) (by decide +kernel)
set_option maxRecDepth 20000 in
theorem gX1_effective_X0_sendsOn : GoodIn wsX1_effective (wsV RX1 102 RX0 yX0_sendsOn wsX0_sendsOn) := goodIn_app (goodIn_of _ (by decide +kernel)) ggX1_effective_X0_sendsOn
set_option maxRecDepth 20000 in
theorem ggX1_effective_X1_doneBy : GoodIn wsX1_effective wsX1_doneBy := goodIn_r _ [90] (by decide +kernel) (by decide +kernel)
set_option maxRecDepth 20000 in
theorem gX1_effective_X1_doneBy : GoodIn wsX1_effective (va_wsS RX1 38 yX1_doneBy wsX1_doneBy) := goodIn_app (goodIn_of _ (by decide +kernel)) ggX1_effective_X1_doneBy
theorem dX1_effective_0 : decode cX1_effective 0 = .ok (.iload_n 1, 1) := by decide +kernel
theorem dX1_effective_1 : decode cX1_effective 1 = .ok (.invokestatic 42, 3) := by decide +kernel
theorem dX1_effective_4 : decode cX1_effective 4 = .ok (.ifCond .eq 10, 3) := by decide +kernel
theorem dX1_effective_7 : decode cX1_effective 7 = .ok (.iload_n 2, 1) := by decide +kernel
theorem dX1_effective_8 : decode cX1_effective 8 = .ok (.invokestatic 45, 3) := by decide +kernel
theorem dX1_effective_11 : decode cX1_effective 11 = .ok (.ifCond .ne 6, 3) := by decide +kernel
theorem dX1_effective_14 : decode cX1_effective 14 = .ok (.bipush (-101), 2) := by decide +kernel
theorem dX1_effective_16 : decode cX1_effective 16 = .ok (.ireturn, 1) := by decide +kernel
theorem dX1_effective_17 : decode cX1_effective 17 = .ok (.iload_n 3, 1) := by decide +kernel
theorem dX1_effective_18 : decode cX1_effective 18 = .ok (.ifCond .lt 16, 3) := by decide +kernel
theorem dX1_effective_21 : decode cX1_effective 21 = .ok (.iload_n 3, 1) := by decide +kernel
theorem dX1_effective_22 : decode cX1_effective 22 = .ok (.iconst 3, 1) := by decide +kernel
theorem dX1_effective_23 : decode cX1_effective 23 = .ok (.if_icmp .ge 11, 3) := by decide +kernel
theorem dX1_effective_26 : decode cX1_effective 26 = .ok (.lload 4, 2) := by decide +kernel
theorem dX1_effective_28 : decode cX1_effective 28 = .ok (.invokestatic 48, 3) := by decide +kernel
theorem dX1_effective_31 : decode cX1_effective 31 = .ok (.ifCond .ne 6, 3) := by decide +kernel
theorem dX1_effective_34 : decode cX1_effective 34 = .ok (.bipush (-102), 2) := by decide +kernel
theorem dX1_effective_36 : decode cX1_effective 36 = .ok (.ireturn, 1) := by decide +kernel
theorem dX1_effective_37 : decode cX1_effective 37 = .ok (.iload_n 1, 1) := by decide +kernel
theorem dX1_effective_38 : decode cX1_effective 38 = .ok (.istore 6, 2) := by decide +kernel
theorem dX1_effective_40 : decode cX1_effective 40 = .ok (.iconst 0, 1) := by decide +kernel
theorem dX1_effective_41 : decode cX1_effective 41 = .ok (.istore 7, 2) := by decide +kernel
theorem dX1_effective_43 : decode cX1_effective 43 = .ok (.iload 7, 2) := by decide +kernel
theorem dX1_effective_45 : decode cX1_effective 45 = .ok (.aload_n 0, 1) := by decide +kernel
theorem dX1_effective_46 : decode cX1_effective 46 = .ok (.getfield 20, 3) := by decide +kernel
theorem dX1_effective_49 : decode cX1_effective 49 = .ok (.arraylength, 1) := by decide +kernel
theorem dX1_effective_50 : decode cX1_effective 50 = .ok (.if_icmp .ge 99, 3) := by decide +kernel
theorem dX1_effective_53 : decode cX1_effective 53 = .ok (.aload_n 0, 1) := by decide +kernel
theorem dX1_effective_54 : decode cX1_effective 54 = .ok (.iload 6, 2) := by decide +kernel
theorem dX1_effective_56 : decode cX1_effective 56 = .ok (.iload 7, 2) := by decide +kernel
theorem dX1_effective_58 : decode cX1_effective 58 = .ok (.invokevirtual 90, 3) := by decide +kernel
theorem dX1_effective_61 : decode cX1_effective 61 = .ok (.istore 8, 2) := by decide +kernel
theorem dX1_effective_63 : decode cX1_effective 63 = .ok (.iload 8, 2) := by decide +kernel
theorem dX1_effective_65 : decode cX1_effective 65 = .ok (.iload 7, 2) := by decide +kernel
theorem dX1_effective_67 : decode cX1_effective 67 = .ok (.if_icmp .ge 13, 3) := by decide +kernel
theorem dX1_effective_70 : decode cX1_effective 70 = .ok (.aload_n 0, 1) := by decide +kernel
theorem dX1_effective_71 : decode cX1_effective 71 = .ok (.iload 8, 2) := by decide +kernel
theorem dX1_effective_73 : decode cX1_effective 73 = .ok (.iload 7, 2) := by decide +kernel
theorem dX1_effective_75 : decode cX1_effective 75 = .ok (.invokevirtual 94, 3) := by decide +kernel
theorem dX1_effective_78 : decode cX1_effective 78 = .ok (.iconst (-1), 1) := by decide +kernel
theorem dX1_effective_79 : decode cX1_effective 79 = .ok (.ireturn, 1) := by decide +kernel
theorem dX1_effective_80 : decode cX1_effective 80 = .ok (.aload_n 0, 1) := by decide +kernel
theorem dX1_effective_81 : decode cX1_effective 81 = .ok (.getfield 20, 3) := by decide +kernel
theorem dX1_effective_84 : decode cX1_effective 84 = .ok (.iload 7, 2) := by decide +kernel
theorem dX1_effective_86 : decode cX1_effective 86 = .ok (.iload 6, 2) := by decide +kernel
theorem dX1_effective_88 : decode cX1_effective 88 = .ok (.iastore, 1) := by decide +kernel
theorem dX1_effective_89 : decode cX1_effective 89 = .ok (.aload_n 0, 1) := by decide +kernel
theorem dX1_effective_90 : decode cX1_effective 90 = .ok (.iload 6, 2) := by decide +kernel
theorem dX1_effective_92 : decode cX1_effective 92 = .ok (.iload_n 2, 1) := by decide +kernel
theorem dX1_effective_93 : decode cX1_effective 93 = .ok (.iload_n 3, 1) := by decide +kernel
theorem dX1_effective_94 : decode cX1_effective 94 = .ok (.lload 4, 2) := by decide +kernel
theorem dX1_effective_96 : decode cX1_effective 96 = .ok (.invokevirtual 98, 3) := by decide +kernel
theorem dX1_effective_99 : decode cX1_effective 99 = .ok (.astore 9, 2) := by decide +kernel
theorem dX1_effective_101 : decode cX1_effective 101 = .ok (.aload 9, 2) := by decide +kernel
theorem dX1_effective_103 : decode cX1_effective 103 = .ok (.ifnonnull 6, 3) := by decide +kernel
theorem dX1_effective_106 : decode cX1_effective 106 = .ok (.iload 6, 2) := by decide +kernel
theorem dX1_effective_108 : decode cX1_effective 108 = .ok (.ireturn, 1) := by decide +kernel
theorem dX1_effective_109 : decode cX1_effective 109 = .ok (.aload 9, 2) := by decide +kernel
theorem dX1_effective_111 : decode cX1_effective 111 = .ok (.invokevirtual 102, 3) := by decide +kernel
theorem dX1_effective_114 : decode cX1_effective 114 = .ok (.ifCond .ne 22, 3) := by decide +kernel
theorem dX1_effective_117 : decode cX1_effective 117 = .ok (.aload 9, 2) := by decide +kernel
theorem dX1_effective_119 : decode cX1_effective 119 = .ok (.getfield 105, 3) := by decide +kernel
theorem dX1_effective_122 : decode cX1_effective 122 = .ok (.invokestatic 38, 3) := by decide +kernel
theorem dX1_effective_125 : decode cX1_effective 125 = .ok (.iconst 1, 1) := by decide +kernel
theorem dX1_effective_126 : decode cX1_effective 126 = .ok (.if_icmp .ne 7, 3) := by decide +kernel
theorem dX1_effective_129 : decode cX1_effective 129 = .ok (.iconst 0, 1) := by decide +kernel
theorem dX1_effective_130 : decode cX1_effective 130 = .ok (.goto 5, 3) := by decide +kernel
theorem dX1_effective_133 : decode cX1_effective 133 = .ok (.bipush (-2), 2) := by decide +kernel
theorem dX1_effective_135 : decode cX1_effective 135 = .ok (.ireturn, 1) := by decide +kernel
theorem dX1_effective_136 : decode cX1_effective 136 = .ok (.aload 9, 2) := by decide +kernel
theorem dX1_effective_138 : decode cX1_effective 138 = .ok (.getfield 108, 3) := by decide +kernel
theorem dX1_effective_141 : decode cX1_effective 141 = .ok (.istore 6, 2) := by decide +kernel
theorem dX1_effective_143 : decode cX1_effective 143 = .ok (.iinc 7 1, 3) := by decide +kernel
theorem dX1_effective_146 : decode cX1_effective 146 = .ok (.goto (-103), 3) := by decide +kernel
theorem dX1_effective_149 : decode cX1_effective 149 = .ok (.iconst (-1), 1) := by decide +kernel
theorem dX1_effective_150 : decode cX1_effective 150 = .ok (.ireturn, 1) := by decide +kernel
theorem dX1_ring_0 : decode cX1_ring 0 = .ok (.iload_n 1, 1) := by decide +kernel
theorem dX1_ring_1 : decode cX1_ring 1 = .ok (.ifCond .lt 11, 3) := by decide +kernel
theorem dX1_ring_4 : decode cX1_ring 4 = .ok (.iload_n 1, 1) := by decide +kernel
theorem dX1_ring_5 : decode cX1_ring 5 = .ok (.aload_n 0, 1) := by decide +kernel
theorem dX1_ring_6 : decode cX1_ring 6 = .ok (.getfield 26, 3) := by decide +kernel
theorem dX1_ring_9 : decode cX1_ring 9 = .ok (.if_icmp .lt 7, 3) := by decide +kernel
theorem dX1_ring_12 : decode cX1_ring 12 = .ok (.iconst 0, 1) := by decide +kernel
theorem dX1_ring_13 : decode cX1_ring 13 = .ok (.goto 9, 3) := by decide +kernel
theorem dX1_ring_16 : decode cX1_ring 16 = .ok (.aload_n 0, 1) := by decide +kernel
theorem dX1_ring_17 : decode cX1_ring 17 = .ok (.getfield 23, 3) := by decide +kernel
theorem dX1_ring_20 : decode cX1_ring 20 = .ok (.iload_n 1, 1) := by decide +kernel
theorem dX1_ring_21 : decode cX1_ring 21 = .ok (.iaload, 1) := by decide +kernel
theorem dX1_ring_22 : decode cX1_ring 22 = .ok (.ireturn, 1) := by decide +kernel
set_option maxRecDepth 20000 in
theorem ggX1_rank_X1_isKind : GoodIn wsX1_rank wsX1_isKind := goodIn_r _ [5] (by decide +kernel) (by decide +kernel)
set_option maxRecDepth 20000 in
theorem gX1_rank_X1_isKind : GoodIn wsX1_rank (va_wsS RX1 34 yX1_isKind wsX1_isKind) := goodIn_app (goodIn_of _ (by decide +kernel)) ggX1_rank_X1_isKind
set_option maxRecDepth 20000 in
theorem ggX1_rank_X1_rankOf : GoodIn wsX1_rank wsX1_rankOf := goodIn_r _ [9, 1, 2, 3, 4, 5, 10, 11, 12, 13, 14, 15] (by decide +kernel) (by decide +kernel)
set_option maxRecDepth 20000 in
theorem gX1_rank_X1_rankOf : GoodIn wsX1_rank (wsV RX1 111 RX1 yX1_rankOf wsX1_rankOf) := goodIn_app (goodIn_of _ (by decide +kernel)) ggX1_rank_X1_rankOf
theorem dX1_rank_0 : decode cX1_rank 0 = .ok (.iload_n 1, 1) := by decide +kernel
theorem dX1_rank_1 : decode cX1_rank 1 = .ok (.invokestatic 34, 3) := by decide +kernel
theorem dX1_rank_4 : decode cX1_rank 4 = .ok (.ifCond .eq 13, 3) := by decide +kernel
theorem dX1_rank_7 : decode cX1_rank 7 = .ok (.iload_n 2, 1) := by decide +kernel
theorem dX1_rank_8 : decode cX1_rank 8 = .ok (.ifCond .lt 9, 3) := by decide +kernel
theorem dX1_rank_11 : decode cX1_rank 11 = .ok (.iload_n 2, 1) := by decide +kernel
theorem dX1_rank_12 : decode cX1_rank 12 = .ok (.bipush 100, 2) := by decide +kernel
theorem dX1_rank_14 : decode cX1_rank 14 = .ok (.if_icmp .le 6, 3) := by decide +kernel
theorem dX1_rank_17 : decode cX1_rank 17 = .ok (.bipush (-102), 2) := by decide +kernel
theorem dX1_rank_19 : decode cX1_rank 19 = .ok (.ireturn, 1) := by decide +kernel
theorem dX1_rank_20 : decode cX1_rank 20 = .ok (.aload_n 0, 1) := by decide +kernel
theorem dX1_rank_21 : decode cX1_rank 21 = .ok (.iload_n 1, 1) := by decide +kernel
theorem dX1_rank_22 : decode cX1_rank 22 = .ok (.invokevirtual 111, 3) := by decide +kernel
theorem dX1_rank_25 : decode cX1_rank 25 = .ok (.istore_n 3, 1) := by decide +kernel
theorem dX1_rank_26 : decode cX1_rank 26 = .ok (.aload_n 0, 1) := by decide +kernel
theorem dX1_rank_27 : decode cX1_rank 27 = .ok (.getfield 16, 3) := by decide +kernel
theorem dX1_rank_30 : decode cX1_rank 30 = .ok (.iload_n 1, 1) := by decide +kernel
theorem dX1_rank_31 : decode cX1_rank 31 = .ok (.iload_n 2, 1) := by decide +kernel
theorem dX1_rank_32 : decode cX1_rank 32 = .ok (.iastore, 1) := by decide +kernel
theorem dX1_rank_33 : decode cX1_rank 33 = .ok (.iload_n 3, 1) := by decide +kernel
theorem dX1_rank_34 : decode cX1_rank 34 = .ok (.ireturn, 1) := by decide +kernel
set_option maxRecDepth 20000 in
theorem ggX1_tick_X1_canBeClock : GoodIn wsX1_tick wsX1_canBeClock := goodIn_r _ [5, 6, 7, 8, 4, 9, 10, 58, 59, 60, 61, 62, 63] (by decide +kernel) (by decide +kernel)
set_option maxRecDepth 20000 in
theorem gX1_tick_X1_canBeClock : GoodIn wsX1_tick (wsV RX1 69 RX1 yX1_canBeClock wsX1_canBeClock) := goodIn_app (goodIn_of _ (by decide +kernel)) ggX1_tick_X1_canBeClock
set_option maxRecDepth 20000 in
theorem ggX1_tick_X1_moveClock : GoodIn wsX1_tick wsX1_moveClock := goodIn_r _ [14, 6, 15, 16, 17, 18, 19, 20, 21, 22, 23, 24, 4, 25, 26, 27, 28, 29, 30, 31, 32, 33, 34, 35, 36, 37, 38, 39, 40, 41, 42, 43, 44, 45, 46, 47, 48, 49, 50, 51, 52, 53, 54, 55, 56, 57, 58, 59, 60, 61, 62, 63, 64, 65, 66, 67, 68, 69, 70, 71, 72, 73, 74, 75] (by decide +kernel) (by decide +kernel)
set_option maxRecDepth 20000 in
theorem gX1_tick_X1_moveClock : GoodIn wsX1_tick (wsV RX1 72 RX1 yX1_moveClock wsX1_moveClock) := goodIn_app (goodIn_of _ (by decide +kernel)) ggX1_tick_X1_moveClock
theorem dX1_tick_0 : decode cX1_tick 0 = .ok (.aload_n 0, 1) := by decide +kernel
theorem dX1_tick_1 : decode cX1_tick 1 = .ok (.lload_n 1, 1) := by decide +kernel
theorem dX1_tick_2 : decode cX1_tick 2 = .ok (.invokevirtual 69, 3) := by decide +kernel
theorem dX1_tick_5 : decode cX1_tick 5 = .ok (.ifCond .eq 11, 3) := by decide +kernel
theorem dX1_tick_8 : decode cX1_tick 8 = .ok (.aload_n 0, 1) := by decide +kernel
theorem dX1_tick_9 : decode cX1_tick 9 = .ok (.lload_n 1, 1) := by decide +kernel
theorem dX1_tick_10 : decode cX1_tick 10 = .ok (.invokevirtual 72, 3) := by decide +kernel
theorem dX1_tick_13 : decode cX1_tick 13 = .ok (.goto 5, 3) := by decide +kernel
theorem dX1_tick_16 : decode cX1_tick 16 = .ok (.bipush (-102), 2) := by decide +kernel
theorem dX1_tick_18 : decode cX1_tick 18 = .ok (.ireturn, 1) := by decide +kernel
set_option maxRecDepth 20000 in
theorem ggX1_extend_X1_find : GoodIn wsX1_extend wsX1_find := goodIn_r _ [6, 7, 8, 9, 10, 11, 12, 13, 14, 15, 16, 17, 18, 19, 20, 21, 22, 23, 24, 25, 26, 27, 28, 29, 30, 31, 52, 53, 54, 55, 56, 57, 58, 59, 60] (by decide +kernel) (by decide +kernel)
set_option maxRecDepth 20000 in
theorem gX1_extend_X1_find : GoodIn wsX1_extend (wsV RX1 65 RX1 yX1_find wsX1_find) := goodIn_app (goodIn_of _ (by decide +kernel)) ggX1_extend_X1_find
set_option maxRecDepth 20000 in
theorem ggX1_extend_X1_isDay : GoodIn wsX1_extend wsX1_isDay := goodIn_r _ [34, 35] (by decide +kernel) (by decide +kernel)
set_option maxRecDepth 20000 in
theorem gX1_extend_X1_isDay : GoodIn wsX1_extend (va_wsS RX1 48 yX1_isDay wsX1_isDay) := goodIn_app (goodIn_of _ (by decide +kernel)) ggX1_extend_X1_isDay
set_option maxRecDepth 20000 in
theorem ggX1_extend_X0_isOver : GoodIn wsX1_extend wsX0_isOver := goodIn_r _ [40, 41, 42, 43, 44, 45, 46, 47, 48, 49, 50, 51] (by decide +kernel) (by decide +kernel)
set_option maxRecDepth 20000 in
theorem gX1_extend_X0_isOver : GoodIn wsX1_extend (wsV RX1 76 RX0 yX0_isOver wsX0_isOver) := goodIn_app (goodIn_of _ (by decide +kernel)) ggX1_extend_X0_isOver
theorem dX1_extend_0 : decode cX1_extend 0 = .ok (.aload_n 0, 1) := by decide +kernel
theorem dX1_extend_1 : decode cX1_extend 1 = .ok (.iload_n 1, 1) := by decide +kernel
theorem dX1_extend_2 : decode cX1_extend 2 = .ok (.invokevirtual 65, 3) := by decide +kernel
theorem dX1_extend_5 : decode cX1_extend 5 = .ok (.astore 4, 2) := by decide +kernel
theorem dX1_extend_7 : decode cX1_extend 7 = .ok (.aload 4, 2) := by decide +kernel
theorem dX1_extend_9 : decode cX1_extend 9 = .ok (.ifnonnull 6, 3) := by decide +kernel
theorem dX1_extend_12 : decode cX1_extend 12 = .ok (.bipush (-101), 2) := by decide +kernel
theorem dX1_extend_14 : decode cX1_extend 14 = .ok (.ireturn, 1) := by decide +kernel
theorem dX1_extend_15 : decode cX1_extend 15 = .ok (.lload_n 2, 1) := by decide +kernel
theorem dX1_extend_16 : decode cX1_extend 16 = .ok (.invokestatic 48, 3) := by decide +kernel
theorem dX1_extend_19 : decode cX1_extend 19 = .ok (.ifCond .ne 6, 3) := by decide +kernel
theorem dX1_extend_22 : decode cX1_extend 22 = .ok (.bipush (-102), 2) := by decide +kernel
theorem dX1_extend_24 : decode cX1_extend 24 = .ok (.ireturn, 1) := by decide +kernel
theorem dX1_extend_25 : decode cX1_extend 25 = .ok (.aload 4, 2) := by decide +kernel
theorem dX1_extend_27 : decode cX1_extend 27 = .ok (.invokevirtual 76, 3) := by decide +kernel
theorem dX1_extend_30 : decode cX1_extend 30 = .ok (.ifCond .eq 6, 3) := by decide +kernel
theorem dX1_extend_33 : decode cX1_extend 33 = .ok (.bipush (-103), 2) := by decide +kernel
theorem dX1_extend_35 : decode cX1_extend 35 = .ok (.ireturn, 1) := by decide +kernel
theorem dX1_extend_36 : decode cX1_extend 36 = .ok (.lload_n 2, 1) := by decide +kernel
theorem dX1_extend_37 : decode cX1_extend 37 = .ok (.aload 4, 2) := by decide +kernel
theorem dX1_extend_39 : decode cX1_extend 39 = .ok (.getfield 114, 3) := by decide +kernel
theorem dX1_extend_42 : decode cX1_extend 42 = .ok (.lcmp, 1) := by decide +kernel
theorem dX1_extend_43 : decode cX1_extend 43 = .ok (.ifCond .gt 5, 3) := by decide +kernel
theorem dX1_extend_46 : decode cX1_extend 46 = .ok (.iconst 0, 1) := by decide +kernel
theorem dX1_extend_47 : decode cX1_extend 47 = .ok (.ireturn, 1) := by decide +kernel
theorem dX1_extend_48 : decode cX1_extend 48 = .ok (.aload 4, 2) := by decide +kernel
theorem dX1_extend_50 : decode cX1_extend 50 = .ok (.lload_n 2, 1) := by decide +kernel
theorem dX1_extend_51 : decode cX1_extend 51 = .ok (.putfield 114, 3) := by decide +kernel
theorem dX1_extend_54 : decode cX1_extend 54 = .ok (.iconst 1, 1) := by decide +kernel
theorem dX1_extend_55 : decode cX1_extend 55 = .ok (.ireturn, 1) := by decide +kernel
set_option maxRecDepth 20000 in
theorem ggX1_told_X1_isPerson : GoodIn wsX1_told wsX1_isPerson := goodIn_r _ [6] (by decide +kernel) (by decide +kernel)
set_option maxRecDepth 20000 in
theorem gX1_told_X1_isPerson : GoodIn wsX1_told (va_wsS RX1 45 yX1_isPerson wsX1_isPerson) := goodIn_app (goodIn_of _ (by decide +kernel)) ggX1_told_X1_isPerson
set_option maxRecDepth 20000 in
theorem ggX1_told_Jx4a65c_size_8abf5 : GoodIn wsX1_told wsJx4a65c_size_8abf5 := goodIn_r _ [11, 12, 62, 63, 64] (by decide +kernel) (by decide +kernel)
set_option maxRecDepth 20000 in
theorem gX1_told_Jx4a65c_size_8abf5 : GoodIn wsX1_told (wsV RX1 52 RJx4a65c yJx4a65c_size_8abf5 wsJx4a65c_size_8abf5) := goodIn_app (goodIn_of _ (by decide +kernel)) ggX1_told_Jx4a65c_size_8abf5
set_option maxRecDepth 20000 in
theorem ggX1_told_X1_find : GoodIn wsX1_told wsX1_find := goodIn_r _ [16, 1, 17, 7, 8, 9, 10, 11, 12, 18, 19, 20, 21, 22, 23, 24, 25, 26, 27, 28, 29, 30, 31, 32, 33, 34, 56, 57, 58, 59, 60, 61, 62, 63, 64] (by decide +kernel) (by decide +kernel)
set_option maxRecDepth 20000 in
theorem gX1_told_X1_find : GoodIn wsX1_told (wsV RX1 65 RX1 yX1_find wsX1_find) := goodIn_app (goodIn_of _ (by decide +kernel)) ggX1_told_X1_find
set_option maxRecDepth 20000 in
theorem ggX1_told_X0_isToldTo : GoodIn wsX1_told wsX0_isToldTo := goodIn_r _ [39, 40, 41, 42, 43, 44, 38, 45, 46, 47, 5, 48, 49, 50, 51, 52, 53, 54, 55, 65, 66, 67, 68, 69, 70, 71, 72, 73] (by decide +kernel) (by decide +kernel)
set_option maxRecDepth 20000 in
theorem gX1_told_X0_isToldTo : GoodIn wsX1_told (wsV RX1 117 RX0 yX0_isToldTo wsX0_isToldTo) := goodIn_app (goodIn_of _ (by decide +kernel)) ggX1_told_X0_isToldTo
theorem dX1_told_0 : decode cX1_told 0 = .ok (.iload_n 1, 1) := by decide +kernel
theorem dX1_told_1 : decode cX1_told 1 = .ok (.invokestatic 45, 3) := by decide +kernel
theorem dX1_told_4 : decode cX1_told 4 = .ok (.ifCond .ne 6, 3) := by decide +kernel
theorem dX1_told_7 : decode cX1_told 7 = .ok (.bipush (-101), 2) := by decide +kernel
theorem dX1_told_9 : decode cX1_told 9 = .ok (.ireturn, 1) := by decide +kernel
theorem dX1_told_10 : decode cX1_told 10 = .ok (.iconst 0, 1) := by decide +kernel
theorem dX1_told_11 : decode cX1_told 11 = .ok (.istore_n 3, 1) := by decide +kernel
theorem dX1_told_12 : decode cX1_told 12 = .ok (.iconst 1, 1) := by decide +kernel
theorem dX1_told_13 : decode cX1_told 13 = .ok (.istore 4, 2) := by decide +kernel
theorem dX1_told_15 : decode cX1_told 15 = .ok (.iload 4, 2) := by decide +kernel
theorem dX1_told_17 : decode cX1_told 17 = .ok (.aload_n 0, 1) := by decide +kernel
theorem dX1_told_18 : decode cX1_told 18 = .ok (.getfield 10, 3) := by decide +kernel
theorem dX1_told_21 : decode cX1_told 21 = .ok (.invokevirtual 52, 3) := by decide +kernel
theorem dX1_told_24 : decode cX1_told 24 = .ok (.if_icmp .gt 46, 3) := by decide +kernel
theorem dX1_told_27 : decode cX1_told 27 = .ok (.aload_n 0, 1) := by decide +kernel
theorem dX1_told_28 : decode cX1_told 28 = .ok (.iload 4, 2) := by decide +kernel
theorem dX1_told_30 : decode cX1_told 30 = .ok (.invokevirtual 65, 3) := by decide +kernel
theorem dX1_told_33 : decode cX1_told 33 = .ok (.astore 5, 2) := by decide +kernel
theorem dX1_told_35 : decode cX1_told 35 = .ok (.aload 5, 2) := by decide +kernel
theorem dX1_told_37 : decode cX1_told 37 = .ok (.ifnull 27, 3) := by decide +kernel
theorem dX1_told_40 : decode cX1_told 40 = .ok (.aload 5, 2) := by decide +kernel
theorem dX1_told_42 : decode cX1_told 42 = .ok (.iload_n 1, 1) := by decide +kernel
theorem dX1_told_43 : decode cX1_told 43 = .ok (.aload_n 0, 1) := by decide +kernel
theorem dX1_told_44 : decode cX1_told 44 = .ok (.getfield 30, 3) := by decide +kernel
theorem dX1_told_47 : decode cX1_told 47 = .ok (.invokevirtual 117, 3) := by decide +kernel
theorem dX1_told_50 : decode cX1_told 50 = .ok (.ifCond .eq 14, 3) := by decide +kernel
theorem dX1_told_53 : decode cX1_told 53 = .ok (.iload_n 3, 1) := by decide +kernel
theorem dX1_told_54 : decode cX1_told 54 = .ok (.iload_n 2, 1) := by decide +kernel
theorem dX1_told_55 : decode cX1_told 55 = .ok (.if_icmp .ne 6, 3) := by decide +kernel
theorem dX1_told_58 : decode cX1_told 58 = .ok (.iload 4, 2) := by decide +kernel
theorem dX1_told_60 : decode cX1_told 60 = .ok (.ireturn, 1) := by decide +kernel
theorem dX1_told_61 : decode cX1_told 61 = .ok (.iinc 3 1, 3) := by decide +kernel
theorem dX1_told_64 : decode cX1_told 64 = .ok (.iinc 4 1, 3) := by decide +kernel
theorem dX1_told_67 : decode cX1_told 67 = .ok (.goto (-52), 3) := by decide +kernel
theorem dX1_told_70 : decode cX1_told 70 = .ok (.iconst 0, 1) := by decide +kernel
theorem dX1_told_71 : decode cX1_told 71 = .ok (.ireturn, 1) := by decide +kernel
theorem dX1_isAddress_0 : decode cX1_isAddress 0 = .ok (.iload_n 0, 1) := by decide +kernel
theorem dX1_isAddress_1 : decode cX1_isAddress 1 = .ok (.iconst 1, 1) := by decide +kernel
theorem dX1_isAddress_2 : decode cX1_isAddress 2 = .ok (.if_icmp .lt 13, 3) := by decide +kernel
theorem dX1_isAddress_5 : decode cX1_isAddress 5 = .ok (.iload_n 0, 1) := by decide +kernel
theorem dX1_isAddress_6 : decode cX1_isAddress 6 = .ok (.bipush 99, 2) := by decide +kernel
theorem dX1_isAddress_8 : decode cX1_isAddress 8 = .ok (.if_icmp .gt 7, 3) := by decide +kernel
theorem dX1_isAddress_11 : decode cX1_isAddress 11 = .ok (.iconst 1, 1) := by decide +kernel
theorem dX1_isAddress_12 : decode cX1_isAddress 12 = .ok (.goto 4, 3) := by decide +kernel
theorem dX1_isAddress_15 : decode cX1_isAddress 15 = .ok (.iconst 0, 1) := by decide +kernel
theorem dX1_isAddress_16 : decode cX1_isAddress 16 = .ok (.ireturn, 1) := by decide +kernel
theorem dX1_isPerson_0 : decode cX1_isPerson 0 = .ok (.iload_n 0, 1) := by decide +kernel
theorem dX1_isPerson_1 : decode cX1_isPerson 1 = .ok (.ifCond .lt 13, 3) := by decide +kernel
theorem dX1_isPerson_4 : decode cX1_isPerson 4 = .ok (.iload_n 0, 1) := by decide +kernel
theorem dX1_isPerson_5 : decode cX1_isPerson 5 = .ok (.bipush 49, 2) := by decide +kernel
theorem dX1_isPerson_7 : decode cX1_isPerson 7 = .ok (.if_icmp .gt 7, 3) := by decide +kernel
theorem dX1_isPerson_10 : decode cX1_isPerson 10 = .ok (.iconst 1, 1) := by decide +kernel
theorem dX1_isPerson_11 : decode cX1_isPerson 11 = .ok (.goto 4, 3) := by decide +kernel
theorem dX1_isPerson_14 : decode cX1_isPerson 14 = .ok (.iconst 0, 1) := by decide +kernel
theorem dX1_isPerson_15 : decode cX1_isPerson 15 = .ok (.ireturn, 1) := by decide +kernel
theorem dX1_isKind_0 : decode cX1_isKind 0 = .ok (.iload_n 0, 1) := by decide +kernel
theorem dX1_isKind_1 : decode cX1_isKind 1 = .ok (.ifCond .lt 13, 3) := by decide +kernel
theorem dX1_isKind_4 : decode cX1_isKind 4 = .ok (.iload_n 0, 1) := by decide +kernel
theorem dX1_isKind_5 : decode cX1_isKind 5 = .ok (.bipush 9, 2) := by decide +kernel
theorem dX1_isKind_7 : decode cX1_isKind 7 = .ok (.if_icmp .ge 7, 3) := by decide +kernel
theorem dX1_isKind_10 : decode cX1_isKind 10 = .ok (.iconst 1, 1) := by decide +kernel
theorem dX1_isKind_11 : decode cX1_isKind 11 = .ok (.goto 4, 3) := by decide +kernel
theorem dX1_isKind_14 : decode cX1_isKind 14 = .ok (.iconst 0, 1) := by decide +kernel
theorem dX1_isKind_15 : decode cX1_isKind 15 = .ok (.ireturn, 1) := by decide +kernel
theorem dX1_isDay_0 : decode cX1_isDay 0 = .ok (.lload_n 0, 1) := by decide +kernel
theorem dX1_isDay_1 : decode cX1_isDay 1 = .ok (.lconst 0, 1) := by decide +kernel
theorem dX1_isDay_2 : decode cX1_isDay 2 = .ok (.lcmp, 1) := by decide +kernel
theorem dX1_isDay_3 : decode cX1_isDay 3 = .ok (.ifCond .lt 15, 3) := by decide +kernel
theorem dX1_isDay_6 : decode cX1_isDay 6 = .ok (.lload_n 0, 1) := by decide +kernel
theorem dX1_isDay_7 : decode cX1_isDay 7 = .ok (.ldc2_w 121, 3) := by decide +kernel
theorem dX1_isDay_10 : decode cX1_isDay 10 = .ok (.lcmp, 1) := by decide +kernel
theorem dX1_isDay_11 : decode cX1_isDay 11 = .ok (.ifCond .gt 7, 3) := by decide +kernel
theorem dX1_isDay_14 : decode cX1_isDay 14 = .ok (.iconst 1, 1) := by decide +kernel
theorem dX1_isDay_15 : decode cX1_isDay 15 = .ok (.goto 4, 3) := by decide +kernel
theorem dX1_isDay_18 : decode cX1_isDay 18 = .ok (.iconst 0, 1) := by decide +kernel
theorem dX1_isDay_19 : decode cX1_isDay 19 = .ok (.ireturn, 1) := by decide +kernel
theorem dX1_doneBy_0 : decode cX1_doneBy 0 = .ok (.iload_n 0, 1) := by decide +kernel
theorem dX1_doneBy_1 : decode cX1_doneBy 1 = .ok (.iconst 3, 1) := by decide +kernel
theorem dX1_doneBy_2 : decode cX1_doneBy 2 = .ok (.idiv, 1) := by decide +kernel
theorem dX1_doneBy_3 : decode cX1_doneBy 3 = .ok (.ireturn, 1) := by decide +kernel
set_option maxRecDepth 20000 in
theorem ggX1_canBeClock_X1_isDay : GoodIn wsX1_canBeClock wsX1_isDay := goodIn_r _ [5, 6] (by decide +kernel) (by decide +kernel)
set_option maxRecDepth 20000 in
theorem gX1_canBeClock_X1_isDay : GoodIn wsX1_canBeClock (va_wsS RX1 48 yX1_isDay wsX1_isDay) := goodIn_app (goodIn_of _ (by decide +kernel)) ggX1_canBeClock_X1_isDay
theorem dX1_canBeClock_0 : decode cX1_canBeClock 0 = .ok (.lload_n 1, 1) := by decide +kernel
theorem dX1_canBeClock_1 : decode cX1_canBeClock 1 = .ok (.invokestatic 48, 3) := by decide +kernel
theorem dX1_canBeClock_4 : decode cX1_canBeClock 4 = .ok (.ifCond .eq 16, 3) := by decide +kernel
theorem dX1_canBeClock_7 : decode cX1_canBeClock 7 = .ok (.lload_n 1, 1) := by decide +kernel
theorem dX1_canBeClock_8 : decode cX1_canBeClock 8 = .ok (.aload_n 0, 1) := by decide +kernel
theorem dX1_canBeClock_9 : decode cX1_canBeClock 9 = .ok (.getfield 30, 3) := by decide +kernel
theorem dX1_canBeClock_12 : decode cX1_canBeClock 12 = .ok (.lcmp, 1) := by decide +kernel
theorem dX1_canBeClock_13 : decode cX1_canBeClock 13 = .ok (.ifCond .lt 7, 3) := by decide +kernel
theorem dX1_canBeClock_16 : decode cX1_canBeClock 16 = .ok (.iconst 1, 1) := by decide +kernel
theorem dX1_canBeClock_17 : decode cX1_canBeClock 17 = .ok (.goto 4, 3) := by decide +kernel
theorem dX1_canBeClock_20 : decode cX1_canBeClock 20 = .ok (.iconst 0, 1) := by decide +kernel
theorem dX1_canBeClock_21 : decode cX1_canBeClock 21 = .ok (.ireturn, 1) := by decide +kernel
set_option maxRecDepth 20000 in
theorem ggX1_find_Jx4a65c_size_8abf5 : GoodIn wsX1_find wsJx4a65c_size_8abf5 := goodIn_r _ [7, 8, 32, 33, 34] (by decide +kernel) (by decide +kernel)
set_option maxRecDepth 20000 in
theorem gX1_find_Jx4a65c_size_8abf5 : GoodIn wsX1_find (wsV RX1 52 RJx4a65c yJx4a65c_size_8abf5 wsJx4a65c_size_8abf5) := goodIn_app (goodIn_of _ (by decide +kernel)) ggX1_find_Jx4a65c_size_8abf5
set_option maxRecDepth 20000 in
theorem ggX1_find_Jx4a65c_get_915e3 : GoodIn wsX1_find wsJx4a65c_get_915e3 := goodIn_r _ [12, 8, 13, 14, 15, 16, 17, 18, 19, 20, 21, 22, 23, 6, 24, 25, 32, 33, 34] (by decide +kernel) (by decide +kernel)
set_option maxRecDepth 20000 in
theorem gX1_find_Jx4a65c_get_915e3 : GoodIn wsX1_find (wsV RX1 123 RJx4a65c yJx4a65c_get_915e3 wsJx4a65c_get_915e3) := goodIn_app (goodIn_of _ (by decide +kernel)) ggX1_find_Jx4a65c_get_915e3
theorem dX1_find_0 : decode cX1_find 0 = .ok (.iload_n 1, 1) := by decide +kernel
theorem dX1_find_1 : decode cX1_find 1 = .ok (.iconst 1, 1) := by decide +kernel
theorem dX1_find_2 : decode cX1_find 2 = .ok (.if_icmp .lt 14, 3) := by decide +kernel
theorem dX1_find_5 : decode cX1_find 5 = .ok (.iload_n 1, 1) := by decide +kernel
theorem dX1_find_6 : decode cX1_find 6 = .ok (.aload_n 0, 1) := by decide +kernel
theorem dX1_find_7 : decode cX1_find 7 = .ok (.getfield 10, 3) := by decide +kernel
theorem dX1_find_10 : decode cX1_find 10 = .ok (.invokevirtual 52, 3) := by decide +kernel
theorem dX1_find_13 : decode cX1_find 13 = .ok (.if_icmp .le 7, 3) := by decide +kernel
theorem dX1_find_16 : decode cX1_find 16 = .ok (.aconst_null, 1) := by decide +kernel
theorem dX1_find_17 : decode cX1_find 17 = .ok (.goto 16, 3) := by decide +kernel
theorem dX1_find_20 : decode cX1_find 20 = .ok (.aload_n 0, 1) := by decide +kernel
theorem dX1_find_21 : decode cX1_find 21 = .ok (.getfield 10, 3) := by decide +kernel
theorem dX1_find_24 : decode cX1_find 24 = .ok (.iload_n 1, 1) := by decide +kernel
theorem dX1_find_25 : decode cX1_find 25 = .ok (.iconst 1, 1) := by decide +kernel
theorem dX1_find_26 : decode cX1_find 26 = .ok (.isub, 1) := by decide +kernel
theorem dX1_find_27 : decode cX1_find 27 = .ok (.invokevirtual 123, 3) := by decide +kernel
theorem dX1_find_30 : decode cX1_find 30 = .ok (.checkcast 56, 3) := by decide +kernel
theorem dX1_find_33 : decode cX1_find 33 = .ok (.areturn, 1) := by decide +kernel
set_option maxRecDepth 20000 in
theorem ggX1_moveClock_Jx4a65c_size_8abf5 : GoodIn wsX1_moveClock wsJx4a65c_size_8abf5 := goodIn_r _ [7, 8, 52, 53, 54] (by decide +kernel) (by decide +kernel)
set_option maxRecDepth 20000 in
theorem gX1_moveClock_Jx4a65c_size_8abf5 : GoodIn wsX1_moveClock (wsV RX1 52 RJx4a65c yJx4a65c_size_8abf5 wsJx4a65c_size_8abf5) := goodIn_app (goodIn_of _ (by decide +kernel)) ggX1_moveClock_Jx4a65c_size_8abf5
set_option maxRecDepth 20000 in
theorem ggX1_moveClock_X1_find : GoodIn wsX1_moveClock wsX1_find := goodIn_r _ [13, 2, 14, 3, 4, 5, 6, 7, 8, 15, 16, 17, 18, 19, 20, 21, 22, 23, 24, 25, 26, 27, 28, 29, 30, 31, 46, 47, 48, 49, 50, 51, 52, 53, 54] (by decide +kernel) (by decide +kernel)
set_option maxRecDepth 20000 in
theorem gX1_moveClock_X1_find : GoodIn wsX1_moveClock (wsV RX1 65 RX1 yX1_find wsX1_find) := goodIn_app (goodIn_of _ (by decide +kernel)) ggX1_moveClock_X1_find
set_option maxRecDepth 20000 in
theorem ggX1_moveClock_X0_lapseIfDue : GoodIn wsX1_moveClock wsX0_lapseIfDue := goodIn_r _ [36, 37, 38, 39, 40, 41, 42, 43, 35, 44, 45, 55, 56, 57, 58, 59, 60, 61, 62, 63] (by decide +kernel) (by decide +kernel)
set_option maxRecDepth 20000 in
theorem gX1_moveClock_X0_lapseIfDue : GoodIn wsX1_moveClock (wsV RX1 127 RX0 yX0_lapseIfDue wsX0_lapseIfDue) := goodIn_app (goodIn_of _ (by decide +kernel)) ggX1_moveClock_X0_lapseIfDue
theorem dX1_moveClock_0 : decode cX1_moveClock 0 = .ok (.aload_n 0, 1) := by decide +kernel
theorem dX1_moveClock_1 : decode cX1_moveClock 1 = .ok (.lload_n 1, 1) := by decide +kernel
theorem dX1_moveClock_2 : decode cX1_moveClock 2 = .ok (.putfield 30, 3) := by decide +kernel
theorem dX1_moveClock_5 : decode cX1_moveClock 5 = .ok (.iconst 0, 1) := by decide +kernel
theorem dX1_moveClock_6 : decode cX1_moveClock 6 = .ok (.istore_n 3, 1) := by decide +kernel
theorem dX1_moveClock_7 : decode cX1_moveClock 7 = .ok (.iconst 1, 1) := by decide +kernel
theorem dX1_moveClock_8 : decode cX1_moveClock 8 = .ok (.istore 4, 2) := by decide +kernel
theorem dX1_moveClock_10 : decode cX1_moveClock 10 = .ok (.iload 4, 2) := by decide +kernel
theorem dX1_moveClock_12 : decode cX1_moveClock 12 = .ok (.aload_n 0, 1) := by decide +kernel
theorem dX1_moveClock_13 : decode cX1_moveClock 13 = .ok (.getfield 10, 3) := by decide +kernel
theorem dX1_moveClock_16 : decode cX1_moveClock 16 = .ok (.invokevirtual 52, 3) := by decide +kernel
theorem dX1_moveClock_19 : decode cX1_moveClock 19 = .ok (.if_icmp .gt 37, 3) := by decide +kernel
theorem dX1_moveClock_22 : decode cX1_moveClock 22 = .ok (.aload_n 0, 1) := by decide +kernel
theorem dX1_moveClock_23 : decode cX1_moveClock 23 = .ok (.iload 4, 2) := by decide +kernel
theorem dX1_moveClock_25 : decode cX1_moveClock 25 = .ok (.invokevirtual 65, 3) := by decide +kernel
theorem dX1_moveClock_28 : decode cX1_moveClock 28 = .ok (.astore 5, 2) := by decide +kernel
theorem dX1_moveClock_30 : decode cX1_moveClock 30 = .ok (.aload 5, 2) := by decide +kernel
theorem dX1_moveClock_32 : decode cX1_moveClock 32 = .ok (.ifnull 18, 3) := by decide +kernel
theorem dX1_moveClock_35 : decode cX1_moveClock 35 = .ok (.aload 5, 2) := by decide +kernel
theorem dX1_moveClock_37 : decode cX1_moveClock 37 = .ok (.aload_n 0, 1) := by decide +kernel
theorem dX1_moveClock_38 : decode cX1_moveClock 38 = .ok (.getfield 30, 3) := by decide +kernel
theorem dX1_moveClock_41 : decode cX1_moveClock 41 = .ok (.invokevirtual 127, 3) := by decide +kernel
theorem dX1_moveClock_44 : decode cX1_moveClock 44 = .ok (.ifCond .eq 6, 3) := by decide +kernel
theorem dX1_moveClock_47 : decode cX1_moveClock 47 = .ok (.iinc 3 1, 3) := by decide +kernel
theorem dX1_moveClock_50 : decode cX1_moveClock 50 = .ok (.iinc 4 1, 3) := by decide +kernel
theorem dX1_moveClock_53 : decode cX1_moveClock 53 = .ok (.goto (-43), 3) := by decide +kernel
theorem dX1_moveClock_56 : decode cX1_moveClock 56 = .ok (.iload_n 3, 1) := by decide +kernel
theorem dX1_moveClock_57 : decode cX1_moveClock 57 = .ok (.ireturn, 1) := by decide +kernel
set_option maxRecDepth 20000 in
theorem ggX1_strongest_Jx4a65c_size_8abf5 : GoodIn wsX1_strongest wsJx4a65c_size_8abf5 := goodIn_r _ [7, 8, 70, 71, 72] (by decide +kernel) (by decide +kernel)
set_option maxRecDepth 20000 in
theorem gX1_strongest_Jx4a65c_size_8abf5 : GoodIn wsX1_strongest (wsV RX1 52 RJx4a65c yJx4a65c_size_8abf5 wsJx4a65c_size_8abf5) := goodIn_app (goodIn_of _ (by decide +kernel)) ggX1_strongest_Jx4a65c_size_8abf5
set_option maxRecDepth 20000 in
theorem ggX1_strongest_X1_find : GoodIn wsX1_strongest wsX1_find := goodIn_r _ [13, 1, 14, 3, 4, 5, 6, 7, 8, 15, 16, 17, 18, 19, 20, 21, 22, 23, 24, 25, 26, 27, 28, 29, 30, 31, 55, 56, 57, 58, 59, 60, 70, 71, 72] (by decide +kernel) (by decide +kernel)
set_option maxRecDepth 20000 in
theorem gX1_strongest_X1_find : GoodIn wsX1_strongest (wsV RX1 65 RX1 yX1_find wsX1_find) := goodIn_app (goodIn_of _ (by decide +kernel)) ggX1_strongest_X1_find
set_option maxRecDepth 20000 in
theorem ggX1_strongest_X0_concerns : GoodIn wsX1_strongest wsX0_concerns := goodIn_r _ [36, 37, 38, 39, 61, 62, 63, 64, 65, 66, 67, 68, 69] (by decide +kernel) (by decide +kernel)
set_option maxRecDepth 20000 in
theorem gX1_strongest_X0_concerns : GoodIn wsX1_strongest (wsV RX1 130 RX0 yX0_concerns wsX0_concerns) := goodIn_app (goodIn_of _ (by decide +kernel)) ggX1_strongest_X0_concerns
set_option maxRecDepth 20000 in
theorem ggX1_strongest_X0_isInForce : GoodIn wsX1_strongest wsX0_isInForce := goodIn_r _ [43, 44, 45, 46, 61, 62, 63, 64, 65, 66, 67, 68, 69] (by decide +kernel) (by decide +kernel)
set_option maxRecDepth 20000 in
theorem gX1_strongest_X0_isInForce : GoodIn wsX1_strongest (wsV RX1 134 RX0 yX0_isInForce wsX0_isInForce) := goodIn_app (goodIn_of _ (by decide +kernel)) ggX1_strongest_X0_isInForce
set_option maxRecDepth 20000 in
theorem ggX1_strongest_X1_rankOf : GoodIn wsX1_strongest wsX1_rankOf := goodIn_r _ [50, 51, 52, 53, 12, 54, 55, 56, 57, 58, 59, 60] (by decide +kernel) (by decide +kernel)
set_option maxRecDepth 20000 in
theorem gX1_strongest_X1_rankOf : GoodIn wsX1_strongest (wsV RX1 111 RX1 yX1_rankOf wsX1_rankOf) := goodIn_app (goodIn_of _ (by decide +kernel)) ggX1_strongest_X1_rankOf
theorem dX1_strongest_0 : decode cX1_strongest 0 = .ok (.aconst_null, 1) := by decide +kernel
theorem dX1_strongest_1 : decode cX1_strongest 1 = .ok (.astore 6, 2) := by decide +kernel
theorem dX1_strongest_3 : decode cX1_strongest 3 = .ok (.iconst 1, 1) := by decide +kernel
theorem dX1_strongest_4 : decode cX1_strongest 4 = .ok (.istore 7, 2) := by decide +kernel
theorem dX1_strongest_6 : decode cX1_strongest 6 = .ok (.iload 7, 2) := by decide +kernel
theorem dX1_strongest_8 : decode cX1_strongest 8 = .ok (.aload_n 0, 1) := by decide +kernel
theorem dX1_strongest_9 : decode cX1_strongest 9 = .ok (.getfield 10, 3) := by decide +kernel
theorem dX1_strongest_12 : decode cX1_strongest 12 = .ok (.invokevirtual 52, 3) := by decide +kernel
theorem dX1_strongest_15 : decode cX1_strongest 15 = .ok (.if_icmp .gt 73, 3) := by decide +kernel
theorem dX1_strongest_18 : decode cX1_strongest 18 = .ok (.aload_n 0, 1) := by decide +kernel
theorem dX1_strongest_19 : decode cX1_strongest 19 = .ok (.iload 7, 2) := by decide +kernel
theorem dX1_strongest_21 : decode cX1_strongest 21 = .ok (.invokevirtual 65, 3) := by decide +kernel
theorem dX1_strongest_24 : decode cX1_strongest 24 = .ok (.astore 8, 2) := by decide +kernel
theorem dX1_strongest_26 : decode cX1_strongest 26 = .ok (.aload 8, 2) := by decide +kernel
theorem dX1_strongest_28 : decode cX1_strongest 28 = .ok (.ifnull 54, 3) := by decide +kernel
theorem dX1_strongest_31 : decode cX1_strongest 31 = .ok (.aload 8, 2) := by decide +kernel
theorem dX1_strongest_33 : decode cX1_strongest 33 = .ok (.iload_n 1, 1) := by decide +kernel
theorem dX1_strongest_34 : decode cX1_strongest 34 = .ok (.iload_n 2, 1) := by decide +kernel
theorem dX1_strongest_35 : decode cX1_strongest 35 = .ok (.iload_n 3, 1) := by decide +kernel
theorem dX1_strongest_36 : decode cX1_strongest 36 = .ok (.invokevirtual 130, 3) := by decide +kernel
theorem dX1_strongest_39 : decode cX1_strongest 39 = .ok (.ifCond .eq 43, 3) := by decide +kernel
theorem dX1_strongest_42 : decode cX1_strongest 42 = .ok (.aload 8, 2) := by decide +kernel
theorem dX1_strongest_44 : decode cX1_strongest 44 = .ok (.lload 4, 2) := by decide +kernel
theorem dX1_strongest_46 : decode cX1_strongest 46 = .ok (.invokevirtual 134, 3) := by decide +kernel
theorem dX1_strongest_49 : decode cX1_strongest 49 = .ok (.ifCond .eq 33, 3) := by decide +kernel
theorem dX1_strongest_52 : decode cX1_strongest 52 = .ok (.aload 6, 2) := by decide +kernel
theorem dX1_strongest_54 : decode cX1_strongest 54 = .ok (.ifnull 24, 3) := by decide +kernel
theorem dX1_strongest_57 : decode cX1_strongest 57 = .ok (.aload_n 0, 1) := by decide +kernel
theorem dX1_strongest_58 : decode cX1_strongest 58 = .ok (.aload 8, 2) := by decide +kernel
theorem dX1_strongest_60 : decode cX1_strongest 60 = .ok (.getfield 105, 3) := by decide +kernel
theorem dX1_strongest_63 : decode cX1_strongest 63 = .ok (.invokevirtual 111, 3) := by decide +kernel
theorem dX1_strongest_66 : decode cX1_strongest 66 = .ok (.aload_n 0, 1) := by decide +kernel
theorem dX1_strongest_67 : decode cX1_strongest 67 = .ok (.aload 6, 2) := by decide +kernel
theorem dX1_strongest_69 : decode cX1_strongest 69 = .ok (.getfield 105, 3) := by decide +kernel
theorem dX1_strongest_72 : decode cX1_strongest 72 = .ok (.invokevirtual 111, 3) := by decide +kernel
theorem dX1_strongest_75 : decode cX1_strongest 75 = .ok (.if_icmp .lt 7, 3) := by decide +kernel
theorem dX1_strongest_78 : decode cX1_strongest 78 = .ok (.aload 8, 2) := by decide +kernel
theorem dX1_strongest_80 : decode cX1_strongest 80 = .ok (.astore 6, 2) := by decide +kernel
theorem dX1_strongest_82 : decode cX1_strongest 82 = .ok (.iinc 7 1, 3) := by decide +kernel
theorem dX1_strongest_85 : decode cX1_strongest 85 = .ok (.goto (-79), 3) := by decide +kernel
theorem dX1_strongest_88 : decode cX1_strongest 88 = .ok (.aload 6, 2) := by decide +kernel
theorem dX1_strongest_90 : decode cX1_strongest 90 = .ok (.areturn, 1) := by decide +kernel
set_option maxRecDepth 20000 in
theorem ggX1_rankOf_X1_isKind : GoodIn wsX1_rankOf wsX1_isKind := goodIn_r _ [5] (by decide +kernel) (by decide +kernel)
set_option maxRecDepth 20000 in
theorem gX1_rankOf_X1_isKind : GoodIn wsX1_rankOf (va_wsS RX1 34 yX1_isKind wsX1_isKind) := goodIn_app (goodIn_of _ (by decide +kernel)) ggX1_rankOf_X1_isKind
theorem dX1_rankOf_0 : decode cX1_rankOf 0 = .ok (.iload_n 1, 1) := by decide +kernel
theorem dX1_rankOf_1 : decode cX1_rankOf 1 = .ok (.invokestatic 34, 3) := by decide +kernel
theorem dX1_rankOf_4 : decode cX1_rankOf 4 = .ok (.ifCond .eq 12, 3) := by decide +kernel
theorem dX1_rankOf_7 : decode cX1_rankOf 7 = .ok (.aload_n 0, 1) := by decide +kernel
theorem dX1_rankOf_8 : decode cX1_rankOf 8 = .ok (.getfield 16, 3) := by decide +kernel
theorem dX1_rankOf_11 : decode cX1_rankOf 11 = .ok (.iload_n 1, 1) := by decide +kernel
theorem dX1_rankOf_12 : decode cX1_rankOf 12 = .ok (.iaload, 1) := by decide +kernel
theorem dX1_rankOf_13 : decode cX1_rankOf 13 = .ok (.goto 4, 3) := by decide +kernel
theorem dX1_rankOf_16 : decode cX1_rankOf 16 = .ok (.iconst 0, 1) := by decide +kernel
theorem dX1_rankOf_17 : decode cX1_rankOf 17 = .ok (.ireturn, 1) := by decide +kernel
theorem dX1_stepAt_0 : decode cX1_stepAt 0 = .ok (.iconst 0, 1) := by decide +kernel
theorem dX1_stepAt_1 : decode cX1_stepAt 1 = .ok (.istore_n 3, 1) := by decide +kernel
theorem dX1_stepAt_2 : decode cX1_stepAt 2 = .ok (.iload_n 3, 1) := by decide +kernel
theorem dX1_stepAt_3 : decode cX1_stepAt 3 = .ok (.iload_n 2, 1) := by decide +kernel
theorem dX1_stepAt_4 : decode cX1_stepAt 4 = .ok (.if_icmp .ge 30, 3) := by decide +kernel
theorem dX1_stepAt_7 : decode cX1_stepAt 7 = .ok (.iload_n 3, 1) := by decide +kernel
theorem dX1_stepAt_8 : decode cX1_stepAt 8 = .ok (.aload_n 0, 1) := by decide +kernel
theorem dX1_stepAt_9 : decode cX1_stepAt 9 = .ok (.getfield 20, 3) := by decide +kernel
theorem dX1_stepAt_12 : decode cX1_stepAt 12 = .ok (.arraylength, 1) := by decide +kernel
theorem dX1_stepAt_13 : decode cX1_stepAt 13 = .ok (.if_icmp .ge 21, 3) := by decide +kernel
theorem dX1_stepAt_16 : decode cX1_stepAt 16 = .ok (.aload_n 0, 1) := by decide +kernel
theorem dX1_stepAt_17 : decode cX1_stepAt 17 = .ok (.getfield 20, 3) := by decide +kernel
theorem dX1_stepAt_20 : decode cX1_stepAt 20 = .ok (.iload_n 3, 1) := by decide +kernel
theorem dX1_stepAt_21 : decode cX1_stepAt 21 = .ok (.iaload, 1) := by decide +kernel
theorem dX1_stepAt_22 : decode cX1_stepAt 22 = .ok (.iload_n 1, 1) := by decide +kernel
theorem dX1_stepAt_23 : decode cX1_stepAt 23 = .ok (.if_icmp .ne 5, 3) := by decide +kernel
theorem dX1_stepAt_26 : decode cX1_stepAt 26 = .ok (.iload_n 3, 1) := by decide +kernel
theorem dX1_stepAt_27 : decode cX1_stepAt 27 = .ok (.ireturn, 1) := by decide +kernel
theorem dX1_stepAt_28 : decode cX1_stepAt 28 = .ok (.iinc 3 1, 3) := by decide +kernel
theorem dX1_stepAt_31 : decode cX1_stepAt 31 = .ok (.goto (-29), 3) := by decide +kernel
theorem dX1_stepAt_34 : decode cX1_stepAt 34 = .ok (.iload_n 2, 1) := by decide +kernel
theorem dX1_stepAt_35 : decode cX1_stepAt 35 = .ok (.ireturn, 1) := by decide +kernel
theorem dX1_tellRing_0 : decode cX1_tellRing 0 = .ok (.aload_n 0, 1) := by decide +kernel
theorem dX1_tellRing_1 : decode cX1_tellRing 1 = .ok (.iconst 0, 1) := by decide +kernel
theorem dX1_tellRing_2 : decode cX1_tellRing 2 = .ok (.putfield 26, 3) := by decide +kernel
theorem dX1_tellRing_5 : decode cX1_tellRing 5 = .ok (.iload_n 1, 1) := by decide +kernel
theorem dX1_tellRing_6 : decode cX1_tellRing 6 = .ok (.iconst 0, 1) := by decide +kernel
theorem dX1_tellRing_7 : decode cX1_tellRing 7 = .ok (.invokestatic 137, 3) := by decide +kernel
theorem dX1_tellRing_10 : decode cX1_tellRing 10 = .ok (.istore_n 3, 1) := by decide +kernel
theorem dX1_tellRing_11 : decode cX1_tellRing 11 = .ok (.iload_n 3, 1) := by decide +kernel
theorem dX1_tellRing_12 : decode cX1_tellRing 12 = .ok (.iload_n 2, 1) := by decide +kernel
theorem dX1_tellRing_13 : decode cX1_tellRing 13 = .ok (.if_icmp .ge 55, 3) := by decide +kernel
theorem dX1_tellRing_16 : decode cX1_tellRing 16 = .ok (.iload_n 3, 1) := by decide +kernel
theorem dX1_tellRing_17 : decode cX1_tellRing 17 = .ok (.aload_n 0, 1) := by decide +kernel
theorem dX1_tellRing_18 : decode cX1_tellRing 18 = .ok (.getfield 20, 3) := by decide +kernel
theorem dX1_tellRing_21 : decode cX1_tellRing 21 = .ok (.arraylength, 1) := by decide +kernel
theorem dX1_tellRing_22 : decode cX1_tellRing 22 = .ok (.if_icmp .ge 46, 3) := by decide +kernel
theorem dX1_tellRing_25 : decode cX1_tellRing 25 = .ok (.aload_n 0, 1) := by decide +kernel
theorem dX1_tellRing_26 : decode cX1_tellRing 26 = .ok (.getfield 26, 3) := by decide +kernel
theorem dX1_tellRing_29 : decode cX1_tellRing 29 = .ok (.aload_n 0, 1) := by decide +kernel
theorem dX1_tellRing_30 : decode cX1_tellRing 30 = .ok (.getfield 23, 3) := by decide +kernel
theorem dX1_tellRing_33 : decode cX1_tellRing 33 = .ok (.arraylength, 1) := by decide +kernel
theorem dX1_tellRing_34 : decode cX1_tellRing 34 = .ok (.if_icmp .ge 34, 3) := by decide +kernel
theorem dX1_tellRing_37 : decode cX1_tellRing 37 = .ok (.aload_n 0, 1) := by decide +kernel
theorem dX1_tellRing_38 : decode cX1_tellRing 38 = .ok (.getfield 23, 3) := by decide +kernel
theorem dX1_tellRing_41 : decode cX1_tellRing 41 = .ok (.aload_n 0, 1) := by decide +kernel
theorem dX1_tellRing_42 : decode cX1_tellRing 42 = .ok (.getfield 26, 3) := by decide +kernel
theorem dX1_tellRing_45 : decode cX1_tellRing 45 = .ok (.aload_n 0, 1) := by decide +kernel
theorem dX1_tellRing_46 : decode cX1_tellRing 46 = .ok (.getfield 20, 3) := by decide +kernel
theorem dX1_tellRing_49 : decode cX1_tellRing 49 = .ok (.iload_n 3, 1) := by decide +kernel
theorem dX1_tellRing_50 : decode cX1_tellRing 50 = .ok (.iaload, 1) := by decide +kernel
theorem dX1_tellRing_51 : decode cX1_tellRing 51 = .ok (.iastore, 1) := by decide +kernel
theorem dX1_tellRing_52 : decode cX1_tellRing 52 = .ok (.aload_n 0, 1) := by decide +kernel
theorem dX1_tellRing_53 : decode cX1_tellRing 53 = .ok (.dup, 1) := by decide +kernel
theorem dX1_tellRing_54 : decode cX1_tellRing 54 = .ok (.getfield 26, 3) := by decide +kernel
theorem dX1_tellRing_57 : decode cX1_tellRing 57 = .ok (.iconst 1, 1) := by decide +kernel
theorem dX1_tellRing_58 : decode cX1_tellRing 58 = .ok (.iadd, 1) := by decide +kernel
theorem dX1_tellRing_59 : decode cX1_tellRing 59 = .ok (.putfield 26, 3) := by decide +kernel
theorem dX1_tellRing_62 : decode cX1_tellRing 62 = .ok (.iinc 3 1, 3) := by decide +kernel
theorem dX1_tellRing_65 : decode cX1_tellRing 65 = .ok (.goto (-54), 3) := by decide +kernel
theorem dX1_tellRing_68 : decode cX1_tellRing 68 = .ok (.return_, 1) := by decide +kernel
theorem dX2_init_0 : decode cX2_init 0 = .ok (.aload_n 0, 1) := by decide +kernel
theorem dX2_init_1 : decode cX2_init 1 = .ok (.invokespecial 1, 3) := by decide +kernel
theorem dX2_init_4 : decode cX2_init 4 = .ok (.aload_n 0, 1) := by decide +kernel
theorem dX2_init_5 : decode cX2_init 5 = .ok (.sipush 201, 3) := by decide +kernel
theorem dX2_init_8 : decode cX2_init 8 = .ok (.newarray .int, 2) := by decide +kernel
theorem dX2_init_10 : decode cX2_init 10 = .ok (.putfield 7, 3) := by decide +kernel
theorem dX2_init_13 : decode cX2_init 13 = .ok (.aload_n 0, 1) := by decide +kernel
theorem dX2_init_14 : decode cX2_init 14 = .ok (.sipush 201, 3) := by decide +kernel
theorem dX2_init_17 : decode cX2_init 17 = .ok (.newarray .int, 2) := by decide +kernel
theorem dX2_init_19 : decode cX2_init 19 = .ok (.putfield 13, 3) := by decide +kernel
theorem dX2_init_22 : decode cX2_init 22 = .ok (.aload_n 0, 1) := by decide +kernel
theorem dX2_init_23 : decode cX2_init 23 = .ok (.sipush 201, 3) := by decide +kernel
theorem dX2_init_26 : decode cX2_init 26 = .ok (.newarray .int, 2) := by decide +kernel
theorem dX2_init_28 : decode cX2_init 28 = .ok (.putfield 16, 3) := by decide +kernel
theorem dX2_init_31 : decode cX2_init 31 = .ok (.aload_n 0, 1) := by decide +kernel
theorem dX2_init_32 : decode cX2_init 32 = .ok (.sipush 201, 3) := by decide +kernel
theorem dX2_init_35 : decode cX2_init 35 = .ok (.newarray .int, 2) := by decide +kernel
theorem dX2_init_37 : decode cX2_init 37 = .ok (.putfield 19, 3) := by decide +kernel
theorem dX2_init_40 : decode cX2_init 40 = .ok (.aload_n 0, 1) := by decide +kernel
theorem dX2_init_41 : decode cX2_init 41 = .ok (.sipush 201, 3) := by decide +kernel
theorem dX2_init_44 : decode cX2_init 44 = .ok (.newarray .long, 2) := by decide +kernel
theorem dX2_init_46 : decode cX2_init 46 = .ok (.putfield 22, 3) := by decide +kernel
theorem dX2_init_49 : decode cX2_init 49 = .ok (.aload_n 0, 1) := by decide +kernel
theorem dX2_init_50 : decode cX2_init 50 = .ok (.sipush 201, 3) := by decide +kernel
theorem dX2_init_53 : decode cX2_init 53 = .ok (.newarray .long, 2) := by decide +kernel
theorem dX2_init_55 : decode cX2_init 55 = .ok (.putfield 26, 3) := by decide +kernel
theorem dX2_init_58 : decode cX2_init 58 = .ok (.aload_n 0, 1) := by decide +kernel
theorem dX2_init_59 : decode cX2_init 59 = .ok (.sipush 201, 3) := by decide +kernel
theorem dX2_init_62 : decode cX2_init 62 = .ok (.newarray .long, 2) := by decide +kernel
theorem dX2_init_64 : decode cX2_init 64 = .ok (.putfield 29, 3) := by decide +kernel
theorem dX2_init_67 : decode cX2_init 67 = .ok (.aload_n 0, 1) := by decide +kernel
theorem dX2_init_68 : decode cX2_init 68 = .ok (.sipush 201, 3) := by decide +kernel
theorem dX2_init_71 : decode cX2_init 71 = .ok (.newarray .boolean, 2) := by decide +kernel
theorem dX2_init_73 : decode cX2_init 73 = .ok (.putfield 32, 3) := by decide +kernel
theorem dX2_init_76 : decode cX2_init 76 = .ok (.aload_n 0, 1) := by decide +kernel
theorem dX2_init_77 : decode cX2_init 77 = .ok (.sipush 201, 3) := by decide +kernel
theorem dX2_init_80 : decode cX2_init 80 = .ok (.newarray .long, 2) := by decide +kernel
theorem dX2_init_82 : decode cX2_init 82 = .ok (.putfield 36, 3) := by decide +kernel
theorem dX2_init_85 : decode cX2_init 85 = .ok (.aload_n 0, 1) := by decide +kernel
theorem dX2_init_86 : decode cX2_init 86 = .ok (.bipush 9, 2) := by decide +kernel
theorem dX2_init_88 : decode cX2_init 88 = .ok (.newarray .int, 2) := by decide +kernel
theorem dX2_init_90 : decode cX2_init 90 = .ok (.putfield 39, 3) := by decide +kernel
theorem dX2_init_93 : decode cX2_init 93 = .ok (.aload_n 0, 1) := by decide +kernel
theorem dX2_init_94 : decode cX2_init 94 = .ok (.bipush 101, 2) := by decide +kernel
theorem dX2_init_96 : decode cX2_init 96 = .ok (.newarray .int, 2) := by decide +kernel
theorem dX2_init_98 : decode cX2_init 98 = .ok (.putfield 42, 3) := by decide +kernel
theorem dX2_init_101 : decode cX2_init 101 = .ok (.aload_n 0, 1) := by decide +kernel
theorem dX2_init_102 : decode cX2_init 102 = .ok (.bipush 100, 2) := by decide +kernel
theorem dX2_init_104 : decode cX2_init 104 = .ok (.newarray .int, 2) := by decide +kernel
theorem dX2_init_106 : decode cX2_init 106 = .ok (.putfield 45, 3) := by decide +kernel
theorem dX2_init_109 : decode cX2_init 109 = .ok (.aload_n 0, 1) := by decide +kernel
theorem dX2_init_110 : decode cX2_init 110 = .ok (.iconst 0, 1) := by decide +kernel
theorem dX2_init_111 : decode cX2_init 111 = .ok (.putfield 48, 3) := by decide +kernel
theorem dX2_init_114 : decode cX2_init 114 = .ok (.return_, 1) := by decide +kernel
theorem dX2_isIn_0 : decode cX2_isIn 0 = .ok (.lload_n 0, 1) := by decide +kernel
theorem dX2_isIn_1 : decode cX2_isIn 1 = .ok (.lload_n 2, 1) := by decide +kernel
theorem dX2_isIn_2 : decode cX2_isIn 2 = .ok (.lcmp, 1) := by decide +kernel
theorem dX2_isIn_3 : decode cX2_isIn 3 = .ok (.ifCond .lt 14, 3) := by decide +kernel
theorem dX2_isIn_6 : decode cX2_isIn 6 = .ok (.lload_n 0, 1) := by decide +kernel
theorem dX2_isIn_7 : decode cX2_isIn 7 = .ok (.lload 4, 2) := by decide +kernel
theorem dX2_isIn_9 : decode cX2_isIn 9 = .ok (.lcmp, 1) := by decide +kernel
theorem dX2_isIn_10 : decode cX2_isIn 10 = .ok (.ifCond .gt 7, 3) := by decide +kernel
theorem dX2_isIn_13 : decode cX2_isIn 13 = .ok (.iconst 1, 1) := by decide +kernel
theorem dX2_isIn_14 : decode cX2_isIn 14 = .ok (.goto 4, 3) := by decide +kernel
theorem dX2_isIn_17 : decode cX2_isIn 17 = .ok (.iconst 0, 1) := by decide +kernel
theorem dX2_isIn_18 : decode cX2_isIn 18 = .ok (.ireturn, 1) := by decide +kernel
set_option maxRecDepth 20000 in
theorem ggX2_isOrder_X2_isIn : GoodIn wsX2_isOrder wsX2_isIn := goodIn_r _ [5] (by decide +kernel) (by decide +kernel)
set_option maxRecDepth 20000 in
theorem gX2_isOrder_X2_isIn : GoodIn wsX2_isOrder (va_wsS RX2 58 yX2_isIn wsX2_isIn) := goodIn_app (goodIn_of _ (by decide +kernel)) ggX2_isOrder_X2_isIn
theorem dX2_isOrder_0 : decode cX2_isOrder 0 = .ok (.iload_n 1, 1) := by decide +kernel
theorem dX2_isOrder_1 : decode cX2_isOrder 1 = .ok (.i2l, 1) := by decide +kernel
theorem dX2_isOrder_2 : decode cX2_isOrder 2 = .ok (.lconst 1, 1) := by decide +kernel
theorem dX2_isOrder_3 : decode cX2_isOrder 3 = .ok (.aload_n 0, 1) := by decide +kernel
theorem dX2_isOrder_4 : decode cX2_isOrder 4 = .ok (.getfield 55, 3) := by decide +kernel
theorem dX2_isOrder_7 : decode cX2_isOrder 7 = .ok (.i2l, 1) := by decide +kernel
theorem dX2_isOrder_8 : decode cX2_isOrder 8 = .ok (.invokestatic 58, 3) := by decide +kernel
theorem dX2_isOrder_11 : decode cX2_isOrder 11 = .ok (.ireturn, 1) := by decide +kernel
set_option maxRecDepth 20000 in
theorem ggX2_isDay_X2_isIn : GoodIn wsX2_isDay wsX2_isIn := goodIn_r _ [6] (by decide +kernel) (by decide +kernel)
set_option maxRecDepth 20000 in
theorem gX2_isDay_X2_isIn : GoodIn wsX2_isDay (va_wsS RX2 58 yX2_isIn wsX2_isIn) := goodIn_app (goodIn_of _ (by decide +kernel)) ggX2_isDay_X2_isIn
theorem dX2_isDay_0 : decode cX2_isDay 0 = .ok (.lload_n 1, 1) := by decide +kernel
theorem dX2_isDay_1 : decode cX2_isDay 1 = .ok (.aload_n 0, 1) := by decide +kernel
theorem dX2_isDay_2 : decode cX2_isDay 2 = .ok (.getfield 62, 3) := by decide +kernel
theorem dX2_isDay_5 : decode cX2_isDay 5 = .ok (.ldc2_w 66, 3) := by decide +kernel
theorem dX2_isDay_8 : decode cX2_isDay 8 = .ok (.invokestatic 58, 3) := by decide +kernel
theorem dX2_isDay_11 : decode cX2_isDay 11 = .ok (.ireturn, 1) := by decide +kernel
set_option maxRecDepth 20000 in
theorem ggX2_order_X2_isIn : GoodIn wsX2_order wsX2_isIn := goodIn_r _ [20] (by decide +kernel) (by decide +kernel)
set_option maxRecDepth 20000 in
theorem gX2_order_X2_isIn : GoodIn wsX2_order (va_wsS RX2 58 yX2_isIn wsX2_isIn) := goodIn_app (goodIn_of _ (by decide +kernel)) ggX2_order_X2_isIn
theorem dX2_order_0 : decode cX2_order 0 = .ok (.aload_n 0, 1) := by decide +kernel
theorem dX2_order_1 : decode cX2_order 1 = .ok (.iconst 0, 1) := by decide +kernel
theorem dX2_order_2 : decode cX2_order 2 = .ok (.putfield 52, 3) := by decide +kernel
theorem dX2_order_5 : decode cX2_order 5 = .ok (.iload_n 1, 1) := by decide +kernel
theorem dX2_order_6 : decode cX2_order 6 = .ok (.ifCond .lt 12, 3) := by decide +kernel
theorem dX2_order_9 : decode cX2_order 9 = .ok (.iload_n 1, 1) := by decide +kernel
theorem dX2_order_10 : decode cX2_order 10 = .ok (.iconst 3, 1) := by decide +kernel
theorem dX2_order_11 : decode cX2_order 11 = .ok (.if_icmp .ge 7, 3) := by decide +kernel
theorem dX2_order_14 : decode cX2_order 14 = .ok (.iconst 1, 1) := by decide +kernel
theorem dX2_order_15 : decode cX2_order 15 = .ok (.goto 4, 3) := by decide +kernel
theorem dX2_order_18 : decode cX2_order 18 = .ok (.iconst 0, 1) := by decide +kernel
theorem dX2_order_19 : decode cX2_order 19 = .ok (.istore 9, 2) := by decide +kernel
theorem dX2_order_21 : decode cX2_order 21 = .ok (.iload_n 2, 1) := by decide +kernel
theorem dX2_order_22 : decode cX2_order 22 = .ok (.i2l, 1) := by decide +kernel
theorem dX2_order_23 : decode cX2_order 23 = .ok (.lconst 1, 1) := by decide +kernel
theorem dX2_order_24 : decode cX2_order 24 = .ok (.ldc2_w 68, 3) := by decide +kernel
theorem dX2_order_27 : decode cX2_order 27 = .ok (.invokestatic 58, 3) := by decide +kernel
theorem dX2_order_30 : decode cX2_order 30 = .ok (.ifCond .eq 35, 3) := by decide +kernel
theorem dX2_order_33 : decode cX2_order 33 = .ok (.iload_n 3, 1) := by decide +kernel
theorem dX2_order_34 : decode cX2_order 34 = .ok (.i2l, 1) := by decide +kernel
theorem dX2_order_35 : decode cX2_order 35 = .ok (.ldc2_w 70, 3) := by decide +kernel
theorem dX2_order_38 : decode cX2_order 38 = .ok (.ldc2_w 72, 3) := by decide +kernel
theorem dX2_order_41 : decode cX2_order 41 = .ok (.invokestatic 58, 3) := by decide +kernel
theorem dX2_order_44 : decode cX2_order 44 = .ok (.ifCond .eq 21, 3) := by decide +kernel
theorem dX2_order_47 : decode cX2_order 47 = .ok (.iload 9, 2) := by decide +kernel
theorem dX2_order_49 : decode cX2_order 49 = .ok (.ifCond .eq 19, 3) := by decide +kernel
theorem dX2_order_52 : decode cX2_order 52 = .ok (.iload 4, 2) := by decide +kernel
theorem dX2_order_54 : decode cX2_order 54 = .ok (.i2l, 1) := by decide +kernel
theorem dX2_order_55 : decode cX2_order 55 = .ok (.lconst 1, 1) := by decide +kernel
theorem dX2_order_56 : decode cX2_order 56 = .ok (.ldc2_w 68, 3) := by decide +kernel
theorem dX2_order_59 : decode cX2_order 59 = .ok (.invokestatic 58, 3) := by decide +kernel
theorem dX2_order_62 : decode cX2_order 62 = .ok (.ifCond .ne 6, 3) := by decide +kernel
theorem dX2_order_65 : decode cX2_order 65 = .ok (.bipush (-101), 2) := by decide +kernel
theorem dX2_order_67 : decode cX2_order 67 = .ok (.ireturn, 1) := by decide +kernel
theorem dX2_order_68 : decode cX2_order 68 = .ok (.iload_n 1, 1) := by decide +kernel
theorem dX2_order_69 : decode cX2_order 69 = .ok (.i2l, 1) := by decide +kernel
theorem dX2_order_70 : decode cX2_order 70 = .ok (.lconst 0, 1) := by decide +kernel
theorem dX2_order_71 : decode cX2_order 71 = .ok (.ldc2_w 74, 3) := by decide +kernel
theorem dX2_order_74 : decode cX2_order 74 = .ok (.invokestatic 58, 3) := by decide +kernel
theorem dX2_order_77 : decode cX2_order 77 = .ok (.ifCond .eq 38, 3) := by decide +kernel
theorem dX2_order_80 : decode cX2_order 80 = .ok (.lload 5, 2) := by decide +kernel
theorem dX2_order_82 : decode cX2_order 82 = .ok (.lconst 0, 1) := by decide +kernel
theorem dX2_order_83 : decode cX2_order 83 = .ok (.lcmp, 1) := by decide +kernel
theorem dX2_order_84 : decode cX2_order 84 = .ok (.ifCond .lt 31, 3) := by decide +kernel
theorem dX2_order_87 : decode cX2_order 87 = .ok (.lload 5, 2) := by decide +kernel
theorem dX2_order_89 : decode cX2_order 89 = .ok (.lload 7, 2) := by decide +kernel
theorem dX2_order_91 : decode cX2_order 91 = .ok (.lcmp, 1) := by decide +kernel
theorem dX2_order_92 : decode cX2_order 92 = .ok (.ifCond .gt 23, 3) := by decide +kernel
theorem dX2_order_95 : decode cX2_order 95 = .ok (.lload 7, 2) := by decide +kernel
theorem dX2_order_97 : decode cX2_order 97 = .ok (.ldc2_w 66, 3) := by decide +kernel
theorem dX2_order_100 : decode cX2_order 100 = .ok (.lcmp, 1) := by decide +kernel
theorem dX2_order_101 : decode cX2_order 101 = .ok (.ifCond .gt 14, 3) := by decide +kernel
theorem dX2_order_104 : decode cX2_order 104 = .ok (.iload 9, 2) := by decide +kernel
theorem dX2_order_106 : decode cX2_order 106 = .ok (.ifCond .eq 12, 3) := by decide +kernel
theorem dX2_order_109 : decode cX2_order 109 = .ok (.iload 4, 2) := by decide +kernel
theorem dX2_order_111 : decode cX2_order 111 = .ok (.iload_n 2, 1) := by decide +kernel
theorem dX2_order_112 : decode cX2_order 112 = .ok (.if_icmp .ne 6, 3) := by decide +kernel
theorem dX2_order_115 : decode cX2_order 115 = .ok (.bipush (-102), 2) := by decide +kernel
theorem dX2_order_117 : decode cX2_order 117 = .ok (.ireturn, 1) := by decide +kernel
theorem dX2_order_118 : decode cX2_order 118 = .ok (.aload_n 0, 1) := by decide +kernel
theorem dX2_order_119 : decode cX2_order 119 = .ok (.getfield 55, 3) := by decide +kernel
theorem dX2_order_122 : decode cX2_order 122 = .ok (.sipush 200, 3) := by decide +kernel
theorem dX2_order_125 : decode cX2_order 125 = .ok (.if_icmp .ne 6, 3) := by decide +kernel
theorem dX2_order_128 : decode cX2_order 128 = .ok (.bipush (-104), 2) := by decide +kernel
theorem dX2_order_130 : decode cX2_order 130 = .ok (.ireturn, 1) := by decide +kernel
theorem dX2_order_131 : decode cX2_order 131 = .ok (.aload_n 0, 1) := by decide +kernel
theorem dX2_order_132 : decode cX2_order 132 = .ok (.dup, 1) := by decide +kernel
theorem dX2_order_133 : decode cX2_order 133 = .ok (.getfield 55, 3) := by decide +kernel
theorem dX2_order_136 : decode cX2_order 136 = .ok (.iconst 1, 1) := by decide +kernel
theorem dX2_order_137 : decode cX2_order 137 = .ok (.iadd, 1) := by decide +kernel
theorem dX2_order_138 : decode cX2_order 138 = .ok (.putfield 55, 3) := by decide +kernel
theorem dX2_order_141 : decode cX2_order 141 = .ok (.aload_n 0, 1) := by decide +kernel
theorem dX2_order_142 : decode cX2_order 142 = .ok (.getfield 7, 3) := by decide +kernel
theorem dX2_order_145 : decode cX2_order 145 = .ok (.aload_n 0, 1) := by decide +kernel
theorem dX2_order_146 : decode cX2_order 146 = .ok (.getfield 55, 3) := by decide +kernel
theorem dX2_order_149 : decode cX2_order 149 = .ok (.iload_n 1, 1) := by decide +kernel
theorem dX2_order_150 : decode cX2_order 150 = .ok (.iastore, 1) := by decide +kernel
theorem dX2_order_151 : decode cX2_order 151 = .ok (.aload_n 0, 1) := by decide +kernel
theorem dX2_order_152 : decode cX2_order 152 = .ok (.getfield 13, 3) := by decide +kernel
theorem dX2_order_155 : decode cX2_order 155 = .ok (.aload_n 0, 1) := by decide +kernel
theorem dX2_order_156 : decode cX2_order 156 = .ok (.getfield 55, 3) := by decide +kernel
theorem dX2_order_159 : decode cX2_order 159 = .ok (.iload_n 2, 1) := by decide +kernel
theorem dX2_order_160 : decode cX2_order 160 = .ok (.iastore, 1) := by decide +kernel
theorem dX2_order_161 : decode cX2_order 161 = .ok (.aload_n 0, 1) := by decide +kernel
theorem dX2_order_162 : decode cX2_order 162 = .ok (.getfield 16, 3) := by decide +kernel
theorem dX2_order_165 : decode cX2_order 165 = .ok (.aload_n 0, 1) := by decide +kernel
theorem dX2_order_166 : decode cX2_order 166 = .ok (.getfield 55, 3) := by decide +kernel
theorem dX2_order_169 : decode cX2_order 169 = .ok (.iload_n 3, 1) := by decide +kernel
theorem dX2_order_170 : decode cX2_order 170 = .ok (.iastore, 1) := by decide +kernel
theorem dX2_order_171 : decode cX2_order 171 = .ok (.aload_n 0, 1) := by decide +kernel
theorem dX2_order_172 : decode cX2_order 172 = .ok (.getfield 19, 3) := by decide +kernel
theorem dX2_order_175 : decode cX2_order 175 = .ok (.aload_n 0, 1) := by decide +kernel
theorem dX2_order_176 : decode cX2_order 176 = .ok (.getfield 55, 3) := by decide +kernel
theorem dX2_order_179 : decode cX2_order 179 = .ok (.iload 9, 2) := by decide +kernel
theorem dX2_order_181 : decode cX2_order 181 = .ok (.ifCond .eq 8, 3) := by decide +kernel
theorem dX2_order_184 : decode cX2_order 184 = .ok (.iload 4, 2) := by decide +kernel
theorem dX2_order_186 : decode cX2_order 186 = .ok (.goto 4, 3) := by decide +kernel
theorem dX2_order_189 : decode cX2_order 189 = .ok (.iconst 0, 1) := by decide +kernel
theorem dX2_order_190 : decode cX2_order 190 = .ok (.iastore, 1) := by decide +kernel
theorem dX2_order_191 : decode cX2_order 191 = .ok (.aload_n 0, 1) := by decide +kernel
theorem dX2_order_192 : decode cX2_order 192 = .ok (.getfield 22, 3) := by decide +kernel
theorem dX2_order_195 : decode cX2_order 195 = .ok (.aload_n 0, 1) := by decide +kernel
theorem dX2_order_196 : decode cX2_order 196 = .ok (.getfield 55, 3) := by decide +kernel
theorem dX2_order_199 : decode cX2_order 199 = .ok (.lload 5, 2) := by decide +kernel
theorem dX2_order_201 : decode cX2_order 201 = .ok (.lastore, 1) := by decide +kernel
theorem dX2_order_202 : decode cX2_order 202 = .ok (.aload_n 0, 1) := by decide +kernel
theorem dX2_order_203 : decode cX2_order 203 = .ok (.getfield 26, 3) := by decide +kernel
theorem dX2_order_206 : decode cX2_order 206 = .ok (.aload_n 0, 1) := by decide +kernel
theorem dX2_order_207 : decode cX2_order 207 = .ok (.getfield 55, 3) := by decide +kernel
theorem dX2_order_210 : decode cX2_order 210 = .ok (.lload 7, 2) := by decide +kernel
theorem dX2_order_212 : decode cX2_order 212 = .ok (.lastore, 1) := by decide +kernel
theorem dX2_order_213 : decode cX2_order 213 = .ok (.aload_n 0, 1) := by decide +kernel
theorem dX2_order_214 : decode cX2_order 214 = .ok (.getfield 29, 3) := by decide +kernel
theorem dX2_order_217 : decode cX2_order 217 = .ok (.aload_n 0, 1) := by decide +kernel
theorem dX2_order_218 : decode cX2_order 218 = .ok (.getfield 55, 3) := by decide +kernel
theorem dX2_order_221 : decode cX2_order 221 = .ok (.aload_n 0, 1) := by decide +kernel
theorem dX2_order_222 : decode cX2_order 222 = .ok (.getfield 62, 3) := by decide +kernel
theorem dX2_order_225 : decode cX2_order 225 = .ok (.lastore, 1) := by decide +kernel
theorem dX2_order_226 : decode cX2_order 226 = .ok (.aload_n 0, 1) := by decide +kernel
theorem dX2_order_227 : decode cX2_order 227 = .ok (.getfield 36, 3) := by decide +kernel
theorem dX2_order_230 : decode cX2_order 230 = .ok (.aload_n 0, 1) := by decide +kernel
theorem dX2_order_231 : decode cX2_order 231 = .ok (.getfield 55, 3) := by decide +kernel
theorem dX2_order_234 : decode cX2_order 234 = .ok (.ldc2_w 70, 3) := by decide +kernel
theorem dX2_order_237 : decode cX2_order 237 = .ok (.lastore, 1) := by decide +kernel
theorem dX2_order_238 : decode cX2_order 238 = .ok (.aload_n 0, 1) := by decide +kernel
theorem dX2_order_239 : decode cX2_order 239 = .ok (.getfield 55, 3) := by decide +kernel
theorem dX2_order_242 : decode cX2_order 242 = .ok (.ireturn, 1) := by decide +kernel
theorem dX2_set_0 : decode cX2_set 0 = .ok (.aload_n 0, 1) := by decide +kernel
theorem dX2_set_1 : decode cX2_set 1 = .ok (.lload_n 1, 1) := by decide +kernel
theorem dX2_set_2 : decode cX2_set 2 = .ok (.putfield 62, 3) := by decide +kernel
theorem dX2_set_5 : decode cX2_set 5 = .ok (.iconst 0, 1) := by decide +kernel
theorem dX2_set_6 : decode cX2_set 6 = .ok (.istore_n 3, 1) := by decide +kernel
theorem dX2_set_7 : decode cX2_set 7 = .ok (.iconst 1, 1) := by decide +kernel
theorem dX2_set_8 : decode cX2_set 8 = .ok (.istore 4, 2) := by decide +kernel
theorem dX2_set_10 : decode cX2_set 10 = .ok (.iload 4, 2) := by decide +kernel
theorem dX2_set_12 : decode cX2_set 12 = .ok (.aload_n 0, 1) := by decide +kernel
theorem dX2_set_13 : decode cX2_set 13 = .ok (.getfield 55, 3) := by decide +kernel
theorem dX2_set_16 : decode cX2_set 16 = .ok (.if_icmp .gt 68, 3) := by decide +kernel
theorem dX2_set_19 : decode cX2_set 19 = .ok (.aload_n 0, 1) := by decide +kernel
theorem dX2_set_20 : decode cX2_set 20 = .ok (.getfield 32, 3) := by decide +kernel
theorem dX2_set_23 : decode cX2_set 23 = .ok (.iload 4, 2) := by decide +kernel
theorem dX2_set_25 : decode cX2_set 25 = .ok (.baload, 1) := by decide +kernel
theorem dX2_set_26 : decode cX2_set 26 = .ok (.ifCond .ne 52, 3) := by decide +kernel
theorem dX2_set_29 : decode cX2_set 29 = .ok (.aload_n 0, 1) := by decide +kernel
theorem dX2_set_30 : decode cX2_set 30 = .ok (.getfield 36, 3) := by decide +kernel
theorem dX2_set_33 : decode cX2_set 33 = .ok (.iload 4, 2) := by decide +kernel
theorem dX2_set_35 : decode cX2_set 35 = .ok (.laload, 1) := by decide +kernel
theorem dX2_set_36 : decode cX2_set 36 = .ok (.lconst 0, 1) := by decide +kernel
theorem dX2_set_37 : decode cX2_set 37 = .ok (.lcmp, 1) := by decide +kernel
theorem dX2_set_38 : decode cX2_set 38 = .ok (.ifCond .ge 40, 3) := by decide +kernel
theorem dX2_set_41 : decode cX2_set 41 = .ok (.lload_n 1, 1) := by decide +kernel
theorem dX2_set_42 : decode cX2_set 42 = .ok (.aload_n 0, 1) := by decide +kernel
theorem dX2_set_43 : decode cX2_set 43 = .ok (.getfield 29, 3) := by decide +kernel
theorem dX2_set_46 : decode cX2_set 46 = .ok (.iload 4, 2) := by decide +kernel
theorem dX2_set_48 : decode cX2_set 48 = .ok (.laload, 1) := by decide +kernel
theorem dX2_set_49 : decode cX2_set 49 = .ok (.lsub, 1) := by decide +kernel
theorem dX2_set_50 : decode cX2_set 50 = .ok (.ldc2_w 76, 3) := by decide +kernel
theorem dX2_set_53 : decode cX2_set 53 = .ok (.lcmp, 1) := by decide +kernel
theorem dX2_set_54 : decode cX2_set 54 = .ok (.ifCond .le 24, 3) := by decide +kernel
theorem dX2_set_57 : decode cX2_set 57 = .ok (.aload_n 0, 1) := by decide +kernel
theorem dX2_set_58 : decode cX2_set 58 = .ok (.getfield 36, 3) := by decide +kernel
theorem dX2_set_61 : decode cX2_set 61 = .ok (.iload 4, 2) := by decide +kernel
theorem dX2_set_63 : decode cX2_set 63 = .ok (.aload_n 0, 1) := by decide +kernel
theorem dX2_set_64 : decode cX2_set 64 = .ok (.getfield 29, 3) := by decide +kernel
theorem dX2_set_67 : decode cX2_set 67 = .ok (.iload 4, 2) := by decide +kernel
theorem dX2_set_69 : decode cX2_set 69 = .ok (.laload, 1) := by decide +kernel
theorem dX2_set_70 : decode cX2_set 70 = .ok (.ldc2_w 78, 3) := by decide +kernel
theorem dX2_set_73 : decode cX2_set 73 = .ok (.ladd, 1) := by decide +kernel
theorem dX2_set_74 : decode cX2_set 74 = .ok (.lastore, 1) := by decide +kernel
theorem dX2_set_75 : decode cX2_set 75 = .ok (.iinc 3 1, 3) := by decide +kernel
theorem dX2_set_78 : decode cX2_set 78 = .ok (.iinc 4 1, 3) := by decide +kernel
theorem dX2_set_81 : decode cX2_set 81 = .ok (.goto (-71), 3) := by decide +kernel
theorem dX2_set_84 : decode cX2_set 84 = .ok (.iload_n 3, 1) := by decide +kernel
theorem dX2_set_85 : decode cX2_set 85 = .ok (.ireturn, 1) := by decide +kernel
set_option maxRecDepth 20000 in
theorem ggX2_proof_X2_isOrder : GoodIn wsX2_proof wsX2_isOrder := goodIn_r _ [9, 10, 11, 12, 8, 13, 27, 28, 29, 30, 31, 32, 33, 34, 35, 36, 37, 38, 39, 40, 41, 42, 43] (by decide +kernel) (by decide +kernel)
set_option maxRecDepth 20000 in
theorem gX2_proof_X2_isOrder : GoodIn wsX2_proof (wsV RX2 80 RX2 yX2_isOrder wsX2_isOrder) := goodIn_app (goodIn_of _ (by decide +kernel)) ggX2_proof_X2_isOrder
set_option maxRecDepth 20000 in
theorem ggX2_proof_X2_isDay : GoodIn wsX2_proof wsX2_isDay := goodIn_r _ [17, 18, 19, 11, 12, 8, 13, 27, 28, 29, 30, 31, 32, 33, 34, 35, 36, 37, 38, 39, 40, 41, 42, 43] (by decide +kernel) (by decide +kernel)
set_option maxRecDepth 20000 in
theorem gX2_proof_X2_isDay : GoodIn wsX2_proof (wsV RX2 84 RX2 yX2_isDay wsX2_isDay) := goodIn_app (goodIn_of _ (by decide +kernel)) ggX2_proof_X2_isDay
set_option maxRecDepth 20000 in
theorem ggX2_proof_X2_set : GoodIn wsX2_proof wsX2_set := goodIn_r _ [23, 18, 10, 3, 2, 24, 25, 26, 27, 28, 29, 30, 31, 32, 33, 34, 35, 36, 37, 38, 39, 40, 41, 42, 43] (by decide +kernel) (by decide +kernel)
set_option maxRecDepth 20000 in
theorem gX2_proof_X2_set : GoodIn wsX2_proof (wsV RX2 88 RX2 yX2_set wsX2_set) := goodIn_app (goodIn_of _ (by decide +kernel)) ggX2_proof_X2_set
theorem dX2_proof_0 : decode cX2_proof 0 = .ok (.aload_n 0, 1) := by decide +kernel
theorem dX2_proof_1 : decode cX2_proof 1 = .ok (.iconst 0, 1) := by decide +kernel
theorem dX2_proof_2 : decode cX2_proof 2 = .ok (.putfield 52, 3) := by decide +kernel
theorem dX2_proof_5 : decode cX2_proof 5 = .ok (.aload_n 0, 1) := by decide +kernel
theorem dX2_proof_6 : decode cX2_proof 6 = .ok (.iload_n 1, 1) := by decide +kernel
theorem dX2_proof_7 : decode cX2_proof 7 = .ok (.invokevirtual 80, 3) := by decide +kernel
theorem dX2_proof_10 : decode cX2_proof 10 = .ok (.ifCond .ne 6, 3) := by decide +kernel
theorem dX2_proof_13 : decode cX2_proof 13 = .ok (.bipush (-101), 2) := by decide +kernel
theorem dX2_proof_15 : decode cX2_proof 15 = .ok (.ireturn, 1) := by decide +kernel
theorem dX2_proof_16 : decode cX2_proof 16 = .ok (.aload_n 0, 1) := by decide +kernel
theorem dX2_proof_17 : decode cX2_proof 17 = .ok (.lload_n 3, 1) := by decide +kernel
theorem dX2_proof_18 : decode cX2_proof 18 = .ok (.invokevirtual 84, 3) := by decide +kernel
theorem dX2_proof_21 : decode cX2_proof 21 = .ok (.ifCond .ne 6, 3) := by decide +kernel
theorem dX2_proof_24 : decode cX2_proof 24 = .ok (.bipush (-102), 2) := by decide +kernel
theorem dX2_proof_26 : decode cX2_proof 26 = .ok (.ireturn, 1) := by decide +kernel
theorem dX2_proof_27 : decode cX2_proof 27 = .ok (.aload_n 0, 1) := by decide +kernel
theorem dX2_proof_28 : decode cX2_proof 28 = .ok (.lload_n 3, 1) := by decide +kernel
theorem dX2_proof_29 : decode cX2_proof 29 = .ok (.invokevirtual 88, 3) := by decide +kernel
theorem dX2_proof_32 : decode cX2_proof 32 = .ok (.istore 5, 2) := by decide +kernel
theorem dX2_proof_34 : decode cX2_proof 34 = .ok (.aload_n 0, 1) := by decide +kernel
theorem dX2_proof_35 : decode cX2_proof 35 = .ok (.getfield 36, 3) := by decide +kernel
theorem dX2_proof_38 : decode cX2_proof 38 = .ok (.iload_n 1, 1) := by decide +kernel
theorem dX2_proof_39 : decode cX2_proof 39 = .ok (.laload, 1) := by decide +kernel
theorem dX2_proof_40 : decode cX2_proof 40 = .ok (.lconst 0, 1) := by decide +kernel
theorem dX2_proof_41 : decode cX2_proof 41 = .ok (.lcmp, 1) := by decide +kernel
theorem dX2_proof_42 : decode cX2_proof 42 = .ok (.ifCond .ge 12, 3) := by decide +kernel
theorem dX2_proof_45 : decode cX2_proof 45 = .ok (.aload_n 0, 1) := by decide +kernel
theorem dX2_proof_46 : decode cX2_proof 46 = .ok (.getfield 32, 3) := by decide +kernel
theorem dX2_proof_49 : decode cX2_proof 49 = .ok (.iload_n 1, 1) := by decide +kernel
theorem dX2_proof_50 : decode cX2_proof 50 = .ok (.baload, 1) := by decide +kernel
theorem dX2_proof_51 : decode cX2_proof 51 = .ok (.ifCond .eq 6, 3) := by decide +kernel
theorem dX2_proof_54 : decode cX2_proof 54 = .ok (.bipush (-103), 2) := by decide +kernel
theorem dX2_proof_56 : decode cX2_proof 56 = .ok (.ireturn, 1) := by decide +kernel
theorem dX2_proof_57 : decode cX2_proof 57 = .ok (.aload_n 0, 1) := by decide +kernel
theorem dX2_proof_58 : decode cX2_proof 58 = .ok (.getfield 32, 3) := by decide +kernel
theorem dX2_proof_61 : decode cX2_proof 61 = .ok (.iload_n 1, 1) := by decide +kernel
theorem dX2_proof_62 : decode cX2_proof 62 = .ok (.iload_n 2, 1) := by decide +kernel
theorem dX2_proof_63 : decode cX2_proof 63 = .ok (.bastore, 1) := by decide +kernel
theorem dX2_proof_64 : decode cX2_proof 64 = .ok (.aload_n 0, 1) := by decide +kernel
theorem dX2_proof_65 : decode cX2_proof 65 = .ok (.getfield 36, 3) := by decide +kernel
theorem dX2_proof_68 : decode cX2_proof 68 = .ok (.iload_n 1, 1) := by decide +kernel
theorem dX2_proof_69 : decode cX2_proof 69 = .ok (.iload_n 2, 1) := by decide +kernel
theorem dX2_proof_70 : decode cX2_proof 70 = .ok (.ifCond .eq 9, 3) := by decide +kernel
theorem dX2_proof_73 : decode cX2_proof 73 = .ok (.ldc2_w 70, 3) := by decide +kernel
theorem dX2_proof_76 : decode cX2_proof 76 = .ok (.goto 4, 3) := by decide +kernel
theorem dX2_proof_79 : decode cX2_proof 79 = .ok (.lload_n 3, 1) := by decide +kernel
theorem dX2_proof_80 : decode cX2_proof 80 = .ok (.lastore, 1) := by decide +kernel
theorem dX2_proof_81 : decode cX2_proof 81 = .ok (.iload_n 2, 1) := by decide +kernel
theorem dX2_proof_82 : decode cX2_proof 82 = .ok (.ifCond .eq 7, 3) := by decide +kernel
theorem dX2_proof_85 : decode cX2_proof 85 = .ok (.iconst 1, 1) := by decide +kernel
theorem dX2_proof_86 : decode cX2_proof 86 = .ok (.goto 4, 3) := by decide +kernel
theorem dX2_proof_89 : decode cX2_proof 89 = .ok (.iconst 0, 1) := by decide +kernel
theorem dX2_proof_90 : decode cX2_proof 90 = .ok (.ireturn, 1) := by decide +kernel
set_option maxRecDepth 20000 in
theorem ggX2_withdraw_X2_isOrder : GoodIn wsX2_withdraw wsX2_isOrder := goodIn_r _ [9, 10, 11, 12, 8, 13, 28, 29, 30, 31, 32, 33, 34, 35, 36, 37, 38, 39, 40, 41, 42, 43, 44] (by decide +kernel) (by decide +kernel)
set_option maxRecDepth 20000 in
theorem gX2_withdraw_X2_isOrder : GoodIn wsX2_withdraw (wsV RX2 80 RX2 yX2_isOrder wsX2_isOrder) := goodIn_app (goodIn_of _ (by decide +kernel)) ggX2_withdraw_X2_isOrder
set_option maxRecDepth 20000 in
theorem ggX2_withdraw_X2_isDay : GoodIn wsX2_withdraw wsX2_isDay := goodIn_r _ [17, 18, 19, 11, 12, 8, 13, 28, 29, 30, 31, 32, 33, 34, 35, 36, 37, 38, 39, 40, 41, 42, 43, 44] (by decide +kernel) (by decide +kernel)
set_option maxRecDepth 20000 in
theorem gX2_withdraw_X2_isDay : GoodIn wsX2_withdraw (wsV RX2 84 RX2 yX2_isDay wsX2_isDay) := goodIn_app (goodIn_of _ (by decide +kernel)) ggX2_withdraw_X2_isDay
set_option maxRecDepth 20000 in
theorem ggX2_withdraw_X2_set : GoodIn wsX2_withdraw wsX2_set := goodIn_r _ [23, 18, 10, 24, 2, 25, 26, 27, 28, 29, 30, 31, 32, 33, 34, 35, 36, 37, 38, 39, 40, 41, 42, 43, 44] (by decide +kernel) (by decide +kernel)
set_option maxRecDepth 20000 in
theorem gX2_withdraw_X2_set : GoodIn wsX2_withdraw (wsV RX2 88 RX2 yX2_set wsX2_set) := goodIn_app (goodIn_of _ (by decide +kernel)) ggX2_withdraw_X2_set
theorem dX2_withdraw_0 : decode cX2_withdraw 0 = .ok (.aload_n 0, 1) := by decide +kernel
theorem dX2_withdraw_1 : decode cX2_withdraw 1 = .ok (.iconst 0, 1) := by decide +kernel
theorem dX2_withdraw_2 : decode cX2_withdraw 2 = .ok (.putfield 52, 3) := by decide +kernel
theorem dX2_withdraw_5 : decode cX2_withdraw 5 = .ok (.aload_n 0, 1) := by decide +kernel
theorem dX2_withdraw_6 : decode cX2_withdraw 6 = .ok (.iload_n 1, 1) := by decide +kernel
theorem dX2_withdraw_7 : decode cX2_withdraw 7 = .ok (.invokevirtual 80, 3) := by decide +kernel
theorem dX2_withdraw_10 : decode cX2_withdraw 10 = .ok (.ifCond .ne 6, 3) := by decide +kernel
theorem dX2_withdraw_13 : decode cX2_withdraw 13 = .ok (.bipush (-101), 2) := by decide +kernel
theorem dX2_withdraw_15 : decode cX2_withdraw 15 = .ok (.ireturn, 1) := by decide +kernel
theorem dX2_withdraw_16 : decode cX2_withdraw 16 = .ok (.aload_n 0, 1) := by decide +kernel
theorem dX2_withdraw_17 : decode cX2_withdraw 17 = .ok (.lload_n 2, 1) := by decide +kernel
theorem dX2_withdraw_18 : decode cX2_withdraw 18 = .ok (.invokevirtual 84, 3) := by decide +kernel
theorem dX2_withdraw_21 : decode cX2_withdraw 21 = .ok (.ifCond .ne 6, 3) := by decide +kernel
theorem dX2_withdraw_24 : decode cX2_withdraw 24 = .ok (.bipush (-102), 2) := by decide +kernel
theorem dX2_withdraw_26 : decode cX2_withdraw 26 = .ok (.ireturn, 1) := by decide +kernel
theorem dX2_withdraw_27 : decode cX2_withdraw 27 = .ok (.aload_n 0, 1) := by decide +kernel
theorem dX2_withdraw_28 : decode cX2_withdraw 28 = .ok (.lload_n 2, 1) := by decide +kernel
theorem dX2_withdraw_29 : decode cX2_withdraw 29 = .ok (.invokevirtual 88, 3) := by decide +kernel
theorem dX2_withdraw_32 : decode cX2_withdraw 32 = .ok (.istore 4, 2) := by decide +kernel
theorem dX2_withdraw_34 : decode cX2_withdraw 34 = .ok (.aload_n 0, 1) := by decide +kernel
theorem dX2_withdraw_35 : decode cX2_withdraw 35 = .ok (.getfield 36, 3) := by decide +kernel
theorem dX2_withdraw_38 : decode cX2_withdraw 38 = .ok (.iload_n 1, 1) := by decide +kernel
theorem dX2_withdraw_39 : decode cX2_withdraw 39 = .ok (.laload, 1) := by decide +kernel
theorem dX2_withdraw_40 : decode cX2_withdraw 40 = .ok (.lconst 0, 1) := by decide +kernel
theorem dX2_withdraw_41 : decode cX2_withdraw 41 = .ok (.lcmp, 1) := by decide +kernel
theorem dX2_withdraw_42 : decode cX2_withdraw 42 = .ok (.ifCond .lt 6, 3) := by decide +kernel
theorem dX2_withdraw_45 : decode cX2_withdraw 45 = .ok (.bipush (-103), 2) := by decide +kernel
theorem dX2_withdraw_47 : decode cX2_withdraw 47 = .ok (.ireturn, 1) := by decide +kernel
theorem dX2_withdraw_48 : decode cX2_withdraw 48 = .ok (.iconst 0, 1) := by decide +kernel
theorem dX2_withdraw_49 : decode cX2_withdraw 49 = .ok (.istore 5, 2) := by decide +kernel
theorem dX2_withdraw_51 : decode cX2_withdraw 51 = .ok (.aload_n 0, 1) := by decide +kernel
theorem dX2_withdraw_52 : decode cX2_withdraw 52 = .ok (.getfield 22, 3) := by decide +kernel
theorem dX2_withdraw_55 : decode cX2_withdraw 55 = .ok (.iload_n 1, 1) := by decide +kernel
theorem dX2_withdraw_56 : decode cX2_withdraw 56 = .ok (.laload, 1) := by decide +kernel
theorem dX2_withdraw_57 : decode cX2_withdraw 57 = .ok (.lstore 6, 2) := by decide +kernel
theorem dX2_withdraw_59 : decode cX2_withdraw 59 = .ok (.lload 6, 2) := by decide +kernel
theorem dX2_withdraw_61 : decode cX2_withdraw 61 = .ok (.aload_n 0, 1) := by decide +kernel
theorem dX2_withdraw_62 : decode cX2_withdraw 62 = .ok (.getfield 26, 3) := by decide +kernel
theorem dX2_withdraw_65 : decode cX2_withdraw 65 = .ok (.iload_n 1, 1) := by decide +kernel
theorem dX2_withdraw_66 : decode cX2_withdraw 66 = .ok (.laload, 1) := by decide +kernel
theorem dX2_withdraw_67 : decode cX2_withdraw 67 = .ok (.lcmp, 1) := by decide +kernel
theorem dX2_withdraw_68 : decode cX2_withdraw 68 = .ok (.ifCond .gt 30, 3) := by decide +kernel
theorem dX2_withdraw_71 : decode cX2_withdraw 71 = .ok (.lload 6, 2) := by decide +kernel
theorem dX2_withdraw_73 : decode cX2_withdraw 73 = .ok (.lload_n 2, 1) := by decide +kernel
theorem dX2_withdraw_74 : decode cX2_withdraw 74 = .ok (.lcmp, 1) := by decide +kernel
theorem dX2_withdraw_75 : decode cX2_withdraw 75 = .ok (.ifCond .lt 10, 3) := by decide +kernel
theorem dX2_withdraw_78 : decode cX2_withdraw 78 = .ok (.iload 5, 2) := by decide +kernel
theorem dX2_withdraw_80 : decode cX2_withdraw 80 = .ok (.iconst 1, 1) := by decide +kernel
theorem dX2_withdraw_81 : decode cX2_withdraw 81 = .ok (.iadd, 1) := by decide +kernel
theorem dX2_withdraw_82 : decode cX2_withdraw 82 = .ok (.goto 5, 3) := by decide +kernel
theorem dX2_withdraw_85 : decode cX2_withdraw 85 = .ok (.iload 5, 2) := by decide +kernel
theorem dX2_withdraw_87 : decode cX2_withdraw 87 = .ok (.istore 5, 2) := by decide +kernel
theorem dX2_withdraw_89 : decode cX2_withdraw 89 = .ok (.lload 6, 2) := by decide +kernel
theorem dX2_withdraw_91 : decode cX2_withdraw 91 = .ok (.lconst 1, 1) := by decide +kernel
theorem dX2_withdraw_92 : decode cX2_withdraw 92 = .ok (.ladd, 1) := by decide +kernel
theorem dX2_withdraw_93 : decode cX2_withdraw 93 = .ok (.lstore 6, 2) := by decide +kernel
theorem dX2_withdraw_95 : decode cX2_withdraw 95 = .ok (.goto (-36), 3) := by decide +kernel
theorem dX2_withdraw_98 : decode cX2_withdraw 98 = .ok (.aload_n 0, 1) := by decide +kernel
theorem dX2_withdraw_99 : decode cX2_withdraw 99 = .ok (.getfield 36, 3) := by decide +kernel
theorem dX2_withdraw_102 : decode cX2_withdraw 102 = .ok (.iload_n 1, 1) := by decide +kernel
theorem dX2_withdraw_103 : decode cX2_withdraw 103 = .ok (.lload_n 2, 1) := by decide +kernel
theorem dX2_withdraw_104 : decode cX2_withdraw 104 = .ok (.lastore, 1) := by decide +kernel
theorem dX2_withdraw_105 : decode cX2_withdraw 105 = .ok (.iload 5, 2) := by decide +kernel
theorem dX2_withdraw_107 : decode cX2_withdraw 107 = .ok (.ireturn, 1) := by decide +kernel
set_option maxRecDepth 20000 in
theorem ggX2_isForce_X2_isIn : GoodIn wsX2_isForce wsX2_isIn := goodIn_r _ [7] (by decide +kernel) (by decide +kernel)
set_option maxRecDepth 20000 in
theorem gX2_isForce_X2_isIn : GoodIn wsX2_isForce (va_wsS RX2 58 yX2_isIn wsX2_isIn) := goodIn_app (goodIn_of _ (by decide +kernel)) ggX2_isForce_X2_isIn
theorem dX2_isForce_0 : decode cX2_isForce 0 = .ok (.lload_n 2, 1) := by decide +kernel
theorem dX2_isForce_1 : decode cX2_isForce 1 = .ok (.aload_n 0, 1) := by decide +kernel
theorem dX2_isForce_2 : decode cX2_isForce 2 = .ok (.getfield 22, 3) := by decide +kernel
theorem dX2_isForce_5 : decode cX2_isForce 5 = .ok (.iload_n 1, 1) := by decide +kernel
theorem dX2_isForce_6 : decode cX2_isForce 6 = .ok (.laload, 1) := by decide +kernel
theorem dX2_isForce_7 : decode cX2_isForce 7 = .ok (.aload_n 0, 1) := by decide +kernel
theorem dX2_isForce_8 : decode cX2_isForce 8 = .ok (.getfield 26, 3) := by decide +kernel
theorem dX2_isForce_11 : decode cX2_isForce 11 = .ok (.iload_n 1, 1) := by decide +kernel
theorem dX2_isForce_12 : decode cX2_isForce 12 = .ok (.laload, 1) := by decide +kernel
theorem dX2_isForce_13 : decode cX2_isForce 13 = .ok (.invokestatic 58, 3) := by decide +kernel
theorem dX2_isForce_16 : decode cX2_isForce 16 = .ok (.ifCond .eq 29, 3) := by decide +kernel
theorem dX2_isForce_19 : decode cX2_isForce 19 = .ok (.aload_n 0, 1) := by decide +kernel
theorem dX2_isForce_20 : decode cX2_isForce 20 = .ok (.getfield 36, 3) := by decide +kernel
theorem dX2_isForce_23 : decode cX2_isForce 23 = .ok (.iload_n 1, 1) := by decide +kernel
theorem dX2_isForce_24 : decode cX2_isForce 24 = .ok (.laload, 1) := by decide +kernel
theorem dX2_isForce_25 : decode cX2_isForce 25 = .ok (.lconst 0, 1) := by decide +kernel
theorem dX2_isForce_26 : decode cX2_isForce 26 = .ok (.lcmp, 1) := by decide +kernel
theorem dX2_isForce_27 : decode cX2_isForce 27 = .ok (.ifCond .lt 14, 3) := by decide +kernel
theorem dX2_isForce_30 : decode cX2_isForce 30 = .ok (.lload_n 2, 1) := by decide +kernel
theorem dX2_isForce_31 : decode cX2_isForce 31 = .ok (.aload_n 0, 1) := by decide +kernel
theorem dX2_isForce_32 : decode cX2_isForce 32 = .ok (.getfield 36, 3) := by decide +kernel
theorem dX2_isForce_35 : decode cX2_isForce 35 = .ok (.iload_n 1, 1) := by decide +kernel
theorem dX2_isForce_36 : decode cX2_isForce 36 = .ok (.laload, 1) := by decide +kernel
theorem dX2_isForce_37 : decode cX2_isForce 37 = .ok (.lcmp, 1) := by decide +kernel
theorem dX2_isForce_38 : decode cX2_isForce 38 = .ok (.ifCond .ge 7, 3) := by decide +kernel
theorem dX2_isForce_41 : decode cX2_isForce 41 = .ok (.iconst 1, 1) := by decide +kernel
theorem dX2_isForce_42 : decode cX2_isForce 42 = .ok (.goto 4, 3) := by decide +kernel
theorem dX2_isForce_45 : decode cX2_isForce 45 = .ok (.iconst 0, 1) := by decide +kernel
theorem dX2_isForce_46 : decode cX2_isForce 46 = .ok (.ireturn, 1) := by decide +kernel
set_option maxRecDepth 20000 in
theorem ggX2_find_X2_isForce : GoodIn wsX2_find wsX2_isForce := goodIn_r _ [10, 11, 12, 13, 14, 15, 9, 16, 17, 18, 19, 20, 21, 22, 23, 24, 25, 26, 27, 28, 29, 30, 31, 32, 33] (by decide +kernel) (by decide +kernel)
set_option maxRecDepth 20000 in
theorem gX2_find_X2_isForce : GoodIn wsX2_find (wsV RX2 92 RX2 yX2_isForce wsX2_isForce) := goodIn_app (goodIn_of _ (by decide +kernel)) ggX2_find_X2_isForce
theorem dX2_find_0 : decode cX2_find 0 = .ok (.iconst 0, 1) := by decide +kernel
theorem dX2_find_1 : decode cX2_find 1 = .ok (.istore 6, 2) := by decide +kernel
theorem dX2_find_3 : decode cX2_find 3 = .ok (.aload_n 0, 1) := by decide +kernel
theorem dX2_find_4 : decode cX2_find 4 = .ok (.getfield 55, 3) := by decide +kernel
theorem dX2_find_7 : decode cX2_find 7 = .ok (.istore 7, 2) := by decide +kernel
theorem dX2_find_9 : decode cX2_find 9 = .ok (.iload 7, 2) := by decide +kernel
theorem dX2_find_11 : decode cX2_find 11 = .ok (.ifCond .le 118, 3) := by decide +kernel
theorem dX2_find_14 : decode cX2_find 14 = .ok (.aload_n 0, 1) := by decide +kernel
theorem dX2_find_15 : decode cX2_find 15 = .ok (.getfield 13, 3) := by decide +kernel
theorem dX2_find_18 : decode cX2_find 18 = .ok (.iload 7, 2) := by decide +kernel
theorem dX2_find_20 : decode cX2_find 20 = .ok (.iaload, 1) := by decide +kernel
theorem dX2_find_21 : decode cX2_find 21 = .ok (.iload_n 1, 1) := by decide +kernel
theorem dX2_find_22 : decode cX2_find 22 = .ok (.if_icmp .ne 52, 3) := by decide +kernel
theorem dX2_find_25 : decode cX2_find 25 = .ok (.aload_n 0, 1) := by decide +kernel
theorem dX2_find_26 : decode cX2_find 26 = .ok (.getfield 16, 3) := by decide +kernel
theorem dX2_find_29 : decode cX2_find 29 = .ok (.iload 7, 2) := by decide +kernel
theorem dX2_find_31 : decode cX2_find 31 = .ok (.iaload, 1) := by decide +kernel
theorem dX2_find_32 : decode cX2_find 32 = .ok (.ifCond .lt 14, 3) := by decide +kernel
theorem dX2_find_35 : decode cX2_find 35 = .ok (.aload_n 0, 1) := by decide +kernel
theorem dX2_find_36 : decode cX2_find 36 = .ok (.getfield 16, 3) := by decide +kernel
theorem dX2_find_39 : decode cX2_find 39 = .ok (.iload 7, 2) := by decide +kernel
theorem dX2_find_41 : decode cX2_find 41 = .ok (.iaload, 1) := by decide +kernel
theorem dX2_find_42 : decode cX2_find 42 = .ok (.iload_n 2, 1) := by decide +kernel
theorem dX2_find_43 : decode cX2_find 43 = .ok (.if_icmp .ne 31, 3) := by decide +kernel
theorem dX2_find_46 : decode cX2_find 46 = .ok (.aload_n 0, 1) := by decide +kernel
theorem dX2_find_47 : decode cX2_find 47 = .ok (.getfield 7, 3) := by decide +kernel
theorem dX2_find_50 : decode cX2_find 50 = .ok (.iload 7, 2) := by decide +kernel
theorem dX2_find_52 : decode cX2_find 52 = .ok (.iaload, 1) := by decide +kernel
theorem dX2_find_53 : decode cX2_find 53 = .ok (.iconst 3, 1) := by decide +kernel
theorem dX2_find_54 : decode cX2_find 54 = .ok (.irem, 1) := by decide +kernel
theorem dX2_find_55 : decode cX2_find 55 = .ok (.iload_n 3, 1) := by decide +kernel
theorem dX2_find_56 : decode cX2_find 56 = .ok (.if_icmp .ne 18, 3) := by decide +kernel
theorem dX2_find_59 : decode cX2_find 59 = .ok (.aload_n 0, 1) := by decide +kernel
theorem dX2_find_60 : decode cX2_find 60 = .ok (.iload 7, 2) := by decide +kernel
theorem dX2_find_62 : decode cX2_find 62 = .ok (.lload 4, 2) := by decide +kernel
theorem dX2_find_64 : decode cX2_find 64 = .ok (.invokevirtual 92, 3) := by decide +kernel
theorem dX2_find_67 : decode cX2_find 67 = .ok (.ifCond .eq 7, 3) := by decide +kernel
theorem dX2_find_70 : decode cX2_find 70 = .ok (.iconst 1, 1) := by decide +kernel
theorem dX2_find_71 : decode cX2_find 71 = .ok (.goto 4, 3) := by decide +kernel
theorem dX2_find_74 : decode cX2_find 74 = .ok (.iconst 0, 1) := by decide +kernel
theorem dX2_find_75 : decode cX2_find 75 = .ok (.istore 8, 2) := by decide +kernel
theorem dX2_find_77 : decode cX2_find 77 = .ok (.iload 8, 2) := by decide +kernel
theorem dX2_find_79 : decode cX2_find 79 = .ok (.ifCond .eq 40, 3) := by decide +kernel
theorem dX2_find_82 : decode cX2_find 82 = .ok (.iload 6, 2) := by decide +kernel
theorem dX2_find_84 : decode cX2_find 84 = .ok (.ifCond .eq 30, 3) := by decide +kernel
theorem dX2_find_87 : decode cX2_find 87 = .ok (.aload_n 0, 1) := by decide +kernel
theorem dX2_find_88 : decode cX2_find 88 = .ok (.getfield 39, 3) := by decide +kernel
theorem dX2_find_91 : decode cX2_find 91 = .ok (.aload_n 0, 1) := by decide +kernel
theorem dX2_find_92 : decode cX2_find 92 = .ok (.getfield 7, 3) := by decide +kernel
theorem dX2_find_95 : decode cX2_find 95 = .ok (.iload 7, 2) := by decide +kernel
theorem dX2_find_97 : decode cX2_find 97 = .ok (.iaload, 1) := by decide +kernel
theorem dX2_find_98 : decode cX2_find 98 = .ok (.iaload, 1) := by decide +kernel
theorem dX2_find_99 : decode cX2_find 99 = .ok (.aload_n 0, 1) := by decide +kernel
theorem dX2_find_100 : decode cX2_find 100 = .ok (.getfield 39, 3) := by decide +kernel
theorem dX2_find_103 : decode cX2_find 103 = .ok (.aload_n 0, 1) := by decide +kernel
theorem dX2_find_104 : decode cX2_find 104 = .ok (.getfield 7, 3) := by decide +kernel
theorem dX2_find_107 : decode cX2_find 107 = .ok (.iload 6, 2) := by decide +kernel
theorem dX2_find_109 : decode cX2_find 109 = .ok (.iaload, 1) := by decide +kernel
theorem dX2_find_110 : decode cX2_find 110 = .ok (.iaload, 1) := by decide +kernel
theorem dX2_find_111 : decode cX2_find 111 = .ok (.if_icmp .le 8, 3) := by decide +kernel
theorem dX2_find_114 : decode cX2_find 114 = .ok (.iload 7, 2) := by decide +kernel
theorem dX2_find_116 : decode cX2_find 116 = .ok (.goto 5, 3) := by decide +kernel
theorem dX2_find_119 : decode cX2_find 119 = .ok (.iload 6, 2) := by decide +kernel
theorem dX2_find_121 : decode cX2_find 121 = .ok (.istore 6, 2) := by decide +kernel
theorem dX2_find_123 : decode cX2_find 123 = .ok (.iinc 7 (-1), 3) := by decide +kernel
theorem dX2_find_126 : decode cX2_find 126 = .ok (.goto (-117), 3) := by decide +kernel
theorem dX2_find_129 : decode cX2_find 129 = .ok (.iload 6, 2) := by decide +kernel
theorem dX2_find_131 : decode cX2_find 131 = .ok (.ireturn, 1) := by decide +kernel
set_option maxRecDepth 20000 in
theorem ggX2_effective_X2_isIn : GoodIn wsX2_effective wsX2_isIn := goodIn_r _ [14] (by decide +kernel) (by decide +kernel)
set_option maxRecDepth 20000 in
theorem gX2_effective_X2_isIn : GoodIn wsX2_effective (va_wsS RX2 58 yX2_isIn wsX2_isIn) := goodIn_app (goodIn_of _ (by decide +kernel)) ggX2_effective_X2_isIn
set_option maxRecDepth 20000 in
theorem ggX2_effective_X2_find : GoodIn wsX2_effective wsX2_find := goodIn_r _ [18, 19, 20, 21, 7, 22, 23, 24, 25, 13, 26, 27, 28, 29, 11, 12, 14, 30, 31, 32, 33, 34, 35, 36, 37, 38, 39, 40, 41, 42, 43, 44, 45, 46] (by decide +kernel) (by decide +kernel)
set_option maxRecDepth 20000 in
theorem gX2_effective_X2_find : GoodIn wsX2_effective (wsV RX2 98 RX2 yX2_find wsX2_find) := goodIn_app (goodIn_of _ (by decide +kernel)) ggX2_effective_X2_find
theorem dX2_effective_0 : decode cX2_effective 0 = .ok (.aload_n 0, 1) := by decide +kernel
theorem dX2_effective_1 : decode cX2_effective 1 = .ok (.iconst 0, 1) := by decide +kernel
theorem dX2_effective_2 : decode cX2_effective 2 = .ok (.putfield 52, 3) := by decide +kernel
theorem dX2_effective_5 : decode cX2_effective 5 = .ok (.iload_n 1, 1) := by decide +kernel
theorem dX2_effective_6 : decode cX2_effective 6 = .ok (.i2l, 1) := by decide +kernel
theorem dX2_effective_7 : decode cX2_effective 7 = .ok (.lconst 1, 1) := by decide +kernel
theorem dX2_effective_8 : decode cX2_effective 8 = .ok (.ldc2_w 68, 3) := by decide +kernel
theorem dX2_effective_11 : decode cX2_effective 11 = .ok (.invokestatic 58, 3) := by decide +kernel
theorem dX2_effective_14 : decode cX2_effective 14 = .ok (.ifCond .eq 15, 3) := by decide +kernel
theorem dX2_effective_17 : decode cX2_effective 17 = .ok (.iload_n 2, 1) := by decide +kernel
theorem dX2_effective_18 : decode cX2_effective 18 = .ok (.i2l, 1) := by decide +kernel
theorem dX2_effective_19 : decode cX2_effective 19 = .ok (.lconst 0, 1) := by decide +kernel
theorem dX2_effective_20 : decode cX2_effective 20 = .ok (.ldc2_w 72, 3) := by decide +kernel
theorem dX2_effective_23 : decode cX2_effective 23 = .ok (.invokestatic 58, 3) := by decide +kernel
theorem dX2_effective_26 : decode cX2_effective 26 = .ok (.ifCond .ne 6, 3) := by decide +kernel
theorem dX2_effective_29 : decode cX2_effective 29 = .ok (.bipush (-101), 2) := by decide +kernel
theorem dX2_effective_31 : decode cX2_effective 31 = .ok (.ireturn, 1) := by decide +kernel
theorem dX2_effective_32 : decode cX2_effective 32 = .ok (.iload_n 3, 1) := by decide +kernel
theorem dX2_effective_33 : decode cX2_effective 33 = .ok (.i2l, 1) := by decide +kernel
theorem dX2_effective_34 : decode cX2_effective 34 = .ok (.lconst 0, 1) := by decide +kernel
theorem dX2_effective_35 : decode cX2_effective 35 = .ok (.ldc2_w 96, 3) := by decide +kernel
theorem dX2_effective_38 : decode cX2_effective 38 = .ok (.invokestatic 58, 3) := by decide +kernel
theorem dX2_effective_41 : decode cX2_effective 41 = .ok (.ifCond .eq 15, 3) := by decide +kernel
theorem dX2_effective_44 : decode cX2_effective 44 = .ok (.lload 4, 2) := by decide +kernel
theorem dX2_effective_46 : decode cX2_effective 46 = .ok (.lconst 0, 1) := by decide +kernel
theorem dX2_effective_47 : decode cX2_effective 47 = .ok (.ldc2_w 66, 3) := by decide +kernel
theorem dX2_effective_50 : decode cX2_effective 50 = .ok (.invokestatic 58, 3) := by decide +kernel
theorem dX2_effective_53 : decode cX2_effective 53 = .ok (.ifCond .ne 6, 3) := by decide +kernel
theorem dX2_effective_56 : decode cX2_effective 56 = .ok (.bipush (-102), 2) := by decide +kernel
theorem dX2_effective_58 : decode cX2_effective 58 = .ok (.ireturn, 1) := by decide +kernel
theorem dX2_effective_59 : decode cX2_effective 59 = .ok (.aload_n 0, 1) := by decide +kernel
theorem dX2_effective_60 : decode cX2_effective 60 = .ok (.getfield 42, 3) := by decide +kernel
theorem dX2_effective_63 : decode cX2_effective 63 = .ok (.iconst 0, 1) := by decide +kernel
theorem dX2_effective_64 : decode cX2_effective 64 = .ok (.iload_n 1, 1) := by decide +kernel
theorem dX2_effective_65 : decode cX2_effective 65 = .ok (.iastore, 1) := by decide +kernel
theorem dX2_effective_66 : decode cX2_effective 66 = .ok (.iconst 1, 1) := by decide +kernel
theorem dX2_effective_67 : decode cX2_effective 67 = .ok (.istore 6, 2) := by decide +kernel
theorem dX2_effective_69 : decode cX2_effective 69 = .ok (.iload 6, 2) := by decide +kernel
theorem dX2_effective_71 : decode cX2_effective 71 = .ok (.bipush 101, 2) := by decide +kernel
theorem dX2_effective_73 : decode cX2_effective 73 = .ok (.if_icmp .ge 173, 3) := by decide +kernel
theorem dX2_effective_76 : decode cX2_effective 76 = .ok (.aload_n 0, 1) := by decide +kernel
theorem dX2_effective_77 : decode cX2_effective 77 = .ok (.aload_n 0, 1) := by decide +kernel
theorem dX2_effective_78 : decode cX2_effective 78 = .ok (.getfield 42, 3) := by decide +kernel
theorem dX2_effective_81 : decode cX2_effective 81 = .ok (.iload 6, 2) := by decide +kernel
theorem dX2_effective_83 : decode cX2_effective 83 = .ok (.iconst 1, 1) := by decide +kernel
theorem dX2_effective_84 : decode cX2_effective 84 = .ok (.isub, 1) := by decide +kernel
theorem dX2_effective_85 : decode cX2_effective 85 = .ok (.iaload, 1) := by decide +kernel
theorem dX2_effective_86 : decode cX2_effective 86 = .ok (.iload_n 2, 1) := by decide +kernel
theorem dX2_effective_87 : decode cX2_effective 87 = .ok (.iload_n 3, 1) := by decide +kernel
theorem dX2_effective_88 : decode cX2_effective 88 = .ok (.lload 4, 2) := by decide +kernel
theorem dX2_effective_90 : decode cX2_effective 90 = .ok (.invokevirtual 98, 3) := by decide +kernel
theorem dX2_effective_93 : decode cX2_effective 93 = .ok (.istore 7, 2) := by decide +kernel
theorem dX2_effective_95 : decode cX2_effective 95 = .ok (.iload 7, 2) := by decide +kernel
theorem dX2_effective_97 : decode cX2_effective 97 = .ok (.ifCond .eq 14, 3) := by decide +kernel
theorem dX2_effective_100 : decode cX2_effective 100 = .ok (.aload_n 0, 1) := by decide +kernel
theorem dX2_effective_101 : decode cX2_effective 101 = .ok (.getfield 7, 3) := by decide +kernel
theorem dX2_effective_104 : decode cX2_effective 104 = .ok (.iload 7, 2) := by decide +kernel
theorem dX2_effective_106 : decode cX2_effective 106 = .ok (.iaload, 1) := by decide +kernel
theorem dX2_effective_107 : decode cX2_effective 107 = .ok (.iconst 2, 1) := by decide +kernel
theorem dX2_effective_108 : decode cX2_effective 108 = .ok (.if_icmp .le 39, 3) := by decide +kernel
theorem dX2_effective_111 : decode cX2_effective 111 = .ok (.iload 7, 2) := by decide +kernel
theorem dX2_effective_113 : decode cX2_effective 113 = .ok (.ifCond .ne 15, 3) := by decide +kernel
theorem dX2_effective_116 : decode cX2_effective 116 = .ok (.aload_n 0, 1) := by decide +kernel
theorem dX2_effective_117 : decode cX2_effective 117 = .ok (.getfield 42, 3) := by decide +kernel
theorem dX2_effective_120 : decode cX2_effective 120 = .ok (.iload 6, 2) := by decide +kernel
theorem dX2_effective_122 : decode cX2_effective 122 = .ok (.iconst 1, 1) := by decide +kernel
theorem dX2_effective_123 : decode cX2_effective 123 = .ok (.isub, 1) := by decide +kernel
theorem dX2_effective_124 : decode cX2_effective 124 = .ok (.iaload, 1) := by decide +kernel
theorem dX2_effective_125 : decode cX2_effective 125 = .ok (.goto 21, 3) := by decide +kernel
theorem dX2_effective_128 : decode cX2_effective 128 = .ok (.aload_n 0, 1) := by decide +kernel
theorem dX2_effective_129 : decode cX2_effective 129 = .ok (.getfield 7, 3) := by decide +kernel
theorem dX2_effective_132 : decode cX2_effective 132 = .ok (.iload 7, 2) := by decide +kernel
theorem dX2_effective_134 : decode cX2_effective 134 = .ok (.iaload, 1) := by decide +kernel
theorem dX2_effective_135 : decode cX2_effective 135 = .ok (.bipush 6, 2) := by decide +kernel
theorem dX2_effective_137 : decode cX2_effective 137 = .ok (.if_icmp .ge 7, 3) := by decide +kernel
theorem dX2_effective_140 : decode cX2_effective 140 = .ok (.iconst 0, 1) := by decide +kernel
theorem dX2_effective_141 : decode cX2_effective 141 = .ok (.goto 5, 3) := by decide +kernel
theorem dX2_effective_144 : decode cX2_effective 144 = .ok (.bipush (-2), 2) := by decide +kernel
theorem dX2_effective_146 : decode cX2_effective 146 = .ok (.ireturn, 1) := by decide +kernel
theorem dX2_effective_147 : decode cX2_effective 147 = .ok (.aload_n 0, 1) := by decide +kernel
theorem dX2_effective_148 : decode cX2_effective 148 = .ok (.getfield 42, 3) := by decide +kernel
theorem dX2_effective_151 : decode cX2_effective 151 = .ok (.iload 6, 2) := by decide +kernel
theorem dX2_effective_153 : decode cX2_effective 153 = .ok (.aload_n 0, 1) := by decide +kernel
theorem dX2_effective_154 : decode cX2_effective 154 = .ok (.getfield 19, 3) := by decide +kernel
theorem dX2_effective_157 : decode cX2_effective 157 = .ok (.iload 7, 2) := by decide +kernel
theorem dX2_effective_159 : decode cX2_effective 159 = .ok (.iaload, 1) := by decide +kernel
theorem dX2_effective_160 : decode cX2_effective 160 = .ok (.iastore, 1) := by decide +kernel
theorem dX2_effective_161 : decode cX2_effective 161 = .ok (.iconst 0, 1) := by decide +kernel
theorem dX2_effective_162 : decode cX2_effective 162 = .ok (.istore 8, 2) := by decide +kernel
theorem dX2_effective_164 : decode cX2_effective 164 = .ok (.aload_n 0, 1) := by decide +kernel
theorem dX2_effective_165 : decode cX2_effective 165 = .ok (.getfield 42, 3) := by decide +kernel
theorem dX2_effective_168 : decode cX2_effective 168 = .ok (.iload 8, 2) := by decide +kernel
theorem dX2_effective_170 : decode cX2_effective 170 = .ok (.iaload, 1) := by decide +kernel
theorem dX2_effective_171 : decode cX2_effective 171 = .ok (.aload_n 0, 1) := by decide +kernel
theorem dX2_effective_172 : decode cX2_effective 172 = .ok (.getfield 42, 3) := by decide +kernel
theorem dX2_effective_175 : decode cX2_effective 175 = .ok (.iload 6, 2) := by decide +kernel
theorem dX2_effective_177 : decode cX2_effective 177 = .ok (.iaload, 1) := by decide +kernel
theorem dX2_effective_178 : decode cX2_effective 178 = .ok (.if_icmp .eq 9, 3) := by decide +kernel
theorem dX2_effective_181 : decode cX2_effective 181 = .ok (.iinc 8 1, 3) := by decide +kernel
theorem dX2_effective_184 : decode cX2_effective 184 = .ok (.goto (-20), 3) := by decide +kernel
theorem dX2_effective_187 : decode cX2_effective 187 = .ok (.iload 8, 2) := by decide +kernel
theorem dX2_effective_189 : decode cX2_effective 189 = .ok (.iload 6, 2) := by decide +kernel
theorem dX2_effective_191 : decode cX2_effective 191 = .ok (.if_icmp .ge 49, 3) := by decide +kernel
theorem dX2_effective_194 : decode cX2_effective 194 = .ok (.aload_n 0, 1) := by decide +kernel
theorem dX2_effective_195 : decode cX2_effective 195 = .ok (.iload 6, 2) := by decide +kernel
theorem dX2_effective_197 : decode cX2_effective 197 = .ok (.iload 8, 2) := by decide +kernel
theorem dX2_effective_199 : decode cX2_effective 199 = .ok (.isub, 1) := by decide +kernel
theorem dX2_effective_200 : decode cX2_effective 200 = .ok (.putfield 48, 3) := by decide +kernel
theorem dX2_effective_203 : decode cX2_effective 203 = .ok (.iconst 0, 1) := by decide +kernel
theorem dX2_effective_204 : decode cX2_effective 204 = .ok (.istore 9, 2) := by decide +kernel
theorem dX2_effective_206 : decode cX2_effective 206 = .ok (.iload 9, 2) := by decide +kernel
theorem dX2_effective_208 : decode cX2_effective 208 = .ok (.aload_n 0, 1) := by decide +kernel
theorem dX2_effective_209 : decode cX2_effective 209 = .ok (.getfield 48, 3) := by decide +kernel
theorem dX2_effective_212 : decode cX2_effective 212 = .ok (.if_icmp .ge 26, 3) := by decide +kernel
theorem dX2_effective_215 : decode cX2_effective 215 = .ok (.aload_n 0, 1) := by decide +kernel
theorem dX2_effective_216 : decode cX2_effective 216 = .ok (.getfield 45, 3) := by decide +kernel
theorem dX2_effective_219 : decode cX2_effective 219 = .ok (.iload 9, 2) := by decide +kernel
theorem dX2_effective_221 : decode cX2_effective 221 = .ok (.aload_n 0, 1) := by decide +kernel
theorem dX2_effective_222 : decode cX2_effective 222 = .ok (.getfield 42, 3) := by decide +kernel
theorem dX2_effective_225 : decode cX2_effective 225 = .ok (.iload 8, 2) := by decide +kernel
theorem dX2_effective_227 : decode cX2_effective 227 = .ok (.iload 9, 2) := by decide +kernel
theorem dX2_effective_229 : decode cX2_effective 229 = .ok (.iadd, 1) := by decide +kernel
theorem dX2_effective_230 : decode cX2_effective 230 = .ok (.iaload, 1) := by decide +kernel
theorem dX2_effective_231 : decode cX2_effective 231 = .ok (.iastore, 1) := by decide +kernel
theorem dX2_effective_232 : decode cX2_effective 232 = .ok (.iinc 9 1, 3) := by decide +kernel
theorem dX2_effective_235 : decode cX2_effective 235 = .ok (.goto (-29), 3) := by decide +kernel
theorem dX2_effective_238 : decode cX2_effective 238 = .ok (.iconst (-1), 1) := by decide +kernel
theorem dX2_effective_239 : decode cX2_effective 239 = .ok (.ireturn, 1) := by decide +kernel
theorem dX2_effective_240 : decode cX2_effective 240 = .ok (.iinc 6 1, 3) := by decide +kernel
theorem dX2_effective_243 : decode cX2_effective 243 = .ok (.goto (-174), 3) := by decide +kernel
theorem dX2_effective_246 : decode cX2_effective 246 = .ok (.iconst (-1), 1) := by decide +kernel
theorem dX2_effective_247 : decode cX2_effective 247 = .ok (.ireturn, 1) := by decide +kernel
theorem dX2_ring_0 : decode cX2_ring 0 = .ok (.aload_n 0, 1) := by decide +kernel
theorem dX2_ring_1 : decode cX2_ring 1 = .ok (.iconst 0, 1) := by decide +kernel
theorem dX2_ring_2 : decode cX2_ring 2 = .ok (.putfield 52, 3) := by decide +kernel
theorem dX2_ring_5 : decode cX2_ring 5 = .ok (.iload_n 1, 1) := by decide +kernel
theorem dX2_ring_6 : decode cX2_ring 6 = .ok (.ifCond .lt 20, 3) := by decide +kernel
theorem dX2_ring_9 : decode cX2_ring 9 = .ok (.iload_n 1, 1) := by decide +kernel
theorem dX2_ring_10 : decode cX2_ring 10 = .ok (.aload_n 0, 1) := by decide +kernel
theorem dX2_ring_11 : decode cX2_ring 11 = .ok (.getfield 48, 3) := by decide +kernel
theorem dX2_ring_14 : decode cX2_ring 14 = .ok (.if_icmp .ge 12, 3) := by decide +kernel
theorem dX2_ring_17 : decode cX2_ring 17 = .ok (.aload_n 0, 1) := by decide +kernel
theorem dX2_ring_18 : decode cX2_ring 18 = .ok (.getfield 45, 3) := by decide +kernel
theorem dX2_ring_21 : decode cX2_ring 21 = .ok (.iload_n 1, 1) := by decide +kernel
theorem dX2_ring_22 : decode cX2_ring 22 = .ok (.iaload, 1) := by decide +kernel
theorem dX2_ring_23 : decode cX2_ring 23 = .ok (.goto 4, 3) := by decide +kernel
theorem dX2_ring_26 : decode cX2_ring 26 = .ok (.iconst 0, 1) := by decide +kernel
theorem dX2_ring_27 : decode cX2_ring 27 = .ok (.ireturn, 1) := by decide +kernel
set_option maxRecDepth 20000 in
theorem ggX2_rank_X2_isIn : GoodIn wsX2_rank wsX2_isIn := goodIn_r _ [8] (by decide +kernel) (by decide +kernel)
set_option maxRecDepth 20000 in
theorem gX2_rank_X2_isIn : GoodIn wsX2_rank (va_wsS RX2 58 yX2_isIn wsX2_isIn) := goodIn_app (goodIn_of _ (by decide +kernel)) ggX2_rank_X2_isIn
theorem dX2_rank_0 : decode cX2_rank 0 = .ok (.aload_n 0, 1) := by decide +kernel
theorem dX2_rank_1 : decode cX2_rank 1 = .ok (.iconst 0, 1) := by decide +kernel
theorem dX2_rank_2 : decode cX2_rank 2 = .ok (.putfield 52, 3) := by decide +kernel
theorem dX2_rank_5 : decode cX2_rank 5 = .ok (.iload_n 1, 1) := by decide +kernel
theorem dX2_rank_6 : decode cX2_rank 6 = .ok (.i2l, 1) := by decide +kernel
theorem dX2_rank_7 : decode cX2_rank 7 = .ok (.lconst 0, 1) := by decide +kernel
theorem dX2_rank_8 : decode cX2_rank 8 = .ok (.ldc2_w 74, 3) := by decide +kernel
theorem dX2_rank_11 : decode cX2_rank 11 = .ok (.invokestatic 58, 3) := by decide +kernel
theorem dX2_rank_14 : decode cX2_rank 14 = .ok (.ifCond .eq 15, 3) := by decide +kernel
theorem dX2_rank_17 : decode cX2_rank 17 = .ok (.iload_n 2, 1) := by decide +kernel
theorem dX2_rank_18 : decode cX2_rank 18 = .ok (.i2l, 1) := by decide +kernel
theorem dX2_rank_19 : decode cX2_rank 19 = .ok (.lconst 0, 1) := by decide +kernel
theorem dX2_rank_20 : decode cX2_rank 20 = .ok (.ldc2_w 102, 3) := by decide +kernel
theorem dX2_rank_23 : decode cX2_rank 23 = .ok (.invokestatic 58, 3) := by decide +kernel
theorem dX2_rank_26 : decode cX2_rank 26 = .ok (.ifCond .ne 6, 3) := by decide +kernel
theorem dX2_rank_29 : decode cX2_rank 29 = .ok (.bipush (-102), 2) := by decide +kernel
theorem dX2_rank_31 : decode cX2_rank 31 = .ok (.ireturn, 1) := by decide +kernel
theorem dX2_rank_32 : decode cX2_rank 32 = .ok (.aload_n 0, 1) := by decide +kernel
theorem dX2_rank_33 : decode cX2_rank 33 = .ok (.getfield 39, 3) := by decide +kernel
theorem dX2_rank_36 : decode cX2_rank 36 = .ok (.iload_n 1, 1) := by decide +kernel
theorem dX2_rank_37 : decode cX2_rank 37 = .ok (.iaload, 1) := by decide +kernel
theorem dX2_rank_38 : decode cX2_rank 38 = .ok (.istore_n 3, 1) := by decide +kernel
theorem dX2_rank_39 : decode cX2_rank 39 = .ok (.aload_n 0, 1) := by decide +kernel
theorem dX2_rank_40 : decode cX2_rank 40 = .ok (.getfield 39, 3) := by decide +kernel
theorem dX2_rank_43 : decode cX2_rank 43 = .ok (.iload_n 1, 1) := by decide +kernel
theorem dX2_rank_44 : decode cX2_rank 44 = .ok (.iload_n 2, 1) := by decide +kernel
theorem dX2_rank_45 : decode cX2_rank 45 = .ok (.iastore, 1) := by decide +kernel
theorem dX2_rank_46 : decode cX2_rank 46 = .ok (.iload_n 3, 1) := by decide +kernel
theorem dX2_rank_47 : decode cX2_rank 47 = .ok (.ireturn, 1) := by decide +kernel
set_option maxRecDepth 20000 in
theorem ggX2_tick_X2_isDay : GoodIn wsX2_tick wsX2_isDay := goodIn_r _ [6, 7, 8, 9, 10, 5, 11, 22, 23, 24, 25, 26, 27, 28, 29, 30, 31, 32, 33, 34, 35, 36, 37, 38] (by decide +kernel) (by decide +kernel)
set_option maxRecDepth 20000 in
theorem gX2_tick_X2_isDay : GoodIn wsX2_tick (wsV RX2 84 RX2 yX2_isDay wsX2_isDay) := goodIn_app (goodIn_of _ (by decide +kernel)) ggX2_tick_X2_isDay
set_option maxRecDepth 20000 in
theorem ggX2_tick_X2_set : GoodIn wsX2_tick wsX2_set := goodIn_r _ [15, 7, 16, 17, 18, 19, 20, 21, 22, 23, 24, 25, 26, 27, 28, 29, 30, 31, 32, 33, 34, 35, 36, 37, 38] (by decide +kernel) (by decide +kernel)
set_option maxRecDepth 20000 in
theorem gX2_tick_X2_set : GoodIn wsX2_tick (wsV RX2 88 RX2 yX2_set wsX2_set) := goodIn_app (goodIn_of _ (by decide +kernel)) ggX2_tick_X2_set
theorem dX2_tick_0 : decode cX2_tick 0 = .ok (.aload_n 0, 1) := by decide +kernel
theorem dX2_tick_1 : decode cX2_tick 1 = .ok (.iconst 0, 1) := by decide +kernel
theorem dX2_tick_2 : decode cX2_tick 2 = .ok (.putfield 52, 3) := by decide +kernel
theorem dX2_tick_5 : decode cX2_tick 5 = .ok (.aload_n 0, 1) := by decide +kernel
theorem dX2_tick_6 : decode cX2_tick 6 = .ok (.lload_n 1, 1) := by decide +kernel
theorem dX2_tick_7 : decode cX2_tick 7 = .ok (.invokevirtual 84, 3) := by decide +kernel
theorem dX2_tick_10 : decode cX2_tick 10 = .ok (.ifCond .eq 11, 3) := by decide +kernel
theorem dX2_tick_13 : decode cX2_tick 13 = .ok (.aload_n 0, 1) := by decide +kernel
theorem dX2_tick_14 : decode cX2_tick 14 = .ok (.lload_n 1, 1) := by decide +kernel
theorem dX2_tick_15 : decode cX2_tick 15 = .ok (.invokevirtual 88, 3) := by decide +kernel
theorem dX2_tick_18 : decode cX2_tick 18 = .ok (.goto 5, 3) := by decide +kernel
theorem dX2_tick_21 : decode cX2_tick 21 = .ok (.bipush (-102), 2) := by decide +kernel
theorem dX2_tick_23 : decode cX2_tick 23 = .ok (.ireturn, 1) := by decide +kernel
set_option maxRecDepth 20000 in
theorem ggX2_extend_X2_isOrder : GoodIn wsX2_extend wsX2_isOrder := goodIn_r _ [9, 10, 11, 12, 8, 13, 14, 15, 16, 17, 18, 19, 20, 21, 22, 23, 24, 25, 26, 27, 28, 29, 30] (by decide +kernel) (by decide +kernel)
set_option maxRecDepth 20000 in
theorem gX2_extend_X2_isOrder : GoodIn wsX2_extend (wsV RX2 80 RX2 yX2_isOrder wsX2_isOrder) := goodIn_app (goodIn_of _ (by decide +kernel)) ggX2_extend_X2_isOrder
set_option maxRecDepth 20000 in
theorem ggX2_extend_X2_isIn : GoodIn wsX2_extend wsX2_isIn := goodIn_r _ [13] (by decide +kernel) (by decide +kernel)
set_option maxRecDepth 20000 in
theorem gX2_extend_X2_isIn : GoodIn wsX2_extend (va_wsS RX2 58 yX2_isIn wsX2_isIn) := goodIn_app (goodIn_of _ (by decide +kernel)) ggX2_extend_X2_isIn
theorem dX2_extend_0 : decode cX2_extend 0 = .ok (.aload_n 0, 1) := by decide +kernel
theorem dX2_extend_1 : decode cX2_extend 1 = .ok (.iconst 0, 1) := by decide +kernel
theorem dX2_extend_2 : decode cX2_extend 2 = .ok (.putfield 52, 3) := by decide +kernel
theorem dX2_extend_5 : decode cX2_extend 5 = .ok (.aload_n 0, 1) := by decide +kernel
theorem dX2_extend_6 : decode cX2_extend 6 = .ok (.iload_n 1, 1) := by decide +kernel
theorem dX2_extend_7 : decode cX2_extend 7 = .ok (.invokevirtual 80, 3) := by decide +kernel
theorem dX2_extend_10 : decode cX2_extend 10 = .ok (.ifCond .ne 6, 3) := by decide +kernel
theorem dX2_extend_13 : decode cX2_extend 13 = .ok (.bipush (-101), 2) := by decide +kernel
theorem dX2_extend_15 : decode cX2_extend 15 = .ok (.ireturn, 1) := by decide +kernel
theorem dX2_extend_16 : decode cX2_extend 16 = .ok (.lload_n 2, 1) := by decide +kernel
theorem dX2_extend_17 : decode cX2_extend 17 = .ok (.lconst 0, 1) := by decide +kernel
theorem dX2_extend_18 : decode cX2_extend 18 = .ok (.ldc2_w 66, 3) := by decide +kernel
theorem dX2_extend_21 : decode cX2_extend 21 = .ok (.invokestatic 58, 3) := by decide +kernel
theorem dX2_extend_24 : decode cX2_extend 24 = .ok (.ifCond .ne 6, 3) := by decide +kernel
theorem dX2_extend_27 : decode cX2_extend 27 = .ok (.bipush (-102), 2) := by decide +kernel
theorem dX2_extend_29 : decode cX2_extend 29 = .ok (.ireturn, 1) := by decide +kernel
theorem dX2_extend_30 : decode cX2_extend 30 = .ok (.aload_n 0, 1) := by decide +kernel
theorem dX2_extend_31 : decode cX2_extend 31 = .ok (.getfield 36, 3) := by decide +kernel
theorem dX2_extend_34 : decode cX2_extend 34 = .ok (.iload_n 1, 1) := by decide +kernel
theorem dX2_extend_35 : decode cX2_extend 35 = .ok (.laload, 1) := by decide +kernel
theorem dX2_extend_36 : decode cX2_extend 36 = .ok (.lconst 0, 1) := by decide +kernel
theorem dX2_extend_37 : decode cX2_extend 37 = .ok (.lcmp, 1) := by decide +kernel
theorem dX2_extend_38 : decode cX2_extend 38 = .ok (.ifCond .lt 6, 3) := by decide +kernel
theorem dX2_extend_41 : decode cX2_extend 41 = .ok (.bipush (-103), 2) := by decide +kernel
theorem dX2_extend_43 : decode cX2_extend 43 = .ok (.ireturn, 1) := by decide +kernel
theorem dX2_extend_44 : decode cX2_extend 44 = .ok (.lload_n 2, 1) := by decide +kernel
theorem dX2_extend_45 : decode cX2_extend 45 = .ok (.aload_n 0, 1) := by decide +kernel
theorem dX2_extend_46 : decode cX2_extend 46 = .ok (.getfield 26, 3) := by decide +kernel
theorem dX2_extend_49 : decode cX2_extend 49 = .ok (.iload_n 1, 1) := by decide +kernel
theorem dX2_extend_50 : decode cX2_extend 50 = .ok (.laload, 1) := by decide +kernel
theorem dX2_extend_51 : decode cX2_extend 51 = .ok (.lcmp, 1) := by decide +kernel
theorem dX2_extend_52 : decode cX2_extend 52 = .ok (.ifCond .le 7, 3) := by decide +kernel
theorem dX2_extend_55 : decode cX2_extend 55 = .ok (.iconst 1, 1) := by decide +kernel
theorem dX2_extend_56 : decode cX2_extend 56 = .ok (.goto 4, 3) := by decide +kernel
theorem dX2_extend_59 : decode cX2_extend 59 = .ok (.iconst 0, 1) := by decide +kernel
theorem dX2_extend_60 : decode cX2_extend 60 = .ok (.istore 4, 2) := by decide +kernel
theorem dX2_extend_62 : decode cX2_extend 62 = .ok (.aload_n 0, 1) := by decide +kernel
theorem dX2_extend_63 : decode cX2_extend 63 = .ok (.getfield 26, 3) := by decide +kernel
theorem dX2_extend_66 : decode cX2_extend 66 = .ok (.iload_n 1, 1) := by decide +kernel
theorem dX2_extend_67 : decode cX2_extend 67 = .ok (.iload 4, 2) := by decide +kernel
theorem dX2_extend_69 : decode cX2_extend 69 = .ok (.ifCond .eq 7, 3) := by decide +kernel
theorem dX2_extend_72 : decode cX2_extend 72 = .ok (.lload_n 2, 1) := by decide +kernel
theorem dX2_extend_73 : decode cX2_extend 73 = .ok (.goto 9, 3) := by decide +kernel
theorem dX2_extend_76 : decode cX2_extend 76 = .ok (.aload_n 0, 1) := by decide +kernel
theorem dX2_extend_77 : decode cX2_extend 77 = .ok (.getfield 26, 3) := by decide +kernel
theorem dX2_extend_80 : decode cX2_extend 80 = .ok (.iload_n 1, 1) := by decide +kernel
theorem dX2_extend_81 : decode cX2_extend 81 = .ok (.laload, 1) := by decide +kernel
theorem dX2_extend_82 : decode cX2_extend 82 = .ok (.lastore, 1) := by decide +kernel
theorem dX2_extend_83 : decode cX2_extend 83 = .ok (.iload 4, 2) := by decide +kernel
theorem dX2_extend_85 : decode cX2_extend 85 = .ok (.ifCond .eq 7, 3) := by decide +kernel
theorem dX2_extend_88 : decode cX2_extend 88 = .ok (.iconst 1, 1) := by decide +kernel
theorem dX2_extend_89 : decode cX2_extend 89 = .ok (.goto 4, 3) := by decide +kernel
theorem dX2_extend_92 : decode cX2_extend 92 = .ok (.iconst 0, 1) := by decide +kernel
theorem dX2_extend_93 : decode cX2_extend 93 = .ok (.ireturn, 1) := by decide +kernel
set_option maxRecDepth 20000 in
theorem ggX2_told_X2_isIn : GoodIn wsX2_told wsX2_isIn := goodIn_r _ [11] (by decide +kernel) (by decide +kernel)
set_option maxRecDepth 20000 in
theorem gX2_told_X2_isIn : GoodIn wsX2_told (va_wsS RX2 58 yX2_isIn wsX2_isIn) := goodIn_app (goodIn_of _ (by decide +kernel)) ggX2_told_X2_isIn
set_option maxRecDepth 20000 in
theorem ggX2_told_X2_isForce : GoodIn wsX2_told wsX2_isForce := goodIn_r _ [15, 16, 17, 18, 8, 9, 10, 11, 19, 20, 21, 22, 23, 24, 25, 26, 27, 28, 29, 30, 31, 32, 33, 34, 35] (by decide +kernel) (by decide +kernel)
set_option maxRecDepth 20000 in
theorem gX2_told_X2_isForce : GoodIn wsX2_told (wsV RX2 92 RX2 yX2_isForce wsX2_isForce) := goodIn_app (goodIn_of _ (by decide +kernel)) ggX2_told_X2_isForce
theorem dX2_told_0 : decode cX2_told 0 = .ok (.aload_n 0, 1) := by decide +kernel
theorem dX2_told_1 : decode cX2_told 1 = .ok (.iconst 0, 1) := by decide +kernel
theorem dX2_told_2 : decode cX2_told 2 = .ok (.putfield 52, 3) := by decide +kernel
theorem dX2_told_5 : decode cX2_told 5 = .ok (.iload_n 1, 1) := by decide +kernel
theorem dX2_told_6 : decode cX2_told 6 = .ok (.i2l, 1) := by decide +kernel
theorem dX2_told_7 : decode cX2_told 7 = .ok (.lconst 0, 1) := by decide +kernel
theorem dX2_told_8 : decode cX2_told 8 = .ok (.ldc2_w 72, 3) := by decide +kernel
theorem dX2_told_11 : decode cX2_told 11 = .ok (.invokestatic 58, 3) := by decide +kernel
theorem dX2_told_14 : decode cX2_told 14 = .ok (.ifCond .ne 6, 3) := by decide +kernel
theorem dX2_told_17 : decode cX2_told 17 = .ok (.bipush (-101), 2) := by decide +kernel
theorem dX2_told_19 : decode cX2_told 19 = .ok (.ireturn, 1) := by decide +kernel
theorem dX2_told_20 : decode cX2_told 20 = .ok (.iconst 0, 1) := by decide +kernel
theorem dX2_told_21 : decode cX2_told 21 = .ok (.istore_n 3, 1) := by decide +kernel
theorem dX2_told_22 : decode cX2_told 22 = .ok (.iconst 1, 1) := by decide +kernel
theorem dX2_told_23 : decode cX2_told 23 = .ok (.istore 4, 2) := by decide +kernel
theorem dX2_told_25 : decode cX2_told 25 = .ok (.iload 4, 2) := by decide +kernel
theorem dX2_told_27 : decode cX2_told 27 = .ok (.aload_n 0, 1) := by decide +kernel
theorem dX2_told_28 : decode cX2_told 28 = .ok (.getfield 55, 3) := by decide +kernel
theorem dX2_told_31 : decode cX2_told 31 = .ok (.if_icmp .gt 87, 3) := by decide +kernel
theorem dX2_told_34 : decode cX2_told 34 = .ok (.aload_n 0, 1) := by decide +kernel
theorem dX2_told_35 : decode cX2_told 35 = .ok (.getfield 16, 3) := by decide +kernel
theorem dX2_told_38 : decode cX2_told 38 = .ok (.iload 4, 2) := by decide +kernel
theorem dX2_told_40 : decode cX2_told 40 = .ok (.iaload, 1) := by decide +kernel
theorem dX2_told_41 : decode cX2_told 41 = .ok (.iload_n 1, 1) := by decide +kernel
theorem dX2_told_42 : decode cX2_told 42 = .ok (.if_icmp .ne 41, 3) := by decide +kernel
theorem dX2_told_45 : decode cX2_told 45 = .ok (.aload_n 0, 1) := by decide +kernel
theorem dX2_told_46 : decode cX2_told 46 = .ok (.getfield 32, 3) := by decide +kernel
theorem dX2_told_49 : decode cX2_told 49 = .ok (.iload 4, 2) := by decide +kernel
theorem dX2_told_51 : decode cX2_told 51 = .ok (.baload, 1) := by decide +kernel
theorem dX2_told_52 : decode cX2_told 52 = .ok (.ifCond .eq 31, 3) := by decide +kernel
theorem dX2_told_55 : decode cX2_told 55 = .ok (.aload_n 0, 1) := by decide +kernel
theorem dX2_told_56 : decode cX2_told 56 = .ok (.getfield 7, 3) := by decide +kernel
theorem dX2_told_59 : decode cX2_told 59 = .ok (.iload 4, 2) := by decide +kernel
theorem dX2_told_61 : decode cX2_told 61 = .ok (.iaload, 1) := by decide +kernel
theorem dX2_told_62 : decode cX2_told 62 = .ok (.iconst 3, 1) := by decide +kernel
theorem dX2_told_63 : decode cX2_told 63 = .ok (.if_icmp .ge 20, 3) := by decide +kernel
theorem dX2_told_66 : decode cX2_told 66 = .ok (.aload_n 0, 1) := by decide +kernel
theorem dX2_told_67 : decode cX2_told 67 = .ok (.iload 4, 2) := by decide +kernel
theorem dX2_told_69 : decode cX2_told 69 = .ok (.aload_n 0, 1) := by decide +kernel
theorem dX2_told_70 : decode cX2_told 70 = .ok (.getfield 62, 3) := by decide +kernel
theorem dX2_told_73 : decode cX2_told 73 = .ok (.invokevirtual 92, 3) := by decide +kernel
theorem dX2_told_76 : decode cX2_told 76 = .ok (.ifCond .eq 7, 3) := by decide +kernel
theorem dX2_told_79 : decode cX2_told 79 = .ok (.iconst 1, 1) := by decide +kernel
theorem dX2_told_80 : decode cX2_told 80 = .ok (.goto 4, 3) := by decide +kernel
theorem dX2_told_83 : decode cX2_told 83 = .ok (.iconst 0, 1) := by decide +kernel
theorem dX2_told_84 : decode cX2_told 84 = .ok (.istore 5, 2) := by decide +kernel
theorem dX2_told_86 : decode cX2_told 86 = .ok (.iload 5, 2) := by decide +kernel
theorem dX2_told_88 : decode cX2_told 88 = .ok (.ifCond .eq 11, 3) := by decide +kernel
theorem dX2_told_91 : decode cX2_told 91 = .ok (.iload_n 3, 1) := by decide +kernel
theorem dX2_told_92 : decode cX2_told 92 = .ok (.iload_n 2, 1) := by decide +kernel
theorem dX2_told_93 : decode cX2_told 93 = .ok (.if_icmp .ne 6, 3) := by decide +kernel
theorem dX2_told_96 : decode cX2_told 96 = .ok (.iload 4, 2) := by decide +kernel
theorem dX2_told_98 : decode cX2_told 98 = .ok (.ireturn, 1) := by decide +kernel
theorem dX2_told_99 : decode cX2_told 99 = .ok (.iload 5, 2) := by decide +kernel
theorem dX2_told_101 : decode cX2_told 101 = .ok (.ifCond .eq 9, 3) := by decide +kernel
theorem dX2_told_104 : decode cX2_told 104 = .ok (.iload_n 3, 1) := by decide +kernel
theorem dX2_told_105 : decode cX2_told 105 = .ok (.iconst 1, 1) := by decide +kernel
theorem dX2_told_106 : decode cX2_told 106 = .ok (.iadd, 1) := by decide +kernel
theorem dX2_told_107 : decode cX2_told 107 = .ok (.goto 4, 3) := by decide +kernel
theorem dX2_told_110 : decode cX2_told 110 = .ok (.iload_n 3, 1) := by decide +kernel
theorem dX2_told_111 : decode cX2_told 111 = .ok (.istore_n 3, 1) := by decide +kernel
theorem dX2_told_112 : decode cX2_told 112 = .ok (.iinc 4 1, 3) := by decide +kernel
theorem dX2_told_115 : decode cX2_told 115 = .ok (.goto (-90), 3) := by decide +kernel
theorem dX2_told_118 : decode cX2_told 118 = .ok (.iconst 0, 1) := by decide +kernel
theorem dX2_told_119 : decode cX2_told 119 = .ok (.ireturn, 1) := by decide +kernel
theorem dJ9_max_7cf53_0 : decode cJ9_max_7cf53 0 = .ok (.iload_n 0, 1) := by decide +kernel
theorem dJ9_max_7cf53_1 : decode cJ9_max_7cf53 1 = .ok (.iload_n 1, 1) := by decide +kernel
theorem dJ9_max_7cf53_2 : decode cJ9_max_7cf53 2 = .ok (.if_icmp .lt 7, 3) := by decide +kernel
theorem dJ9_max_7cf53_5 : decode cJ9_max_7cf53 5 = .ok (.iload_n 0, 1) := by decide +kernel
theorem dJ9_max_7cf53_6 : decode cJ9_max_7cf53 6 = .ok (.goto 4, 3) := by decide +kernel
theorem dJ9_max_7cf53_9 : decode cJ9_max_7cf53 9 = .ok (.iload_n 1, 1) := by decide +kernel
theorem dJ9_max_7cf53_10 : decode cJ9_max_7cf53 10 = .ok (.ireturn, 1) := by decide +kernel
theorem dJ9_max_f86c9_0 : decode cJ9_max_f86c9 0 = .ok (.lload_n 0, 1) := by decide +kernel
theorem dJ9_max_f86c9_1 : decode cJ9_max_f86c9 1 = .ok (.lload_n 2, 1) := by decide +kernel
theorem dJ9_max_f86c9_2 : decode cJ9_max_f86c9 2 = .ok (.lcmp, 1) := by decide +kernel
theorem dJ9_max_f86c9_3 : decode cJ9_max_f86c9 3 = .ok (.ifCond .lt 7, 3) := by decide +kernel
theorem dJ9_max_f86c9_6 : decode cJ9_max_f86c9 6 = .ok (.lload_n 0, 1) := by decide +kernel
theorem dJ9_max_f86c9_7 : decode cJ9_max_f86c9 7 = .ok (.goto 4, 3) := by decide +kernel
theorem dJ9_max_f86c9_10 : decode cJ9_max_f86c9 10 = .ok (.lload_n 2, 1) := by decide +kernel
theorem dJ9_max_f86c9_11 : decode cJ9_max_f86c9 11 = .ok (.lreturn, 1) := by decide +kernel
theorem dJ9_min_7cf53_0 : decode cJ9_min_7cf53 0 = .ok (.iload_n 0, 1) := by decide +kernel
theorem dJ9_min_7cf53_1 : decode cJ9_min_7cf53 1 = .ok (.iload_n 1, 1) := by decide +kernel
theorem dJ9_min_7cf53_2 : decode cJ9_min_7cf53 2 = .ok (.if_icmp .gt 7, 3) := by decide +kernel
theorem dJ9_min_7cf53_5 : decode cJ9_min_7cf53 5 = .ok (.iload_n 0, 1) := by decide +kernel
theorem dJ9_min_7cf53_6 : decode cJ9_min_7cf53 6 = .ok (.goto 4, 3) := by decide +kernel
theorem dJ9_min_7cf53_9 : decode cJ9_min_7cf53 9 = .ok (.iload_n 1, 1) := by decide +kernel
theorem dJ9_min_7cf53_10 : decode cJ9_min_7cf53 10 = .ok (.ireturn, 1) := by decide +kernel
theorem dJxa1e45_init_da8c8_0 : decode cJxa1e45_init_da8c8 0 = .ok (.aload_n 0, 1) := by decide +kernel
theorem dJxa1e45_init_da8c8_1 : decode cJxa1e45_init_da8c8 1 = .ok (.invokespecial 1, 3) := by decide +kernel
theorem dJxa1e45_init_da8c8_4 : decode cJxa1e45_init_da8c8 4 = .ok (.return_, 1) := by decide +kernel
set_option maxRecDepth 20000 in
theorem ggJxc12de_init_da8c8_Jxa1e45_init_da8c8 : GoodIn wsJxc12de_init_da8c8 wsJxa1e45_init_da8c8 := goodIn_r _ [5, 6, 7, 8] (by decide +kernel) (by decide +kernel)
set_option maxRecDepth 20000 in
theorem gJxc12de_init_da8c8_Jxa1e45_init_da8c8 : GoodIn wsJxc12de_init_da8c8 (wsJxa1e45_init_da8c8) := ggJxc12de_init_da8c8_Jxa1e45_init_da8c8
theorem dJxc12de_init_da8c8_0 : decode cJxc12de_init_da8c8 0 = .ok (.aload_n 0, 1) := by decide +kernel
theorem dJxc12de_init_da8c8_1 : decode cJxc12de_init_da8c8 1 = .ok (.invokespecial 1, 3) := by decide +kernel
theorem dJxc12de_init_da8c8_4 : decode cJxc12de_init_da8c8 4 = .ok (.aload_n 0, 1) := by decide +kernel
theorem dJxc12de_init_da8c8_5 : decode cJxc12de_init_da8c8 5 = .ok (.iconst 0, 1) := by decide +kernel
theorem dJxc12de_init_da8c8_6 : decode cJxc12de_init_da8c8 6 = .ok (.putfield 7, 3) := by decide +kernel
theorem dJxc12de_init_da8c8_9 : decode cJxc12de_init_da8c8 9 = .ok (.return_, 1) := by decide +kernel
set_option maxRecDepth 20000 in
theorem ggJx4a65c_init_da8c8_Jxc12de_init_da8c8 : GoodIn wsJx4a65c_init_da8c8 wsJxc12de_init_da8c8 := goodIn_r _ [6, 7, 8, 9, 10, 11, 12, 13, 14, 15, 16, 17] (by decide +kernel) (by decide +kernel)
set_option maxRecDepth 20000 in
theorem gJx4a65c_init_da8c8_Jxc12de_init_da8c8 : GoodIn wsJx4a65c_init_da8c8 (wsJxc12de_init_da8c8) := ggJx4a65c_init_da8c8_Jxc12de_init_da8c8
theorem dJx4a65c_init_da8c8_0 : decode cJx4a65c_init_da8c8 0 = .ok (.aload_n 0, 1) := by decide +kernel
theorem dJx4a65c_init_da8c8_1 : decode cJx4a65c_init_da8c8 1 = .ok (.invokespecial 1, 3) := by decide +kernel
theorem dJx4a65c_init_da8c8_4 : decode cJx4a65c_init_da8c8 4 = .ok (.aload_n 0, 1) := by decide +kernel
theorem dJx4a65c_init_da8c8_5 : decode cJx4a65c_init_da8c8 5 = .ok (.getstatic 39, 3) := by decide +kernel
theorem dJx4a65c_init_da8c8_8 : decode cJx4a65c_init_da8c8 8 = .ok (.putfield 9, 3) := by decide +kernel
theorem dJx4a65c_init_da8c8_11 : decode cJx4a65c_init_da8c8 11 = .ok (.return_, 1) := by decide +kernel
set_option maxRecDepth 20000 in
theorem ggJx4a65c_grow_92f84_J8_newLength_cabcc : GoodIn wsJx4a65c_grow_92f84 wsJ8_newLength_cabcc := goodIn_r _ [11, 12, 4, 5, 6, 13, 14, 15, 10, 16] (by decide +kernel) (by decide +kernel)
set_option maxRecDepth 20000 in
theorem gJx4a65c_grow_92f84_J8_newLength_cabcc : GoodIn wsJx4a65c_grow_92f84 (va_wsS RJx4a65c 73 yJ8_newLength_cabcc wsJ8_newLength_cabcc) := goodIn_app (goodIn_of _ (by decide +kernel)) ggJx4a65c_grow_92f84_J8_newLength_cabcc
set_option maxRecDepth 20000 in
theorem ggJx4a65c_grow_92f84_J7_copyOf_1904c : GoodIn wsJx4a65c_grow_92f84 wsJ7_copyOf_1904c := goodIn_r _ [20, 21, 22, 23, 24, 25, 26, 19, 27, 28, 29, 30, 31, 5, 32, 33, 34, 35, 36] (by decide +kernel) (by decide +kernel)
set_option maxRecDepth 20000 in
theorem gJx4a65c_grow_92f84_J7_copyOf_1904c : GoodIn wsJx4a65c_grow_92f84 (va_wsS RJx4a65c 66 yJ7_copyOf_1904c wsJ7_copyOf_1904c) := goodIn_app (goodIn_of _ (by decide +kernel)) ggJx4a65c_grow_92f84_J7_copyOf_1904c
theorem dJx4a65c_grow_92f84_0 : decode cJx4a65c_grow_92f84 0 = .ok (.aload_n 0, 1) := by decide +kernel
theorem dJx4a65c_grow_92f84_1 : decode cJx4a65c_grow_92f84 1 = .ok (.getfield 9, 3) := by decide +kernel
theorem dJx4a65c_grow_92f84_4 : decode cJx4a65c_grow_92f84 4 = .ok (.arraylength, 1) := by decide +kernel
theorem dJx4a65c_grow_92f84_5 : decode cJx4a65c_grow_92f84 5 = .ok (.istore_n 2, 1) := by decide +kernel
theorem dJx4a65c_grow_92f84_6 : decode cJx4a65c_grow_92f84 6 = .ok (.iload_n 2, 1) := by decide +kernel
theorem dJx4a65c_grow_92f84_7 : decode cJx4a65c_grow_92f84 7 = .ok (.ifCond .gt 13, 3) := by decide +kernel
theorem dJx4a65c_grow_92f84_10 : decode cJx4a65c_grow_92f84 10 = .ok (.aload_n 0, 1) := by decide +kernel
theorem dJx4a65c_grow_92f84_11 : decode cJx4a65c_grow_92f84 11 = .ok (.getfield 9, 3) := by decide +kernel
theorem dJx4a65c_grow_92f84_14 : decode cJx4a65c_grow_92f84 14 = .ok (.getstatic 39, 3) := by decide +kernel
theorem dJx4a65c_grow_92f84_17 : decode cJx4a65c_grow_92f84 17 = .ok (.if_acmp .eq 28, 3) := by decide +kernel
theorem dJx4a65c_grow_92f84_20 : decode cJx4a65c_grow_92f84 20 = .ok (.iload_n 2, 1) := by decide +kernel
theorem dJx4a65c_grow_92f84_21 : decode cJx4a65c_grow_92f84 21 = .ok (.iload_n 1, 1) := by decide +kernel
theorem dJx4a65c_grow_92f84_22 : decode cJx4a65c_grow_92f84 22 = .ok (.iload_n 2, 1) := by decide +kernel
theorem dJx4a65c_grow_92f84_23 : decode cJx4a65c_grow_92f84 23 = .ok (.isub, 1) := by decide +kernel
theorem dJx4a65c_grow_92f84_24 : decode cJx4a65c_grow_92f84 24 = .ok (.iload_n 2, 1) := by decide +kernel
theorem dJx4a65c_grow_92f84_25 : decode cJx4a65c_grow_92f84 25 = .ok (.iconst 1, 1) := by decide +kernel
theorem dJx4a65c_grow_92f84_26 : decode cJx4a65c_grow_92f84 26 = .ok (.ishr, 1) := by decide +kernel
theorem dJx4a65c_grow_92f84_27 : decode cJx4a65c_grow_92f84 27 = .ok (.invokestatic 73, 3) := by decide +kernel
theorem dJx4a65c_grow_92f84_30 : decode cJx4a65c_grow_92f84 30 = .ok (.istore_n 3, 1) := by decide +kernel
theorem dJx4a65c_grow_92f84_31 : decode cJx4a65c_grow_92f84 31 = .ok (.aload_n 0, 1) := by decide +kernel
theorem dJx4a65c_grow_92f84_32 : decode cJx4a65c_grow_92f84 32 = .ok (.aload_n 0, 1) := by decide +kernel
theorem dJx4a65c_grow_92f84_33 : decode cJx4a65c_grow_92f84 33 = .ok (.getfield 9, 3) := by decide +kernel
theorem dJx4a65c_grow_92f84_36 : decode cJx4a65c_grow_92f84 36 = .ok (.iload_n 3, 1) := by decide +kernel
theorem dJx4a65c_grow_92f84_37 : decode cJx4a65c_grow_92f84 37 = .ok (.invokestatic 66, 3) := by decide +kernel
theorem dJx4a65c_grow_92f84_40 : decode cJx4a65c_grow_92f84 40 = .ok (.dup_x1, 1) := by decide +kernel
theorem dJx4a65c_grow_92f84_41 : decode cJx4a65c_grow_92f84 41 = .ok (.putfield 9, 3) := by decide +kernel
theorem dJx4a65c_grow_92f84_44 : decode cJx4a65c_grow_92f84 44 = .ok (.areturn, 1) := by decide +kernel
theorem dJx4a65c_grow_92f84_45 : decode cJx4a65c_grow_92f84 45 = .ok (.aload_n 0, 1) := by decide +kernel
theorem dJx4a65c_grow_92f84_46 : decode cJx4a65c_grow_92f84 46 = .ok (.bipush 10, 2) := by decide +kernel
theorem dJx4a65c_grow_92f84_48 : decode cJx4a65c_grow_92f84 48 = .ok (.iload_n 1, 1) := by decide +kernel
theorem dJx4a65c_grow_92f84_49 : decode cJx4a65c_grow_92f84 49 = .ok (.invokestatic 79, 3) := by decide +kernel
theorem dJx4a65c_grow_92f84_52 : decode cJx4a65c_grow_92f84 52 = .ok (.anewarray 7, 3) := by decide +kernel
theorem dJx4a65c_grow_92f84_55 : decode cJx4a65c_grow_92f84 55 = .ok (.dup_x1, 1) := by decide +kernel
theorem dJx4a65c_grow_92f84_56 : decode cJx4a65c_grow_92f84 56 = .ok (.putfield 9, 3) := by decide +kernel
theorem dJx4a65c_grow_92f84_59 : decode cJx4a65c_grow_92f84 59 = .ok (.areturn, 1) := by decide +kernel
set_option maxRecDepth 20000 in
theorem ggJx4a65c_grow_d5877_Jx4a65c_grow_92f84 : GoodIn wsJx4a65c_grow_d5877 wsJx4a65c_grow_92f84 := goodIn_r _ [6, 7, 8, 9, 10, 11, 12, 13, 14, 15, 16, 17, 18, 19, 20, 21, 22, 23, 24, 25, 26, 27, 28, 29, 30, 31, 32, 33, 34, 35, 36, 37, 38, 39, 40, 41, 42, 43, 44, 45] (by decide +kernel) (by decide +kernel)
set_option maxRecDepth 20000 in
theorem gJx4a65c_grow_d5877_Jx4a65c_grow_92f84 : GoodIn wsJx4a65c_grow_d5877 (wsV RJx4a65c 69 RJx4a65c yJx4a65c_grow_92f84 wsJx4a65c_grow_92f84) := goodIn_app (goodIn_of _ (by decide +kernel)) ggJx4a65c_grow_d5877_Jx4a65c_grow_92f84
theorem dJx4a65c_grow_d5877_0 : decode cJx4a65c_grow_d5877 0 = .ok (.aload_n 0, 1) := by decide +kernel
theorem dJx4a65c_grow_d5877_1 : decode cJx4a65c_grow_d5877 1 = .ok (.aload_n 0, 1) := by decide +kernel
theorem dJx4a65c_grow_d5877_2 : decode cJx4a65c_grow_d5877 2 = .ok (.getfield 48, 3) := by decide +kernel
theorem dJx4a65c_grow_d5877_5 : decode cJx4a65c_grow_d5877 5 = .ok (.iconst 1, 1) := by decide +kernel
theorem dJx4a65c_grow_d5877_6 : decode cJx4a65c_grow_d5877 6 = .ok (.iadd, 1) := by decide +kernel
theorem dJx4a65c_grow_d5877_7 : decode cJx4a65c_grow_d5877 7 = .ok (.invokevirtual 69, 3) := by decide +kernel
theorem dJx4a65c_grow_d5877_10 : decode cJx4a65c_grow_d5877 10 = .ok (.areturn, 1) := by decide +kernel
theorem dJx4a65c_size_8abf5_0 : decode cJx4a65c_size_8abf5 0 = .ok (.aload_n 0, 1) := by decide +kernel
theorem dJx4a65c_size_8abf5_1 : decode cJx4a65c_size_8abf5 1 = .ok (.getfield 48, 3) := by decide +kernel
theorem dJx4a65c_size_8abf5_4 : decode cJx4a65c_size_8abf5 4 = .ok (.ireturn, 1) := by decide +kernel
theorem dJx4a65c_elementData_915e3_0 : decode cJx4a65c_elementData_915e3 0 = .ok (.aload_n 0, 1) := by decide +kernel
theorem dJx4a65c_elementData_915e3_1 : decode cJx4a65c_elementData_915e3 1 = .ok (.getfield 9, 3) := by decide +kernel
theorem dJx4a65c_elementData_915e3_4 : decode cJx4a65c_elementData_915e3 4 = .ok (.iload_n 1, 1) := by decide +kernel
theorem dJx4a65c_elementData_915e3_5 : decode cJx4a65c_elementData_915e3 5 = .ok (.aaload, 1) := by decide +kernel
theorem dJx4a65c_elementData_915e3_6 : decode cJx4a65c_elementData_915e3 6 = .ok (.areturn, 1) := by decide +kernel
set_option maxRecDepth 20000 in
theorem ggJx4a65c_get_915e3_J15_checkIndex_7cf53 : GoodIn wsJx4a65c_get_915e3 wsJ15_checkIndex_7cf53 := goodIn_r _ [5, 6, 7, 8, 9] (by decide +kernel) (by decide +kernel)
set_option maxRecDepth 20000 in
theorem gJx4a65c_get_915e3_J15_checkIndex_7cf53 : GoodIn wsJx4a65c_get_915e3 (va_wsS RJx4a65c 118 yJ15_checkIndex_7cf53 wsJ15_checkIndex_7cf53) := goodIn_app (goodIn_of _ (by decide +kernel)) ggJx4a65c_get_915e3_J15_checkIndex_7cf53
set_option maxRecDepth 20000 in
theorem ggJx4a65c_get_915e3_Jx4a65c_elementData_915e3 : GoodIn wsJx4a65c_get_915e3 wsJx4a65c_elementData_915e3 := goodIn_r _ [14, 15, 16, 17, 18] (by decide +kernel) (by decide +kernel)
set_option maxRecDepth 20000 in
theorem gJx4a65c_get_915e3_Jx4a65c_elementData_915e3 : GoodIn wsJx4a65c_get_915e3 (wsV RJx4a65c 123 RJx4a65c yJx4a65c_elementData_915e3 wsJx4a65c_elementData_915e3) := goodIn_app (goodIn_of _ (by decide +kernel)) ggJx4a65c_get_915e3_Jx4a65c_elementData_915e3
theorem dJx4a65c_get_915e3_0 : decode cJx4a65c_get_915e3 0 = .ok (.iload_n 1, 1) := by decide +kernel
theorem dJx4a65c_get_915e3_1 : decode cJx4a65c_get_915e3 1 = .ok (.aload_n 0, 1) := by decide +kernel
theorem dJx4a65c_get_915e3_2 : decode cJx4a65c_get_915e3 2 = .ok (.getfield 48, 3) := by decide +kernel
theorem dJx4a65c_get_915e3_5 : decode cJx4a65c_get_915e3 5 = .ok (.invokestatic 118, 3) := by decide +kernel
theorem dJx4a65c_get_915e3_8 : decode cJx4a65c_get_915e3 8 = .ok (.pop, 1) := by decide +kernel
theorem dJx4a65c_get_915e3_9 : decode cJx4a65c_get_915e3 9 = .ok (.aload_n 0, 1) := by decide +kernel
theorem dJx4a65c_get_915e3_10 : decode cJx4a65c_get_915e3 10 = .ok (.iload_n 1, 1) := by decide +kernel
theorem dJx4a65c_get_915e3_11 : decode cJx4a65c_get_915e3 11 = .ok (.invokevirtual 123, 3) := by decide +kernel
theorem dJx4a65c_get_915e3_14 : decode cJx4a65c_get_915e3 14 = .ok (.areturn, 1) := by decide +kernel
set_option maxRecDepth 20000 in
theorem ggJx4a65c_add_72be8_Jx4a65c_grow_d5877 : GoodIn wsJx4a65c_add_72be8 wsJx4a65c_grow_d5877 := goodIn_r _ [6, 1, 7, 8, 9, 5, 10, 11, 12, 13, 14, 15, 16, 17, 18, 19, 20, 21, 22, 23, 24, 25, 26, 27, 28, 29, 30, 31, 32, 33, 34, 35, 36, 37, 38, 39, 40, 41, 42, 43, 44, 45, 46, 47, 48, 49] (by decide +kernel) (by decide +kernel)
set_option maxRecDepth 20000 in
theorem gJx4a65c_add_72be8_Jx4a65c_grow_d5877 : GoodIn wsJx4a65c_add_72be8 (wsV RJx4a65c 129 RJx4a65c yJx4a65c_grow_d5877 wsJx4a65c_grow_d5877) := goodIn_app (goodIn_of _ (by decide +kernel)) ggJx4a65c_add_72be8_Jx4a65c_grow_d5877
theorem dJx4a65c_add_72be8_0 : decode cJx4a65c_add_72be8 0 = .ok (.iload_n 3, 1) := by decide +kernel
theorem dJx4a65c_add_72be8_1 : decode cJx4a65c_add_72be8 1 = .ok (.aload_n 2, 1) := by decide +kernel
theorem dJx4a65c_add_72be8_2 : decode cJx4a65c_add_72be8 2 = .ok (.arraylength, 1) := by decide +kernel
theorem dJx4a65c_add_72be8_3 : decode cJx4a65c_add_72be8 3 = .ok (.if_icmp .ne 8, 3) := by decide +kernel
theorem dJx4a65c_add_72be8_6 : decode cJx4a65c_add_72be8 6 = .ok (.aload_n 0, 1) := by decide +kernel
theorem dJx4a65c_add_72be8_7 : decode cJx4a65c_add_72be8 7 = .ok (.invokevirtual 129, 3) := by decide +kernel
theorem dJx4a65c_add_72be8_10 : decode cJx4a65c_add_72be8 10 = .ok (.astore_n 2, 1) := by decide +kernel
theorem dJx4a65c_add_72be8_11 : decode cJx4a65c_add_72be8 11 = .ok (.aload_n 2, 1) := by decide +kernel
theorem dJx4a65c_add_72be8_12 : decode cJx4a65c_add_72be8 12 = .ok (.iload_n 3, 1) := by decide +kernel
theorem dJx4a65c_add_72be8_13 : decode cJx4a65c_add_72be8 13 = .ok (.aload_n 1, 1) := by decide +kernel
theorem dJx4a65c_add_72be8_14 : decode cJx4a65c_add_72be8 14 = .ok (.aastore, 1) := by decide +kernel
theorem dJx4a65c_add_72be8_15 : decode cJx4a65c_add_72be8 15 = .ok (.aload_n 0, 1) := by decide +kernel
theorem dJx4a65c_add_72be8_16 : decode cJx4a65c_add_72be8 16 = .ok (.iload_n 3, 1) := by decide +kernel
theorem dJx4a65c_add_72be8_17 : decode cJx4a65c_add_72be8 17 = .ok (.iconst 1, 1) := by decide +kernel
theorem dJx4a65c_add_72be8_18 : decode cJx4a65c_add_72be8 18 = .ok (.iadd, 1) := by decide +kernel
theorem dJx4a65c_add_72be8_19 : decode cJx4a65c_add_72be8 19 = .ok (.putfield 48, 3) := by decide +kernel
theorem dJx4a65c_add_72be8_22 : decode cJx4a65c_add_72be8 22 = .ok (.return_, 1) := by decide +kernel
set_option maxRecDepth 20000 in
theorem ggJx4a65c_add_9ea2d_Jx4a65c_add_72be8 : GoodIn wsJx4a65c_add_9ea2d wsJx4a65c_add_72be8 := goodIn_r _ [9, 4, 10, 11, 12, 8, 13, 14, 15, 16, 17, 3, 18, 19, 20, 21, 22, 23, 24, 25, 26, 27, 28, 29, 30, 31, 32, 33, 34, 35, 36, 37, 38, 39, 40, 41, 42, 43, 44, 45, 46, 47, 48, 49, 50, 51, 52, 53, 54, 55] (by decide +kernel) (by decide +kernel)
set_option maxRecDepth 20000 in
theorem gJx4a65c_add_9ea2d_Jx4a65c_add_72be8 : GoodIn wsJx4a65c_add_9ea2d (wsV RJx4a65c 131 RJx4a65c yJx4a65c_add_72be8 wsJx4a65c_add_72be8) := goodIn_app (goodIn_of _ (by decide +kernel)) ggJx4a65c_add_9ea2d_Jx4a65c_add_72be8
theorem dJx4a65c_add_9ea2d_0 : decode cJx4a65c_add_9ea2d 0 = .ok (.aload_n 0, 1) := by decide +kernel
theorem dJx4a65c_add_9ea2d_1 : decode cJx4a65c_add_9ea2d 1 = .ok (.dup, 1) := by decide +kernel
theorem dJx4a65c_add_9ea2d_2 : decode cJx4a65c_add_9ea2d 2 = .ok (.getfield 63, 3) := by decide +kernel
theorem dJx4a65c_add_9ea2d_5 : decode cJx4a65c_add_9ea2d 5 = .ok (.iconst 1, 1) := by decide +kernel
theorem dJx4a65c_add_9ea2d_6 : decode cJx4a65c_add_9ea2d 6 = .ok (.iadd, 1) := by decide +kernel
theorem dJx4a65c_add_9ea2d_7 : decode cJx4a65c_add_9ea2d 7 = .ok (.putfield 63, 3) := by decide +kernel
theorem dJx4a65c_add_9ea2d_10 : decode cJx4a65c_add_9ea2d 10 = .ok (.aload_n 0, 1) := by decide +kernel
theorem dJx4a65c_add_9ea2d_11 : decode cJx4a65c_add_9ea2d 11 = .ok (.aload_n 1, 1) := by decide +kernel
theorem dJx4a65c_add_9ea2d_12 : decode cJx4a65c_add_9ea2d 12 = .ok (.aload_n 0, 1) := by decide +kernel
theorem dJx4a65c_add_9ea2d_13 : decode cJx4a65c_add_9ea2d 13 = .ok (.getfield 9, 3) := by decide +kernel
theorem dJx4a65c_add_9ea2d_16 : decode cJx4a65c_add_9ea2d 16 = .ok (.aload_n 0, 1) := by decide +kernel
theorem dJx4a65c_add_9ea2d_17 : decode cJx4a65c_add_9ea2d 17 = .ok (.getfield 48, 3) := by decide +kernel
theorem dJx4a65c_add_9ea2d_20 : decode cJx4a65c_add_9ea2d 20 = .ok (.invokevirtual 131, 3) := by decide +kernel
theorem dJx4a65c_add_9ea2d_23 : decode cJx4a65c_add_9ea2d 23 = .ok (.iconst 1, 1) := by decide +kernel
theorem dJx4a65c_add_9ea2d_24 : decode cJx4a65c_add_9ea2d 24 = .ok (.ireturn, 1) := by decide +kernel
set_option maxRecDepth 20000 in
theorem ggJ7_copyOf_1904c_J7_copyOf_6403c : GoodIn wsJ7_copyOf_1904c wsJ7_copyOf_6403c := goodIn_r _ [8, 9, 10, 11, 12, 13, 14, 15, 16, 17, 18] (by decide +kernel) (by decide +kernel)
set_option maxRecDepth 20000 in
theorem gJ7_copyOf_1904c_J7_copyOf_6403c : GoodIn wsJ7_copyOf_1904c (va_wsS RJ7 300 yJ7_copyOf_6403c wsJ7_copyOf_6403c) := goodIn_app (goodIn_of _ (by decide +kernel)) ggJ7_copyOf_1904c_J7_copyOf_6403c
theorem dJ7_copyOf_1904c_0 : decode cJ7_copyOf_1904c 0 = .ok (.aload_n 0, 1) := by decide +kernel
theorem dJ7_copyOf_1904c_1 : decode cJ7_copyOf_1904c 1 = .ok (.iload_n 1, 1) := by decide +kernel
theorem dJ7_copyOf_1904c_2 : decode cJ7_copyOf_1904c 2 = .ok (.aload_n 0, 1) := by decide +kernel
theorem dJ7_copyOf_1904c_3 : decode cJ7_copyOf_1904c 3 = .ok (.invokevirtual 86, 3) := by decide +kernel
theorem dJ7_copyOf_1904c_6 : decode cJ7_copyOf_1904c 6 = .ok (.invokestatic 300, 3) := by decide +kernel
theorem dJ7_copyOf_1904c_9 : decode cJ7_copyOf_1904c 9 = .ok (.areturn, 1) := by decide +kernel
theorem dJ7_copyOf_6403c_0 : decode cJ7_copyOf_6403c 0 = .ok (.aload_n 2, 1) := by decide +kernel
theorem dJ7_copyOf_6403c_1 : decode cJ7_copyOf_6403c 1 = .ok (.ldc 110, 2) := by decide +kernel
theorem dJ7_copyOf_6403c_3 : decode cJ7_copyOf_6403c 3 = .ok (.if_acmp .ne 10, 3) := by decide +kernel
theorem dJ7_copyOf_6403c_6 : decode cJ7_copyOf_6403c 6 = .ok (.iload_n 1, 1) := by decide +kernel
theorem dJ7_copyOf_6403c_7 : decode cJ7_copyOf_6403c 7 = .ok (.anewarray 2, 3) := by decide +kernel
theorem dJ7_copyOf_6403c_10 : decode cJ7_copyOf_6403c 10 = .ok (.goto 14, 3) := by decide +kernel
theorem dJ7_copyOf_6403c_13 : decode cJ7_copyOf_6403c 13 = .ok (.aload_n 2, 1) := by decide +kernel
theorem dJ7_copyOf_6403c_14 : decode cJ7_copyOf_6403c 14 = .ok (.invokevirtual 90, 3) := by decide +kernel
theorem dJ7_copyOf_6403c_17 : decode cJ7_copyOf_6403c 17 = .ok (.iload_n 1, 1) := by decide +kernel
theorem dJ7_copyOf_6403c_18 : decode cJ7_copyOf_6403c 18 = .ok (.invokestatic 95, 3) := by decide +kernel
theorem dJ7_copyOf_6403c_21 : decode cJ7_copyOf_6403c 21 = .ok (.checkcast 110, 3) := by decide +kernel
theorem dJ7_copyOf_6403c_24 : decode cJ7_copyOf_6403c 24 = .ok (.astore_n 3, 1) := by decide +kernel
theorem dJ7_copyOf_6403c_25 : decode cJ7_copyOf_6403c 25 = .ok (.aload_n 0, 1) := by decide +kernel
theorem dJ7_copyOf_6403c_26 : decode cJ7_copyOf_6403c 26 = .ok (.iconst 0, 1) := by decide +kernel
theorem dJ7_copyOf_6403c_27 : decode cJ7_copyOf_6403c 27 = .ok (.aload_n 3, 1) := by decide +kernel
theorem dJ7_copyOf_6403c_28 : decode cJ7_copyOf_6403c 28 = .ok (.iconst 0, 1) := by decide +kernel
theorem dJ7_copyOf_6403c_29 : decode cJ7_copyOf_6403c 29 = .ok (.aload_n 0, 1) := by decide +kernel
theorem dJ7_copyOf_6403c_30 : decode cJ7_copyOf_6403c 30 = .ok (.arraylength, 1) := by decide +kernel
theorem dJ7_copyOf_6403c_31 : decode cJ7_copyOf_6403c 31 = .ok (.iload_n 1, 1) := by decide +kernel
theorem dJ7_copyOf_6403c_32 : decode cJ7_copyOf_6403c 32 = .ok (.invokestatic 304, 3) := by decide +kernel
theorem dJ7_copyOf_6403c_35 : decode cJ7_copyOf_6403c 35 = .ok (.invokestatic 150, 3) := by decide +kernel
theorem dJ7_copyOf_6403c_38 : decode cJ7_copyOf_6403c 38 = .ok (.aload_n 3, 1) := by decide +kernel
theorem dJ7_copyOf_6403c_39 : decode cJ7_copyOf_6403c 39 = .ok (.areturn, 1) := by decide +kernel
set_option maxRecDepth 20000 in
theorem ggJ15_checkIndex_7cf53_J3_checkIndex_8e157 : GoodIn wsJ15_checkIndex_7cf53 wsJ3_checkIndex_8e157 := goodIn_r _ [4] (by decide +kernel) (by decide +kernel)
set_option maxRecDepth 20000 in
theorem gJ15_checkIndex_7cf53_J3_checkIndex_8e157 : GoodIn wsJ15_checkIndex_7cf53 (va_wsS RJ15 105 yJ3_checkIndex_8e157 wsJ3_checkIndex_8e157) := goodIn_app (goodIn_of _ (by decide +kernel)) ggJ15_checkIndex_7cf53_J3_checkIndex_8e157
theorem dJ15_checkIndex_7cf53_0 : decode cJ15_checkIndex_7cf53 0 = .ok (.iload_n 0, 1) := by decide +kernel
theorem dJ15_checkIndex_7cf53_1 : decode cJ15_checkIndex_7cf53 1 = .ok (.iload_n 1, 1) := by decide +kernel
theorem dJ15_checkIndex_7cf53_2 : decode cJ15_checkIndex_7cf53 2 = .ok (.aconst_null, 1) := by decide +kernel
theorem dJ15_checkIndex_7cf53_3 : decode cJ15_checkIndex_7cf53 3 = .ok (.invokestatic 105, 3) := by decide +kernel
theorem dJ15_checkIndex_7cf53_6 : decode cJ15_checkIndex_7cf53 6 = .ok (.ireturn, 1) := by decide +kernel
set_option maxRecDepth 20000 in
theorem ggJ8_newLength_cabcc_J8_hugeLength_7cf53 : GoodIn wsJ8_newLength_cabcc wsJ8_hugeLength_7cf53 := goodIn_r _ [9, 5] (by decide +kernel) (by decide +kernel)
set_option maxRecDepth 20000 in
theorem gJ8_newLength_cabcc_J8_hugeLength_7cf53 : GoodIn wsJ8_newLength_cabcc (va_wsS RJ8 201 yJ8_hugeLength_7cf53 wsJ8_hugeLength_7cf53) := goodIn_app (goodIn_of _ (by decide +kernel)) ggJ8_newLength_cabcc_J8_hugeLength_7cf53
theorem dJ8_newLength_cabcc_0 : decode cJ8_newLength_cabcc 0 = .ok (.iload_n 0, 1) := by decide +kernel
theorem dJ8_newLength_cabcc_1 : decode cJ8_newLength_cabcc 1 = .ok (.iload_n 1, 1) := by decide +kernel
theorem dJ8_newLength_cabcc_2 : decode cJ8_newLength_cabcc 2 = .ok (.iload_n 2, 1) := by decide +kernel
theorem dJ8_newLength_cabcc_3 : decode cJ8_newLength_cabcc 3 = .ok (.invokestatic 194, 3) := by decide +kernel
theorem dJ8_newLength_cabcc_6 : decode cJ8_newLength_cabcc 6 = .ok (.iadd, 1) := by decide +kernel
theorem dJ8_newLength_cabcc_7 : decode cJ8_newLength_cabcc 7 = .ok (.istore_n 3, 1) := by decide +kernel
theorem dJ8_newLength_cabcc_8 : decode cJ8_newLength_cabcc 8 = .ok (.iconst 0, 1) := by decide +kernel
theorem dJ8_newLength_cabcc_9 : decode cJ8_newLength_cabcc 9 = .ok (.iload_n 3, 1) := by decide +kernel
theorem dJ8_newLength_cabcc_10 : decode cJ8_newLength_cabcc 10 = .ok (.if_icmp .ge 11, 3) := by decide +kernel
theorem dJ8_newLength_cabcc_13 : decode cJ8_newLength_cabcc 13 = .ok (.iload_n 3, 1) := by decide +kernel
theorem dJ8_newLength_cabcc_14 : decode cJ8_newLength_cabcc 14 = .ok (.ldc 200, 2) := by decide +kernel
theorem dJ8_newLength_cabcc_16 : decode cJ8_newLength_cabcc 16 = .ok (.if_icmp .gt 5, 3) := by decide +kernel
theorem dJ8_newLength_cabcc_19 : decode cJ8_newLength_cabcc 19 = .ok (.iload_n 3, 1) := by decide +kernel
theorem dJ8_newLength_cabcc_20 : decode cJ8_newLength_cabcc 20 = .ok (.ireturn, 1) := by decide +kernel
theorem dJ8_newLength_cabcc_21 : decode cJ8_newLength_cabcc 21 = .ok (.iload_n 0, 1) := by decide +kernel
theorem dJ8_newLength_cabcc_22 : decode cJ8_newLength_cabcc 22 = .ok (.iload_n 1, 1) := by decide +kernel
theorem dJ8_newLength_cabcc_23 : decode cJ8_newLength_cabcc 23 = .ok (.invokestatic 201, 3) := by decide +kernel
theorem dJ8_newLength_cabcc_26 : decode cJ8_newLength_cabcc 26 = .ok (.ireturn, 1) := by decide +kernel
theorem dJ8_hugeLength_7cf53_0 : decode cJ8_hugeLength_7cf53 0 = .ok (.iload_n 0, 1) := by decide +kernel
theorem dJ8_hugeLength_7cf53_1 : decode cJ8_hugeLength_7cf53 1 = .ok (.iload_n 1, 1) := by decide +kernel
theorem dJ8_hugeLength_7cf53_2 : decode cJ8_hugeLength_7cf53 2 = .ok (.iadd, 1) := by decide +kernel
theorem dJ8_hugeLength_7cf53_3 : decode cJ8_hugeLength_7cf53 3 = .ok (.istore_n 2, 1) := by decide +kernel
theorem dJ8_hugeLength_7cf53_4 : decode cJ8_hugeLength_7cf53 4 = .ok (.iload_n 2, 1) := by decide +kernel
theorem dJ8_hugeLength_7cf53_5 : decode cJ8_hugeLength_7cf53 5 = .ok (.ifCond .ge 44, 3) := by decide +kernel
theorem dJ8_hugeLength_7cf53_8 : decode cJ8_hugeLength_7cf53 8 = .ok (.new 204, 3) := by decide +kernel
theorem dJ8_hugeLength_7cf53_11 : decode cJ8_hugeLength_7cf53 11 = .ok (.dup, 1) := by decide +kernel
theorem dJ8_hugeLength_7cf53_12 : decode cJ8_hugeLength_7cf53 12 = .ok (.new 89, 3) := by decide +kernel
theorem dJ8_hugeLength_7cf53_15 : decode cJ8_hugeLength_7cf53 15 = .ok (.dup, 1) := by decide +kernel
theorem dJ8_hugeLength_7cf53_16 : decode cJ8_hugeLength_7cf53 16 = .ok (.invokespecial 91, 3) := by decide +kernel
theorem dJ8_hugeLength_7cf53_19 : decode cJ8_hugeLength_7cf53 19 = .ok (.ldc 206, 2) := by decide +kernel
theorem dJ8_hugeLength_7cf53_21 : decode cJ8_hugeLength_7cf53 21 = .ok (.invokevirtual 94, 3) := by decide +kernel
theorem dJ8_hugeLength_7cf53_24 : decode cJ8_hugeLength_7cf53 24 = .ok (.iload_n 0, 1) := by decide +kernel
theorem dJ8_hugeLength_7cf53_25 : decode cJ8_hugeLength_7cf53 25 = .ok (.invokevirtual 98, 3) := by decide +kernel
theorem dJ8_hugeLength_7cf53_28 : decode cJ8_hugeLength_7cf53 28 = .ok (.ldc 208, 2) := by decide +kernel
theorem dJ8_hugeLength_7cf53_30 : decode cJ8_hugeLength_7cf53 30 = .ok (.invokevirtual 94, 3) := by decide +kernel
theorem dJ8_hugeLength_7cf53_33 : decode cJ8_hugeLength_7cf53 33 = .ok (.iload_n 1, 1) := by decide +kernel
theorem dJ8_hugeLength_7cf53_34 : decode cJ8_hugeLength_7cf53 34 = .ok (.invokevirtual 98, 3) := by decide +kernel
theorem dJ8_hugeLength_7cf53_37 : decode cJ8_hugeLength_7cf53 37 = .ok (.ldc 210, 2) := by decide +kernel
theorem dJ8_hugeLength_7cf53_39 : decode cJ8_hugeLength_7cf53 39 = .ok (.invokevirtual 94, 3) := by decide +kernel
theorem dJ8_hugeLength_7cf53_42 : decode cJ8_hugeLength_7cf53 42 = .ok (.invokevirtual 101, 3) := by decide +kernel
theorem dJ8_hugeLength_7cf53_45 : decode cJ8_hugeLength_7cf53 45 = .ok (.invokespecial 212, 3) := by decide +kernel
theorem dJ8_hugeLength_7cf53_48 : decode cJ8_hugeLength_7cf53 48 = .ok (.athrow, 1) := by decide +kernel
theorem dJ8_hugeLength_7cf53_49 : decode cJ8_hugeLength_7cf53 49 = .ok (.iload_n 2, 1) := by decide +kernel
theorem dJ8_hugeLength_7cf53_50 : decode cJ8_hugeLength_7cf53 50 = .ok (.ldc 200, 2) := by decide +kernel
theorem dJ8_hugeLength_7cf53_52 : decode cJ8_hugeLength_7cf53 52 = .ok (.if_icmp .gt 6, 3) := by decide +kernel
theorem dJ8_hugeLength_7cf53_55 : decode cJ8_hugeLength_7cf53 55 = .ok (.ldc 200, 2) := by decide +kernel
theorem dJ8_hugeLength_7cf53_57 : decode cJ8_hugeLength_7cf53 57 = .ok (.ireturn, 1) := by decide +kernel
theorem dJ8_hugeLength_7cf53_58 : decode cJ8_hugeLength_7cf53 58 = .ok (.iload_n 2, 1) := by decide +kernel
theorem dJ8_hugeLength_7cf53_59 : decode cJ8_hugeLength_7cf53 59 = .ok (.ireturn, 1) := by decide +kernel
theorem dJ3_checkIndex_8e157_0 : decode cJ3_checkIndex_8e157 0 = .ok (.iload_n 0, 1) := by decide +kernel
theorem dJ3_checkIndex_8e157_1 : decode cJ3_checkIndex_8e157 1 = .ok (.ifCond .lt 8, 3) := by decide +kernel
theorem dJ3_checkIndex_8e157_4 : decode cJ3_checkIndex_8e157 4 = .ok (.iload_n 0, 1) := by decide +kernel
theorem dJ3_checkIndex_8e157_5 : decode cJ3_checkIndex_8e157 5 = .ok (.iload_n 1, 1) := by decide +kernel
theorem dJ3_checkIndex_8e157_6 : decode cJ3_checkIndex_8e157 6 = .ok (.if_icmp .lt 10, 3) := by decide +kernel
theorem dJ3_checkIndex_8e157_9 : decode cJ3_checkIndex_8e157 9 = .ok (.aload_n 2, 1) := by decide +kernel
theorem dJ3_checkIndex_8e157_10 : decode cJ3_checkIndex_8e157 10 = .ok (.iload_n 0, 1) := by decide +kernel
theorem dJ3_checkIndex_8e157_11 : decode cJ3_checkIndex_8e157 11 = .ok (.iload_n 1, 1) := by decide +kernel
theorem dJ3_checkIndex_8e157_12 : decode cJ3_checkIndex_8e157 12 = .ok (.invokestatic 95, 3) := by decide +kernel
theorem dJ3_checkIndex_8e157_15 : decode cJ3_checkIndex_8e157 15 = .ok (.athrow, 1) := by decide +kernel
theorem dJ3_checkIndex_8e157_16 : decode cJ3_checkIndex_8e157 16 = .ok (.iload_n 0, 1) := by decide +kernel
theorem dJ3_checkIndex_8e157_17 : decode cJ3_checkIndex_8e157 17 = .ok (.ireturn, 1) := by decide +kernel
set_option maxRecDepth 20000 in
theorem ggL_law_X1_init : GoodIn wsL_law wsX1_init := goodIn_r _ [9, 10, 11, 12, 13, 14, 15, 16, 17, 18, 19, 20, 21, 22, 23, 24, 25, 26, 27, 28, 29, 30, 31, 32, 33, 34, 35, 36, 37, 363, 364, 365, 340, 341, 342, 343, 344, 345] (by decide +kernel) (by decide +kernel)
set_option maxRecDepth 20000 in
theorem gL_law_X1_init : GoodIn wsL_law (wsX1_init) := ggL_law_X1_init
set_option maxRecDepth 20000 in
theorem ggL_law_X2_init : GoodIn wsL_law wsX2_init := goodIn_r _ [40, 41, 11, 12, 17, 42, 43, 44, 45, 46, 47, 48, 49, 50, 51, 52, 53, 54, 55, 56, 346, 347, 348, 349, 350, 351, 352, 353, 354, 355, 356, 357, 358, 359, 360, 361, 362] (by decide +kernel) (by decide +kernel)
set_option maxRecDepth 20000 in
theorem gL_law_X2_init : GoodIn wsL_law (wsX2_init) := ggL_law_X2_init
set_option maxRecDepth 20000 in
theorem ggL_law_X1_order : GoodIn wsL_law wsX1_order := goodIn_r _ [60, 16, 61, 62, 63, 22, 64, 65, 2, 66, 67, 68, 69, 70, 71, 72, 73, 74, 75, 76, 77, 78, 79, 80, 81, 82, 15, 83, 84, 85, 86, 87, 88, 11, 12, 89, 90, 91, 92, 93, 94, 95, 96, 97, 98, 99, 100, 101, 102, 103, 104, 27, 105, 106, 107, 108, 109, 110, 111, 112, 113, 114, 115, 116, 26, 117, 118, 119, 120, 121, 122, 123, 124, 125, 126, 127, 128, 129, 130, 131, 132, 133, 134, 135, 136, 137, 138, 139, 140, 141, 142, 143, 144, 145, 146, 147, 148, 149, 150, 340, 341, 342, 343, 344, 345, 366, 367, 368, 369, 370, 371, 372, 373, 374, 363, 364, 365] (by decide +kernel) (by decide +kernel)
set_option maxRecDepth 20000 in
theorem gL_law_X1_order : GoodIn wsL_law (wsV RL 15 RX1 yX1_order wsX1_order) := goodIn_app (goodIn_of _ (by decide +kernel)) ggL_law_X1_order
set_option maxRecDepth 20000 in
theorem ggL_law_X2_order : GoodIn wsL_law wsX2_order := goodIn_r _ [154, 155, 156, 157, 158, 159, 160, 161, 42, 43, 44, 45, 47, 48, 49, 162, 52, 163, 164, 5, 165, 346, 347, 348, 349, 350, 351, 352, 353, 354, 355, 356, 357, 358, 359, 360, 361, 362] (by decide +kernel) (by decide +kernel)
set_option maxRecDepth 20000 in
theorem gL_law_X2_order : GoodIn wsL_law (wsV RL 19 RX2 yX2_order wsX2_order) := goodIn_app (goodIn_of _ (by decide +kernel)) ggL_law_X2_order
set_option maxRecDepth 20000 in
theorem ggL_law_X1_proof : GoodIn wsL_law wsX1_proof := goodIn_r _ [169, 170, 22, 171, 172, 173, 174, 2, 175, 16, 176, 80, 81, 82, 15, 83, 84, 177, 178, 179, 180, 181, 182, 183, 184, 185, 186, 187, 188, 189, 190, 191, 192, 27, 193, 194, 195, 196, 76, 77, 78, 79, 197, 198, 199, 200, 201, 202, 203, 63, 204, 98, 95, 205, 97, 206, 207, 208, 209, 96, 210, 366, 367, 368, 369, 370, 371, 372, 373, 374, 340, 341, 342, 343, 344, 345, 363, 364, 365] (by decide +kernel) (by decide +kernel)
set_option maxRecDepth 20000 in
theorem gL_law_X1_proof : GoodIn wsL_law (wsV RL 20 RX1 yX1_proof wsX1_proof) := goodIn_app (goodIn_of _ (by decide +kernel)) ggL_law_X1_proof
set_option maxRecDepth 20000 in
theorem ggL_law_X2_proof : GoodIn wsL_law wsX2_proof := goodIn_r _ [214, 155, 52, 51, 157, 215, 216, 217, 5, 218, 161, 163, 164, 165, 219, 220, 221, 222, 162, 160, 223, 224, 225, 226, 49, 227, 228, 346, 347, 348, 349, 350, 351, 352, 353, 354, 355, 356, 357, 358, 359, 360, 361, 362] (by decide +kernel) (by decide +kernel)
set_option maxRecDepth 20000 in
theorem gL_law_X2_proof : GoodIn wsL_law (wsV RL 24 RX2 yX2_proof wsX2_proof) := goodIn_app (goodIn_of _ (by decide +kernel)) ggL_law_X2_proof
set_option maxRecDepth 20000 in
theorem ggL_law_X1_withdraw : GoodIn wsL_law wsX1_withdraw := goodIn_r _ [232, 22, 171, 172, 173, 174, 2, 175, 16, 176, 80, 81, 82, 15, 83, 84, 177, 178, 179, 180, 181, 182, 183, 184, 185, 186, 187, 188, 189, 190, 191, 192, 27, 193, 194, 195, 196, 76, 77, 78, 79, 197, 198, 199, 200, 201, 202, 203, 63, 204, 98, 95, 205, 97, 206, 207, 208, 209, 96, 210, 233, 234, 235, 236, 93, 237, 238, 119, 239, 94, 340, 341, 342, 343, 344, 345, 366, 367, 368, 369, 370, 371, 372, 373, 374, 363, 364, 365] (by decide +kernel) (by decide +kernel)
set_option maxRecDepth 20000 in
theorem gL_law_X1_withdraw : GoodIn wsL_law (wsV RL 25 RX1 yX1_withdraw wsX1_withdraw) := goodIn_app (goodIn_of _ (by decide +kernel)) ggL_law_X1_withdraw
set_option maxRecDepth 20000 in
theorem ggL_law_X2_withdraw : GoodIn wsL_law wsX2_withdraw := goodIn_r _ [243, 155, 52, 47, 48, 215, 216, 217, 5, 218, 161, 163, 164, 165, 219, 220, 221, 222, 162, 160, 223, 224, 225, 226, 51, 49, 227, 228, 346, 347, 348, 349, 350, 351, 352, 353, 354, 355, 356, 357, 358, 359, 360, 361, 362] (by decide +kernel) (by decide +kernel)
set_option maxRecDepth 20000 in
theorem gL_law_X2_withdraw : GoodIn wsL_law (wsV RL 29 RX2 yX2_withdraw wsX2_withdraw) := goodIn_app (goodIn_of _ (by decide +kernel)) ggL_law_X2_withdraw
set_option maxRecDepth 20000 in
theorem ggL_law_X1_effective : GoodIn wsL_law wsX1_effective := goodIn_r _ [247, 19, 248, 249, 70, 71, 2, 72, 73, 74, 75, 76, 77, 78, 79, 250, 251, 252, 253, 254, 255, 256, 257, 21, 258, 118, 119, 120, 20, 259, 260, 261, 262, 16, 80, 81, 82, 15, 83, 84, 172, 173, 174, 175, 176, 177, 178, 179, 180, 181, 182, 183, 184, 185, 186, 187, 188, 189, 190, 191, 192, 27, 263, 264, 265, 63, 266, 90, 91, 89, 267, 268, 269, 270, 93, 94, 97, 271, 272, 273, 274, 18, 64, 65, 66, 275, 276, 277, 278, 68, 69, 67, 340, 341, 342, 343, 344, 345, 366, 367, 368, 369, 370, 371, 372, 373, 374, 363, 364, 365] (by decide +kernel) (by decide +kernel)
set_option maxRecDepth 20000 in
theorem gL_law_X1_effective : GoodIn wsL_law (wsV RL 30 RX1 yX1_effective wsX1_effective) := goodIn_app (goodIn_of _ (by decide +kernel)) ggL_law_X1_effective
set_option maxRecDepth 20000 in
theorem ggL_law_X2_effective : GoodIn wsL_law wsX2_effective := goodIn_r _ [282, 155, 156, 158, 283, 160, 54, 42, 45, 56, 55, 163, 164, 5, 165, 284, 285, 286, 287, 161, 43, 44, 53, 288, 289, 290, 291, 47, 48, 52, 346, 347, 348, 349, 350, 351, 352, 353, 354, 355, 356, 357, 358, 359, 360, 361, 362] (by decide +kernel) (by decide +kernel)
set_option maxRecDepth 20000 in
theorem gL_law_X2_effective : GoodIn wsL_law (wsV RL 34 RX2 yX2_effective wsX2_effective) := goodIn_app (goodIn_of _ (by decide +kernel)) ggL_law_X2_effective
set_option maxRecDepth 20000 in
theorem ggL_law_X1_ring : GoodIn wsL_law wsX1_ring := goodIn_r _ [295, 21, 20, 340, 341, 342, 343, 344, 345] (by decide +kernel) (by decide +kernel)
set_option maxRecDepth 20000 in
theorem gL_law_X1_ring : GoodIn wsL_law (wsV RL 35 RX1 yX1_ring wsX1_ring) := goodIn_app (goodIn_of _ (by decide +kernel)) ggL_law_X1_ring
set_option maxRecDepth 20000 in
theorem ggL_law_X2_ring : GoodIn wsL_law wsX2_ring := goodIn_r _ [299, 155, 56, 55, 346, 347, 348, 349, 350, 351, 352, 353, 354, 355, 356, 357, 358, 359, 360, 361, 362] (by decide +kernel) (by decide +kernel)
set_option maxRecDepth 20000 in
theorem gL_law_X2_ring : GoodIn wsL_law (wsV RL 39 RX2 yX2_ring wsX2_ring) := goodIn_app (goodIn_of _ (by decide +kernel)) ggL_law_X2_ring
set_option maxRecDepth 20000 in
theorem ggL_law_X1_rank : GoodIn wsL_law wsX1_rank := goodIn_r _ [303, 18, 64, 65, 2, 66, 271, 272, 273, 274, 340, 341, 342, 343, 344, 345] (by decide +kernel) (by decide +kernel)
set_option maxRecDepth 20000 in
theorem gL_law_X1_rank : GoodIn wsL_law (wsV RL 40 RX1 yX1_rank wsX1_rank) := goodIn_app (goodIn_of _ (by decide +kernel)) ggL_law_X1_rank
set_option maxRecDepth 20000 in
theorem ggL_law_X2_rank : GoodIn wsL_law wsX2_rank := goodIn_r _ [307, 155, 159, 308, 53, 163, 164, 5, 165, 346, 347, 348, 349, 350, 351, 352, 353, 354, 355, 356, 357, 358, 359, 360, 361, 362] (by decide +kernel) (by decide +kernel)
set_option maxRecDepth 20000 in
theorem gL_law_X2_rank : GoodIn wsL_law (wsV RL 44 RX2 yX2_rank wsX2_rank) := goodIn_app (goodIn_of _ (by decide +kernel)) ggL_law_X2_rank
set_option maxRecDepth 20000 in
theorem ggL_law_X1_tick : GoodIn wsL_law wsX1_tick := goodIn_r _ [312, 193, 194, 195, 2, 196, 22, 76, 77, 78, 79, 197, 198, 199, 200, 16, 80, 81, 82, 15, 83, 84, 172, 173, 174, 175, 176, 177, 178, 179, 180, 181, 182, 183, 184, 185, 186, 187, 188, 189, 190, 191, 192, 27, 201, 202, 203, 63, 204, 98, 95, 205, 97, 206, 207, 208, 209, 96, 340, 341, 342, 343, 344, 345, 363, 364, 365, 366, 367, 368, 369, 370, 371, 372, 373, 374] (by decide +kernel) (by decide +kernel)
set_option maxRecDepth 20000 in
theorem gL_law_X1_tick : GoodIn wsL_law (wsV RL 45 RX1 yX1_tick wsX1_tick) := goodIn_app (goodIn_of _ (by decide +kernel)) ggL_law_X1_tick
set_option maxRecDepth 20000 in
theorem ggL_law_X2_tick : GoodIn wsL_law wsX2_tick := goodIn_r _ [316, 155, 219, 220, 221, 5, 222, 162, 160, 163, 164, 165, 223, 224, 225, 226, 161, 51, 52, 49, 227, 228, 346, 347, 348, 349, 350, 351, 352, 353, 354, 355, 356, 357, 358, 359, 360, 361, 362] (by decide +kernel) (by decide +kernel)
set_option maxRecDepth 20000 in
theorem gL_law_X2_tick : GoodIn wsL_law (wsV RL 49 RX2 yX2_tick wsX2_tick) := goodIn_app (goodIn_of _ (by decide +kernel)) ggL_law_X2_tick
set_option maxRecDepth 20000 in
theorem ggL_law_X1_extend : GoodIn wsL_law wsX1_extend := goodIn_r _ [320, 321, 172, 173, 174, 2, 175, 16, 176, 80, 81, 82, 15, 83, 84, 177, 178, 179, 180, 181, 182, 183, 184, 185, 186, 187, 188, 189, 190, 191, 192, 27, 76, 77, 78, 79, 210, 207, 208, 63, 209, 97, 96, 366, 367, 368, 369, 370, 371, 372, 373, 374, 340, 341, 342, 343, 344, 345, 363, 364, 365] (by decide +kernel) (by decide +kernel)
set_option maxRecDepth 20000 in
theorem gL_law_X1_extend : GoodIn wsL_law (wsV RL 50 RX1 yX1_extend wsX1_extend) := goodIn_app (goodIn_of _ (by decide +kernel)) ggL_law_X1_extend
set_option maxRecDepth 20000 in
theorem ggL_law_X2_extend : GoodIn wsL_law wsX2_extend := goodIn_r _ [325, 155, 160, 52, 48, 215, 216, 217, 5, 218, 161, 163, 164, 165, 346, 347, 348, 349, 350, 351, 352, 353, 354, 355, 356, 357, 358, 359, 360, 361, 362] (by decide +kernel) (by decide +kernel)
set_option maxRecDepth 20000 in
theorem gL_law_X2_extend : GoodIn wsL_law (wsV RL 53 RX2 yX2_extend wsX2_extend) := goodIn_app (goodIn_of _ (by decide +kernel)) ggL_law_X2_extend
set_option maxRecDepth 20000 in
theorem ggL_law_X1_told : GoodIn wsL_law wsX1_told := goodIn_r _ [329, 16, 22, 73, 74, 2, 75, 80, 81, 82, 15, 83, 84, 172, 173, 174, 175, 176, 177, 178, 179, 180, 181, 182, 183, 184, 185, 186, 187, 188, 189, 190, 191, 192, 27, 330, 331, 332, 63, 333, 91, 98, 334, 276, 277, 278, 89, 68, 69, 335, 268, 269, 270, 93, 94, 97, 340, 341, 342, 343, 344, 345, 363, 364, 365, 366, 367, 368, 369, 370, 371, 372, 373, 374] (by decide +kernel) (by decide +kernel)
set_option maxRecDepth 20000 in
theorem gL_law_X1_told : GoodIn wsL_law (wsV RL 54 RX1 yX1_told wsX1_told) := goodIn_app (goodIn_of _ (by decide +kernel)) ggL_law_X1_told
set_option maxRecDepth 20000 in
theorem ggL_law_X2_told : GoodIn wsL_law wsX2_told := goodIn_r _ [339, 155, 158, 161, 44, 51, 42, 162, 163, 164, 5, 165, 288, 289, 290, 291, 47, 48, 52, 346, 347, 348, 349, 350, 351, 352, 353, 354, 355, 356, 357, 358, 359, 360, 361, 362] (by decide +kernel) (by decide +kernel)
set_option maxRecDepth 20000 in
theorem gL_law_X2_told : GoodIn wsL_law (wsV RL 57 RX2 yX2_told wsX2_told) := goodIn_app (goodIn_of _ (by decide +kernel)) ggL_law_X2_told
theorem dL_law_0 : decode cL_law 0 = .ok (.new 7, 3) := by decide +kernel
theorem dL_law_3 : decode cL_law 3 = .ok (.dup, 1) := by decide +kernel
theorem dL_law_4 : decode cL_law 4 = .ok (.invokespecial 9, 3) := by decide +kernel
theorem dL_law_7 : decode cL_law 7 = .ok (.astore_n 1, 1) := by decide +kernel
theorem dL_law_8 : decode cL_law 8 = .ok (.new 10, 3) := by decide +kernel
theorem dL_law_11 : decode cL_law 11 = .ok (.dup, 1) := by decide +kernel
theorem dL_law_12 : decode cL_law 12 = .ok (.invokespecial 12, 3) := by decide +kernel
theorem dL_law_15 : decode cL_law 15 = .ok (.astore_n 2, 1) := by decide +kernel
theorem dL_law_16 : decode cL_law 16 = .ok (.iconst 0, 1) := by decide +kernel
theorem dL_law_17 : decode cL_law 17 = .ok (.istore_n 3, 1) := by decide +kernel
theorem dL_law_18 : decode cL_law 18 = .ok (.iload_n 3, 1) := by decide +kernel
theorem dL_law_19 : decode cL_law 19 = .ok (.aload_n 0, 1) := by decide +kernel
theorem dL_law_20 : decode cL_law 20 = .ok (.arraylength, 1) := by decide +kernel
theorem dL_law_21 : decode cL_law 21 = .ok (.bipush 9, 2) := by decide +kernel
theorem dL_law_23 : decode cL_law 23 = .ok (.isub, 1) := by decide +kernel
theorem dL_law_24 : decode cL_law 24 = .ok (.if_icmp .gt 645, 3) := by decide +kernel
theorem dL_law_27 : decode cL_law 27 = .ok (.aload_n 0, 1) := by decide +kernel
theorem dL_law_28 : decode cL_law 28 = .ok (.iload_n 3, 1) := by decide +kernel
theorem dL_law_29 : decode cL_law 29 = .ok (.iaload, 1) := by decide +kernel
theorem dL_law_30 : decode cL_law 30 = .ok (.bipush 15, 2) := by decide +kernel
theorem dL_law_32 : decode cL_law 32 = .ok (.iand, 1) := by decide +kernel
theorem dL_law_33 : decode cL_law 33 = .ok (.tableswitch 630 0 8 #[51, 190, 279, 342, 425, 448, 481, 534, 597], 51) := by decide +kernel
theorem dL_law_84 : decode cL_law 84 = .ok (.aload_n 1, 1) := by decide +kernel
theorem dL_law_85 : decode cL_law 85 = .ok (.aload_n 0, 1) := by decide +kernel
theorem dL_law_86 : decode cL_law 86 = .ok (.iload_n 3, 1) := by decide +kernel
theorem dL_law_87 : decode cL_law 87 = .ok (.iconst 1, 1) := by decide +kernel
theorem dL_law_88 : decode cL_law 88 = .ok (.iadd, 1) := by decide +kernel
theorem dL_law_89 : decode cL_law 89 = .ok (.iaload, 1) := by decide +kernel
theorem dL_law_90 : decode cL_law 90 = .ok (.aload_n 0, 1) := by decide +kernel
theorem dL_law_91 : decode cL_law 91 = .ok (.iload_n 3, 1) := by decide +kernel
theorem dL_law_92 : decode cL_law 92 = .ok (.iconst 2, 1) := by decide +kernel
theorem dL_law_93 : decode cL_law 93 = .ok (.iadd, 1) := by decide +kernel
theorem dL_law_94 : decode cL_law 94 = .ok (.iaload, 1) := by decide +kernel
theorem dL_law_95 : decode cL_law 95 = .ok (.aload_n 0, 1) := by decide +kernel
theorem dL_law_96 : decode cL_law 96 = .ok (.iload_n 3, 1) := by decide +kernel
theorem dL_law_97 : decode cL_law 97 = .ok (.iconst 3, 1) := by decide +kernel
theorem dL_law_98 : decode cL_law 98 = .ok (.iadd, 1) := by decide +kernel
theorem dL_law_99 : decode cL_law 99 = .ok (.iaload, 1) := by decide +kernel
theorem dL_law_100 : decode cL_law 100 = .ok (.aload_n 0, 1) := by decide +kernel
theorem dL_law_101 : decode cL_law 101 = .ok (.iload_n 3, 1) := by decide +kernel
theorem dL_law_102 : decode cL_law 102 = .ok (.iconst 4, 1) := by decide +kernel
theorem dL_law_103 : decode cL_law 103 = .ok (.iadd, 1) := by decide +kernel
theorem dL_law_104 : decode cL_law 104 = .ok (.iaload, 1) := by decide +kernel
theorem dL_law_105 : decode cL_law 105 = .ok (.aload_n 0, 1) := by decide +kernel
theorem dL_law_106 : decode cL_law 106 = .ok (.iload_n 3, 1) := by decide +kernel
theorem dL_law_107 : decode cL_law 107 = .ok (.iconst 5, 1) := by decide +kernel
theorem dL_law_108 : decode cL_law 108 = .ok (.iadd, 1) := by decide +kernel
theorem dL_law_109 : decode cL_law 109 = .ok (.iaload, 1) := by decide +kernel
theorem dL_law_110 : decode cL_law 110 = .ok (.i2l, 1) := by decide +kernel
theorem dL_law_111 : decode cL_law 111 = .ok (.bipush 32, 2) := by decide +kernel
theorem dL_law_113 : decode cL_law 113 = .ok (.lshl, 1) := by decide +kernel
theorem dL_law_114 : decode cL_law 114 = .ok (.aload_n 0, 1) := by decide +kernel
theorem dL_law_115 : decode cL_law 115 = .ok (.iload_n 3, 1) := by decide +kernel
theorem dL_law_116 : decode cL_law 116 = .ok (.bipush 6, 2) := by decide +kernel
theorem dL_law_118 : decode cL_law 118 = .ok (.iadd, 1) := by decide +kernel
theorem dL_law_119 : decode cL_law 119 = .ok (.iaload, 1) := by decide +kernel
theorem dL_law_120 : decode cL_law 120 = .ok (.i2l, 1) := by decide +kernel
theorem dL_law_121 : decode cL_law 121 = .ok (.ldc2_w 13, 3) := by decide +kernel
theorem dL_law_124 : decode cL_law 124 = .ok (.land, 1) := by decide +kernel
theorem dL_law_125 : decode cL_law 125 = .ok (.lor, 1) := by decide +kernel
theorem dL_law_126 : decode cL_law 126 = .ok (.aload_n 0, 1) := by decide +kernel
theorem dL_law_127 : decode cL_law 127 = .ok (.iload_n 3, 1) := by decide +kernel
theorem dL_law_128 : decode cL_law 128 = .ok (.bipush 7, 2) := by decide +kernel
theorem dL_law_130 : decode cL_law 130 = .ok (.iadd, 1) := by decide +kernel
theorem dL_law_131 : decode cL_law 131 = .ok (.iaload, 1) := by decide +kernel
theorem dL_law_132 : decode cL_law 132 = .ok (.i2l, 1) := by decide +kernel
theorem dL_law_133 : decode cL_law 133 = .ok (.bipush 32, 2) := by decide +kernel
theorem dL_law_135 : decode cL_law 135 = .ok (.lshl, 1) := by decide +kernel
theorem dL_law_136 : decode cL_law 136 = .ok (.aload_n 0, 1) := by decide +kernel
theorem dL_law_137 : decode cL_law 137 = .ok (.iload_n 3, 1) := by decide +kernel
theorem dL_law_138 : decode cL_law 138 = .ok (.bipush 8, 2) := by decide +kernel
theorem dL_law_140 : decode cL_law 140 = .ok (.iadd, 1) := by decide +kernel
theorem dL_law_141 : decode cL_law 141 = .ok (.iaload, 1) := by decide +kernel
theorem dL_law_142 : decode cL_law 142 = .ok (.i2l, 1) := by decide +kernel
theorem dL_law_143 : decode cL_law 143 = .ok (.ldc2_w 13, 3) := by decide +kernel
theorem dL_law_146 : decode cL_law 146 = .ok (.land, 1) := by decide +kernel
theorem dL_law_147 : decode cL_law 147 = .ok (.lor, 1) := by decide +kernel
theorem dL_law_148 : decode cL_law 148 = .ok (.invokevirtual 15, 3) := by decide +kernel
theorem dL_law_151 : decode cL_law 151 = .ok (.aload_n 2, 1) := by decide +kernel
theorem dL_law_152 : decode cL_law 152 = .ok (.aload_n 0, 1) := by decide +kernel
theorem dL_law_153 : decode cL_law 153 = .ok (.iload_n 3, 1) := by decide +kernel
theorem dL_law_154 : decode cL_law 154 = .ok (.iconst 1, 1) := by decide +kernel
theorem dL_law_155 : decode cL_law 155 = .ok (.iadd, 1) := by decide +kernel
theorem dL_law_156 : decode cL_law 156 = .ok (.iaload, 1) := by decide +kernel
theorem dL_law_157 : decode cL_law 157 = .ok (.aload_n 0, 1) := by decide +kernel
theorem dL_law_158 : decode cL_law 158 = .ok (.iload_n 3, 1) := by decide +kernel
theorem dL_law_159 : decode cL_law 159 = .ok (.iconst 2, 1) := by decide +kernel
theorem dL_law_160 : decode cL_law 160 = .ok (.iadd, 1) := by decide +kernel
theorem dL_law_161 : decode cL_law 161 = .ok (.iaload, 1) := by decide +kernel
theorem dL_law_162 : decode cL_law 162 = .ok (.aload_n 0, 1) := by decide +kernel
theorem dL_law_163 : decode cL_law 163 = .ok (.iload_n 3, 1) := by decide +kernel
theorem dL_law_164 : decode cL_law 164 = .ok (.iconst 3, 1) := by decide +kernel
theorem dL_law_165 : decode cL_law 165 = .ok (.iadd, 1) := by decide +kernel
theorem dL_law_166 : decode cL_law 166 = .ok (.iaload, 1) := by decide +kernel
theorem dL_law_167 : decode cL_law 167 = .ok (.aload_n 0, 1) := by decide +kernel
theorem dL_law_168 : decode cL_law 168 = .ok (.iload_n 3, 1) := by decide +kernel
theorem dL_law_169 : decode cL_law 169 = .ok (.iconst 4, 1) := by decide +kernel
theorem dL_law_170 : decode cL_law 170 = .ok (.iadd, 1) := by decide +kernel
theorem dL_law_171 : decode cL_law 171 = .ok (.iaload, 1) := by decide +kernel
theorem dL_law_172 : decode cL_law 172 = .ok (.aload_n 0, 1) := by decide +kernel
theorem dL_law_173 : decode cL_law 173 = .ok (.iload_n 3, 1) := by decide +kernel
theorem dL_law_174 : decode cL_law 174 = .ok (.iconst 5, 1) := by decide +kernel
theorem dL_law_175 : decode cL_law 175 = .ok (.iadd, 1) := by decide +kernel
theorem dL_law_176 : decode cL_law 176 = .ok (.iaload, 1) := by decide +kernel
theorem dL_law_177 : decode cL_law 177 = .ok (.i2l, 1) := by decide +kernel
theorem dL_law_178 : decode cL_law 178 = .ok (.bipush 32, 2) := by decide +kernel
theorem dL_law_180 : decode cL_law 180 = .ok (.lshl, 1) := by decide +kernel
theorem dL_law_181 : decode cL_law 181 = .ok (.aload_n 0, 1) := by decide +kernel
theorem dL_law_182 : decode cL_law 182 = .ok (.iload_n 3, 1) := by decide +kernel
theorem dL_law_183 : decode cL_law 183 = .ok (.bipush 6, 2) := by decide +kernel
theorem dL_law_185 : decode cL_law 185 = .ok (.iadd, 1) := by decide +kernel
theorem dL_law_186 : decode cL_law 186 = .ok (.iaload, 1) := by decide +kernel
theorem dL_law_187 : decode cL_law 187 = .ok (.i2l, 1) := by decide +kernel
theorem dL_law_188 : decode cL_law 188 = .ok (.ldc2_w 13, 3) := by decide +kernel
theorem dL_law_191 : decode cL_law 191 = .ok (.land, 1) := by decide +kernel
theorem dL_law_192 : decode cL_law 192 = .ok (.lor, 1) := by decide +kernel
theorem dL_law_193 : decode cL_law 193 = .ok (.aload_n 0, 1) := by decide +kernel
theorem dL_law_194 : decode cL_law 194 = .ok (.iload_n 3, 1) := by decide +kernel
theorem dL_law_195 : decode cL_law 195 = .ok (.bipush 7, 2) := by decide +kernel
theorem dL_law_197 : decode cL_law 197 = .ok (.iadd, 1) := by decide +kernel
theorem dL_law_198 : decode cL_law 198 = .ok (.iaload, 1) := by decide +kernel
theorem dL_law_199 : decode cL_law 199 = .ok (.i2l, 1) := by decide +kernel
theorem dL_law_200 : decode cL_law 200 = .ok (.bipush 32, 2) := by decide +kernel
theorem dL_law_202 : decode cL_law 202 = .ok (.lshl, 1) := by decide +kernel
theorem dL_law_203 : decode cL_law 203 = .ok (.aload_n 0, 1) := by decide +kernel
theorem dL_law_204 : decode cL_law 204 = .ok (.iload_n 3, 1) := by decide +kernel
theorem dL_law_205 : decode cL_law 205 = .ok (.bipush 8, 2) := by decide +kernel
theorem dL_law_207 : decode cL_law 207 = .ok (.iadd, 1) := by decide +kernel
theorem dL_law_208 : decode cL_law 208 = .ok (.iaload, 1) := by decide +kernel
theorem dL_law_209 : decode cL_law 209 = .ok (.i2l, 1) := by decide +kernel
theorem dL_law_210 : decode cL_law 210 = .ok (.ldc2_w 13, 3) := by decide +kernel
theorem dL_law_213 : decode cL_law 213 = .ok (.land, 1) := by decide +kernel
theorem dL_law_214 : decode cL_law 214 = .ok (.lor, 1) := by decide +kernel
theorem dL_law_215 : decode cL_law 215 = .ok (.invokevirtual 19, 3) := by decide +kernel
theorem dL_law_218 : decode cL_law 218 = .ok (.if_icmp .eq 445, 3) := by decide +kernel
theorem dL_law_221 : decode cL_law 221 = .ok (.iconst 0, 1) := by decide +kernel
theorem dL_law_222 : decode cL_law 222 = .ok (.ireturn, 1) := by decide +kernel
theorem dL_law_223 : decode cL_law 223 = .ok (.aload_n 1, 1) := by decide +kernel
theorem dL_law_224 : decode cL_law 224 = .ok (.aload_n 0, 1) := by decide +kernel
theorem dL_law_225 : decode cL_law 225 = .ok (.iload_n 3, 1) := by decide +kernel
theorem dL_law_226 : decode cL_law 226 = .ok (.iconst 1, 1) := by decide +kernel
theorem dL_law_227 : decode cL_law 227 = .ok (.iadd, 1) := by decide +kernel
theorem dL_law_228 : decode cL_law 228 = .ok (.iaload, 1) := by decide +kernel
theorem dL_law_229 : decode cL_law 229 = .ok (.aload_n 0, 1) := by decide +kernel
theorem dL_law_230 : decode cL_law 230 = .ok (.iload_n 3, 1) := by decide +kernel
theorem dL_law_231 : decode cL_law 231 = .ok (.iconst 2, 1) := by decide +kernel
theorem dL_law_232 : decode cL_law 232 = .ok (.iadd, 1) := by decide +kernel
theorem dL_law_233 : decode cL_law 233 = .ok (.iaload, 1) := by decide +kernel
theorem dL_law_234 : decode cL_law 234 = .ok (.ifCond .eq 7, 3) := by decide +kernel
theorem dL_law_237 : decode cL_law 237 = .ok (.iconst 1, 1) := by decide +kernel
theorem dL_law_238 : decode cL_law 238 = .ok (.goto 4, 3) := by decide +kernel
theorem dL_law_241 : decode cL_law 241 = .ok (.iconst 0, 1) := by decide +kernel
theorem dL_law_242 : decode cL_law 242 = .ok (.aload_n 0, 1) := by decide +kernel
theorem dL_law_243 : decode cL_law 243 = .ok (.iload_n 3, 1) := by decide +kernel
theorem dL_law_244 : decode cL_law 244 = .ok (.iconst 3, 1) := by decide +kernel
theorem dL_law_245 : decode cL_law 245 = .ok (.iadd, 1) := by decide +kernel
theorem dL_law_246 : decode cL_law 246 = .ok (.iaload, 1) := by decide +kernel
theorem dL_law_247 : decode cL_law 247 = .ok (.i2l, 1) := by decide +kernel
theorem dL_law_248 : decode cL_law 248 = .ok (.bipush 32, 2) := by decide +kernel
theorem dL_law_250 : decode cL_law 250 = .ok (.lshl, 1) := by decide +kernel
theorem dL_law_251 : decode cL_law 251 = .ok (.aload_n 0, 1) := by decide +kernel
theorem dL_law_252 : decode cL_law 252 = .ok (.iload_n 3, 1) := by decide +kernel
theorem dL_law_253 : decode cL_law 253 = .ok (.iconst 4, 1) := by decide +kernel
theorem dL_law_254 : decode cL_law 254 = .ok (.iadd, 1) := by decide +kernel
theorem dL_law_255 : decode cL_law 255 = .ok (.iaload, 1) := by decide +kernel
theorem dL_law_256 : decode cL_law 256 = .ok (.i2l, 1) := by decide +kernel
theorem dL_law_257 : decode cL_law 257 = .ok (.ldc2_w 13, 3) := by decide +kernel
theorem dL_law_260 : decode cL_law 260 = .ok (.land, 1) := by decide +kernel
theorem dL_law_261 : decode cL_law 261 = .ok (.lor, 1) := by decide +kernel
theorem dL_law_262 : decode cL_law 262 = .ok (.invokevirtual 20, 3) := by decide +kernel
theorem dL_law_265 : decode cL_law 265 = .ok (.aload_n 2, 1) := by decide +kernel
theorem dL_law_266 : decode cL_law 266 = .ok (.aload_n 0, 1) := by decide +kernel
theorem dL_law_267 : decode cL_law 267 = .ok (.iload_n 3, 1) := by decide +kernel
theorem dL_law_268 : decode cL_law 268 = .ok (.iconst 1, 1) := by decide +kernel
theorem dL_law_269 : decode cL_law 269 = .ok (.iadd, 1) := by decide +kernel
theorem dL_law_270 : decode cL_law 270 = .ok (.iaload, 1) := by decide +kernel
theorem dL_law_271 : decode cL_law 271 = .ok (.aload_n 0, 1) := by decide +kernel
theorem dL_law_272 : decode cL_law 272 = .ok (.iload_n 3, 1) := by decide +kernel
theorem dL_law_273 : decode cL_law 273 = .ok (.iconst 2, 1) := by decide +kernel
theorem dL_law_274 : decode cL_law 274 = .ok (.iadd, 1) := by decide +kernel
theorem dL_law_275 : decode cL_law 275 = .ok (.iaload, 1) := by decide +kernel
theorem dL_law_276 : decode cL_law 276 = .ok (.ifCond .eq 7, 3) := by decide +kernel
theorem dL_law_279 : decode cL_law 279 = .ok (.iconst 1, 1) := by decide +kernel
theorem dL_law_280 : decode cL_law 280 = .ok (.goto 4, 3) := by decide +kernel
theorem dL_law_283 : decode cL_law 283 = .ok (.iconst 0, 1) := by decide +kernel
theorem dL_law_284 : decode cL_law 284 = .ok (.aload_n 0, 1) := by decide +kernel
theorem dL_law_285 : decode cL_law 285 = .ok (.iload_n 3, 1) := by decide +kernel
theorem dL_law_286 : decode cL_law 286 = .ok (.iconst 3, 1) := by decide +kernel
theorem dL_law_287 : decode cL_law 287 = .ok (.iadd, 1) := by decide +kernel
theorem dL_law_288 : decode cL_law 288 = .ok (.iaload, 1) := by decide +kernel
theorem dL_law_289 : decode cL_law 289 = .ok (.i2l, 1) := by decide +kernel
theorem dL_law_290 : decode cL_law 290 = .ok (.bipush 32, 2) := by decide +kernel
theorem dL_law_292 : decode cL_law 292 = .ok (.lshl, 1) := by decide +kernel
theorem dL_law_293 : decode cL_law 293 = .ok (.aload_n 0, 1) := by decide +kernel
theorem dL_law_294 : decode cL_law 294 = .ok (.iload_n 3, 1) := by decide +kernel
theorem dL_law_295 : decode cL_law 295 = .ok (.iconst 4, 1) := by decide +kernel
theorem dL_law_296 : decode cL_law 296 = .ok (.iadd, 1) := by decide +kernel
theorem dL_law_297 : decode cL_law 297 = .ok (.iaload, 1) := by decide +kernel
theorem dL_law_298 : decode cL_law 298 = .ok (.i2l, 1) := by decide +kernel
theorem dL_law_299 : decode cL_law 299 = .ok (.ldc2_w 13, 3) := by decide +kernel
theorem dL_law_302 : decode cL_law 302 = .ok (.land, 1) := by decide +kernel
theorem dL_law_303 : decode cL_law 303 = .ok (.lor, 1) := by decide +kernel
theorem dL_law_304 : decode cL_law 304 = .ok (.invokevirtual 24, 3) := by decide +kernel
theorem dL_law_307 : decode cL_law 307 = .ok (.if_icmp .eq 356, 3) := by decide +kernel
theorem dL_law_310 : decode cL_law 310 = .ok (.iconst 0, 1) := by decide +kernel
theorem dL_law_311 : decode cL_law 311 = .ok (.ireturn, 1) := by decide +kernel
theorem dL_law_312 : decode cL_law 312 = .ok (.aload_n 1, 1) := by decide +kernel
theorem dL_law_313 : decode cL_law 313 = .ok (.aload_n 0, 1) := by decide +kernel
theorem dL_law_314 : decode cL_law 314 = .ok (.iload_n 3, 1) := by decide +kernel
theorem dL_law_315 : decode cL_law 315 = .ok (.iconst 1, 1) := by decide +kernel
theorem dL_law_316 : decode cL_law 316 = .ok (.iadd, 1) := by decide +kernel
theorem dL_law_317 : decode cL_law 317 = .ok (.iaload, 1) := by decide +kernel
theorem dL_law_318 : decode cL_law 318 = .ok (.aload_n 0, 1) := by decide +kernel
theorem dL_law_319 : decode cL_law 319 = .ok (.iload_n 3, 1) := by decide +kernel
theorem dL_law_320 : decode cL_law 320 = .ok (.iconst 2, 1) := by decide +kernel
theorem dL_law_321 : decode cL_law 321 = .ok (.iadd, 1) := by decide +kernel
theorem dL_law_322 : decode cL_law 322 = .ok (.iaload, 1) := by decide +kernel
theorem dL_law_323 : decode cL_law 323 = .ok (.i2l, 1) := by decide +kernel
theorem dL_law_324 : decode cL_law 324 = .ok (.bipush 32, 2) := by decide +kernel
theorem dL_law_326 : decode cL_law 326 = .ok (.lshl, 1) := by decide +kernel
theorem dL_law_327 : decode cL_law 327 = .ok (.aload_n 0, 1) := by decide +kernel
theorem dL_law_328 : decode cL_law 328 = .ok (.iload_n 3, 1) := by decide +kernel
theorem dL_law_329 : decode cL_law 329 = .ok (.iconst 3, 1) := by decide +kernel
theorem dL_law_330 : decode cL_law 330 = .ok (.iadd, 1) := by decide +kernel
theorem dL_law_331 : decode cL_law 331 = .ok (.iaload, 1) := by decide +kernel
theorem dL_law_332 : decode cL_law 332 = .ok (.i2l, 1) := by decide +kernel
theorem dL_law_333 : decode cL_law 333 = .ok (.ldc2_w 13, 3) := by decide +kernel
theorem dL_law_336 : decode cL_law 336 = .ok (.land, 1) := by decide +kernel
theorem dL_law_337 : decode cL_law 337 = .ok (.lor, 1) := by decide +kernel
theorem dL_law_338 : decode cL_law 338 = .ok (.invokevirtual 25, 3) := by decide +kernel
theorem dL_law_341 : decode cL_law 341 = .ok (.aload_n 2, 1) := by decide +kernel
theorem dL_law_342 : decode cL_law 342 = .ok (.aload_n 0, 1) := by decide +kernel
theorem dL_law_343 : decode cL_law 343 = .ok (.iload_n 3, 1) := by decide +kernel
theorem dL_law_344 : decode cL_law 344 = .ok (.iconst 1, 1) := by decide +kernel
theorem dL_law_345 : decode cL_law 345 = .ok (.iadd, 1) := by decide +kernel
theorem dL_law_346 : decode cL_law 346 = .ok (.iaload, 1) := by decide +kernel
theorem dL_law_347 : decode cL_law 347 = .ok (.aload_n 0, 1) := by decide +kernel
theorem dL_law_348 : decode cL_law 348 = .ok (.iload_n 3, 1) := by decide +kernel
theorem dL_law_349 : decode cL_law 349 = .ok (.iconst 2, 1) := by decide +kernel
theorem dL_law_350 : decode cL_law 350 = .ok (.iadd, 1) := by decide +kernel
theorem dL_law_351 : decode cL_law 351 = .ok (.iaload, 1) := by decide +kernel
theorem dL_law_352 : decode cL_law 352 = .ok (.i2l, 1) := by decide +kernel
theorem dL_law_353 : decode cL_law 353 = .ok (.bipush 32, 2) := by decide +kernel
theorem dL_law_355 : decode cL_law 355 = .ok (.lshl, 1) := by decide +kernel
theorem dL_law_356 : decode cL_law 356 = .ok (.aload_n 0, 1) := by decide +kernel
theorem dL_law_357 : decode cL_law 357 = .ok (.iload_n 3, 1) := by decide +kernel
theorem dL_law_358 : decode cL_law 358 = .ok (.iconst 3, 1) := by decide +kernel
theorem dL_law_359 : decode cL_law 359 = .ok (.iadd, 1) := by decide +kernel
theorem dL_law_360 : decode cL_law 360 = .ok (.iaload, 1) := by decide +kernel
theorem dL_law_361 : decode cL_law 361 = .ok (.i2l, 1) := by decide +kernel
theorem dL_law_362 : decode cL_law 362 = .ok (.ldc2_w 13, 3) := by decide +kernel
theorem dL_law_365 : decode cL_law 365 = .ok (.land, 1) := by decide +kernel
theorem dL_law_366 : decode cL_law 366 = .ok (.lor, 1) := by decide +kernel
theorem dL_law_367 : decode cL_law 367 = .ok (.invokevirtual 29, 3) := by decide +kernel
theorem dL_law_370 : decode cL_law 370 = .ok (.if_icmp .eq 293, 3) := by decide +kernel
theorem dL_law_373 : decode cL_law 373 = .ok (.iconst 0, 1) := by decide +kernel
theorem dL_law_374 : decode cL_law 374 = .ok (.ireturn, 1) := by decide +kernel
theorem dL_law_375 : decode cL_law 375 = .ok (.aload_n 1, 1) := by decide +kernel
theorem dL_law_376 : decode cL_law 376 = .ok (.aload_n 0, 1) := by decide +kernel
theorem dL_law_377 : decode cL_law 377 = .ok (.iload_n 3, 1) := by decide +kernel
theorem dL_law_378 : decode cL_law 378 = .ok (.iconst 1, 1) := by decide +kernel
theorem dL_law_379 : decode cL_law 379 = .ok (.iadd, 1) := by decide +kernel
theorem dL_law_380 : decode cL_law 380 = .ok (.iaload, 1) := by decide +kernel
theorem dL_law_381 : decode cL_law 381 = .ok (.aload_n 0, 1) := by decide +kernel
theorem dL_law_382 : decode cL_law 382 = .ok (.iload_n 3, 1) := by decide +kernel
theorem dL_law_383 : decode cL_law 383 = .ok (.iconst 2, 1) := by decide +kernel
theorem dL_law_384 : decode cL_law 384 = .ok (.iadd, 1) := by decide +kernel
theorem dL_law_385 : decode cL_law 385 = .ok (.iaload, 1) := by decide +kernel
theorem dL_law_386 : decode cL_law 386 = .ok (.aload_n 0, 1) := by decide +kernel
theorem dL_law_387 : decode cL_law 387 = .ok (.iload_n 3, 1) := by decide +kernel
theorem dL_law_388 : decode cL_law 388 = .ok (.iconst 3, 1) := by decide +kernel
theorem dL_law_389 : decode cL_law 389 = .ok (.iadd, 1) := by decide +kernel
theorem dL_law_390 : decode cL_law 390 = .ok (.iaload, 1) := by decide +kernel
theorem dL_law_391 : decode cL_law 391 = .ok (.aload_n 0, 1) := by decide +kernel
theorem dL_law_392 : decode cL_law 392 = .ok (.iload_n 3, 1) := by decide +kernel
theorem dL_law_393 : decode cL_law 393 = .ok (.iconst 4, 1) := by decide +kernel
theorem dL_law_394 : decode cL_law 394 = .ok (.iadd, 1) := by decide +kernel
theorem dL_law_395 : decode cL_law 395 = .ok (.iaload, 1) := by decide +kernel
theorem dL_law_396 : decode cL_law 396 = .ok (.i2l, 1) := by decide +kernel
theorem dL_law_397 : decode cL_law 397 = .ok (.bipush 32, 2) := by decide +kernel
theorem dL_law_399 : decode cL_law 399 = .ok (.lshl, 1) := by decide +kernel
theorem dL_law_400 : decode cL_law 400 = .ok (.aload_n 0, 1) := by decide +kernel
theorem dL_law_401 : decode cL_law 401 = .ok (.iload_n 3, 1) := by decide +kernel
theorem dL_law_402 : decode cL_law 402 = .ok (.iconst 5, 1) := by decide +kernel
theorem dL_law_403 : decode cL_law 403 = .ok (.iadd, 1) := by decide +kernel
theorem dL_law_404 : decode cL_law 404 = .ok (.iaload, 1) := by decide +kernel
theorem dL_law_405 : decode cL_law 405 = .ok (.i2l, 1) := by decide +kernel
theorem dL_law_406 : decode cL_law 406 = .ok (.ldc2_w 13, 3) := by decide +kernel
theorem dL_law_409 : decode cL_law 409 = .ok (.land, 1) := by decide +kernel
theorem dL_law_410 : decode cL_law 410 = .ok (.lor, 1) := by decide +kernel
theorem dL_law_411 : decode cL_law 411 = .ok (.invokevirtual 30, 3) := by decide +kernel
theorem dL_law_414 : decode cL_law 414 = .ok (.aload_n 2, 1) := by decide +kernel
theorem dL_law_415 : decode cL_law 415 = .ok (.aload_n 0, 1) := by decide +kernel
theorem dL_law_416 : decode cL_law 416 = .ok (.iload_n 3, 1) := by decide +kernel
theorem dL_law_417 : decode cL_law 417 = .ok (.iconst 1, 1) := by decide +kernel
theorem dL_law_418 : decode cL_law 418 = .ok (.iadd, 1) := by decide +kernel
theorem dL_law_419 : decode cL_law 419 = .ok (.iaload, 1) := by decide +kernel
theorem dL_law_420 : decode cL_law 420 = .ok (.aload_n 0, 1) := by decide +kernel
theorem dL_law_421 : decode cL_law 421 = .ok (.iload_n 3, 1) := by decide +kernel
theorem dL_law_422 : decode cL_law 422 = .ok (.iconst 2, 1) := by decide +kernel
theorem dL_law_423 : decode cL_law 423 = .ok (.iadd, 1) := by decide +kernel
theorem dL_law_424 : decode cL_law 424 = .ok (.iaload, 1) := by decide +kernel
theorem dL_law_425 : decode cL_law 425 = .ok (.aload_n 0, 1) := by decide +kernel
theorem dL_law_426 : decode cL_law 426 = .ok (.iload_n 3, 1) := by decide +kernel
theorem dL_law_427 : decode cL_law 427 = .ok (.iconst 3, 1) := by decide +kernel
theorem dL_law_428 : decode cL_law 428 = .ok (.iadd, 1) := by decide +kernel
theorem dL_law_429 : decode cL_law 429 = .ok (.iaload, 1) := by decide +kernel
theorem dL_law_430 : decode cL_law 430 = .ok (.aload_n 0, 1) := by decide +kernel
theorem dL_law_431 : decode cL_law 431 = .ok (.iload_n 3, 1) := by decide +kernel
theorem dL_law_432 : decode cL_law 432 = .ok (.iconst 4, 1) := by decide +kernel
theorem dL_law_433 : decode cL_law 433 = .ok (.iadd, 1) := by decide +kernel
theorem dL_law_434 : decode cL_law 434 = .ok (.iaload, 1) := by decide +kernel
theorem dL_law_435 : decode cL_law 435 = .ok (.i2l, 1) := by decide +kernel
theorem dL_law_436 : decode cL_law 436 = .ok (.bipush 32, 2) := by decide +kernel
theorem dL_law_438 : decode cL_law 438 = .ok (.lshl, 1) := by decide +kernel
theorem dL_law_439 : decode cL_law 439 = .ok (.aload_n 0, 1) := by decide +kernel
theorem dL_law_440 : decode cL_law 440 = .ok (.iload_n 3, 1) := by decide +kernel
theorem dL_law_441 : decode cL_law 441 = .ok (.iconst 5, 1) := by decide +kernel
theorem dL_law_442 : decode cL_law 442 = .ok (.iadd, 1) := by decide +kernel
theorem dL_law_443 : decode cL_law 443 = .ok (.iaload, 1) := by decide +kernel
theorem dL_law_444 : decode cL_law 444 = .ok (.i2l, 1) := by decide +kernel
theorem dL_law_445 : decode cL_law 445 = .ok (.ldc2_w 13, 3) := by decide +kernel
theorem dL_law_448 : decode cL_law 448 = .ok (.land, 1) := by decide +kernel
theorem dL_law_449 : decode cL_law 449 = .ok (.lor, 1) := by decide +kernel
theorem dL_law_450 : decode cL_law 450 = .ok (.invokevirtual 34, 3) := by decide +kernel
theorem dL_law_453 : decode cL_law 453 = .ok (.if_icmp .eq 210, 3) := by decide +kernel
theorem dL_law_456 : decode cL_law 456 = .ok (.iconst 0, 1) := by decide +kernel
theorem dL_law_457 : decode cL_law 457 = .ok (.ireturn, 1) := by decide +kernel
theorem dL_law_458 : decode cL_law 458 = .ok (.aload_n 1, 1) := by decide +kernel
theorem dL_law_459 : decode cL_law 459 = .ok (.aload_n 0, 1) := by decide +kernel
theorem dL_law_460 : decode cL_law 460 = .ok (.iload_n 3, 1) := by decide +kernel
theorem dL_law_461 : decode cL_law 461 = .ok (.iconst 1, 1) := by decide +kernel
theorem dL_law_462 : decode cL_law 462 = .ok (.iadd, 1) := by decide +kernel
theorem dL_law_463 : decode cL_law 463 = .ok (.iaload, 1) := by decide +kernel
theorem dL_law_464 : decode cL_law 464 = .ok (.invokevirtual 35, 3) := by decide +kernel
theorem dL_law_467 : decode cL_law 467 = .ok (.aload_n 2, 1) := by decide +kernel
theorem dL_law_468 : decode cL_law 468 = .ok (.aload_n 0, 1) := by decide +kernel
theorem dL_law_469 : decode cL_law 469 = .ok (.iload_n 3, 1) := by decide +kernel
theorem dL_law_470 : decode cL_law 470 = .ok (.iconst 1, 1) := by decide +kernel
theorem dL_law_471 : decode cL_law 471 = .ok (.iadd, 1) := by decide +kernel
theorem dL_law_472 : decode cL_law 472 = .ok (.iaload, 1) := by decide +kernel
theorem dL_law_473 : decode cL_law 473 = .ok (.invokevirtual 39, 3) := by decide +kernel
theorem dL_law_476 : decode cL_law 476 = .ok (.if_icmp .eq 187, 3) := by decide +kernel
theorem dL_law_479 : decode cL_law 479 = .ok (.iconst 0, 1) := by decide +kernel
theorem dL_law_480 : decode cL_law 480 = .ok (.ireturn, 1) := by decide +kernel
theorem dL_law_481 : decode cL_law 481 = .ok (.aload_n 1, 1) := by decide +kernel
theorem dL_law_482 : decode cL_law 482 = .ok (.aload_n 0, 1) := by decide +kernel
theorem dL_law_483 : decode cL_law 483 = .ok (.iload_n 3, 1) := by decide +kernel
theorem dL_law_484 : decode cL_law 484 = .ok (.iconst 1, 1) := by decide +kernel
theorem dL_law_485 : decode cL_law 485 = .ok (.iadd, 1) := by decide +kernel
theorem dL_law_486 : decode cL_law 486 = .ok (.iaload, 1) := by decide +kernel
theorem dL_law_487 : decode cL_law 487 = .ok (.aload_n 0, 1) := by decide +kernel
theorem dL_law_488 : decode cL_law 488 = .ok (.iload_n 3, 1) := by decide +kernel
theorem dL_law_489 : decode cL_law 489 = .ok (.iconst 2, 1) := by decide +kernel
theorem dL_law_490 : decode cL_law 490 = .ok (.iadd, 1) := by decide +kernel
theorem dL_law_491 : decode cL_law 491 = .ok (.iaload, 1) := by decide +kernel
theorem dL_law_492 : decode cL_law 492 = .ok (.invokevirtual 40, 3) := by decide +kernel
theorem dL_law_495 : decode cL_law 495 = .ok (.aload_n 2, 1) := by decide +kernel
theorem dL_law_496 : decode cL_law 496 = .ok (.aload_n 0, 1) := by decide +kernel
theorem dL_law_497 : decode cL_law 497 = .ok (.iload_n 3, 1) := by decide +kernel
theorem dL_law_498 : decode cL_law 498 = .ok (.iconst 1, 1) := by decide +kernel
theorem dL_law_499 : decode cL_law 499 = .ok (.iadd, 1) := by decide +kernel
theorem dL_law_500 : decode cL_law 500 = .ok (.iaload, 1) := by decide +kernel
theorem dL_law_501 : decode cL_law 501 = .ok (.aload_n 0, 1) := by decide +kernel
theorem dL_law_502 : decode cL_law 502 = .ok (.iload_n 3, 1) := by decide +kernel
theorem dL_law_503 : decode cL_law 503 = .ok (.iconst 2, 1) := by decide +kernel
theorem dL_law_504 : decode cL_law 504 = .ok (.iadd, 1) := by decide +kernel
theorem dL_law_505 : decode cL_law 505 = .ok (.iaload, 1) := by decide +kernel
theorem dL_law_506 : decode cL_law 506 = .ok (.invokevirtual 44, 3) := by decide +kernel
theorem dL_law_509 : decode cL_law 509 = .ok (.if_icmp .eq 154, 3) := by decide +kernel
theorem dL_law_512 : decode cL_law 512 = .ok (.iconst 0, 1) := by decide +kernel
theorem dL_law_513 : decode cL_law 513 = .ok (.ireturn, 1) := by decide +kernel
theorem dL_law_514 : decode cL_law 514 = .ok (.aload_n 1, 1) := by decide +kernel
theorem dL_law_515 : decode cL_law 515 = .ok (.aload_n 0, 1) := by decide +kernel
theorem dL_law_516 : decode cL_law 516 = .ok (.iload_n 3, 1) := by decide +kernel
theorem dL_law_517 : decode cL_law 517 = .ok (.iconst 1, 1) := by decide +kernel
theorem dL_law_518 : decode cL_law 518 = .ok (.iadd, 1) := by decide +kernel
theorem dL_law_519 : decode cL_law 519 = .ok (.iaload, 1) := by decide +kernel
theorem dL_law_520 : decode cL_law 520 = .ok (.i2l, 1) := by decide +kernel
theorem dL_law_521 : decode cL_law 521 = .ok (.bipush 32, 2) := by decide +kernel
theorem dL_law_523 : decode cL_law 523 = .ok (.lshl, 1) := by decide +kernel
theorem dL_law_524 : decode cL_law 524 = .ok (.aload_n 0, 1) := by decide +kernel
theorem dL_law_525 : decode cL_law 525 = .ok (.iload_n 3, 1) := by decide +kernel
theorem dL_law_526 : decode cL_law 526 = .ok (.iconst 2, 1) := by decide +kernel
theorem dL_law_527 : decode cL_law 527 = .ok (.iadd, 1) := by decide +kernel
theorem dL_law_528 : decode cL_law 528 = .ok (.iaload, 1) := by decide +kernel
theorem dL_law_529 : decode cL_law 529 = .ok (.i2l, 1) := by decide +kernel
theorem dL_law_530 : decode cL_law 530 = .ok (.ldc2_w 13, 3) := by decide +kernel
theorem dL_law_533 : decode cL_law 533 = .ok (.land, 1) := by decide +kernel
theorem dL_law_534 : decode cL_law 534 = .ok (.lor, 1) := by decide +kernel
theorem dL_law_535 : decode cL_law 535 = .ok (.invokevirtual 45, 3) := by decide +kernel
theorem dL_law_538 : decode cL_law 538 = .ok (.aload_n 2, 1) := by decide +kernel
theorem dL_law_539 : decode cL_law 539 = .ok (.aload_n 0, 1) := by decide +kernel
theorem dL_law_540 : decode cL_law 540 = .ok (.iload_n 3, 1) := by decide +kernel
theorem dL_law_541 : decode cL_law 541 = .ok (.iconst 1, 1) := by decide +kernel
theorem dL_law_542 : decode cL_law 542 = .ok (.iadd, 1) := by decide +kernel
theorem dL_law_543 : decode cL_law 543 = .ok (.iaload, 1) := by decide +kernel
theorem dL_law_544 : decode cL_law 544 = .ok (.i2l, 1) := by decide +kernel
theorem dL_law_545 : decode cL_law 545 = .ok (.bipush 32, 2) := by decide +kernel
theorem dL_law_547 : decode cL_law 547 = .ok (.lshl, 1) := by decide +kernel
theorem dL_law_548 : decode cL_law 548 = .ok (.aload_n 0, 1) := by decide +kernel
theorem dL_law_549 : decode cL_law 549 = .ok (.iload_n 3, 1) := by decide +kernel
theorem dL_law_550 : decode cL_law 550 = .ok (.iconst 2, 1) := by decide +kernel
theorem dL_law_551 : decode cL_law 551 = .ok (.iadd, 1) := by decide +kernel
theorem dL_law_552 : decode cL_law 552 = .ok (.iaload, 1) := by decide +kernel
theorem dL_law_553 : decode cL_law 553 = .ok (.i2l, 1) := by decide +kernel
theorem dL_law_554 : decode cL_law 554 = .ok (.ldc2_w 13, 3) := by decide +kernel
theorem dL_law_557 : decode cL_law 557 = .ok (.land, 1) := by decide +kernel
theorem dL_law_558 : decode cL_law 558 = .ok (.lor, 1) := by decide +kernel
theorem dL_law_559 : decode cL_law 559 = .ok (.invokevirtual 49, 3) := by decide +kernel
theorem dL_law_562 : decode cL_law 562 = .ok (.if_icmp .eq 101, 3) := by decide +kernel
theorem dL_law_565 : decode cL_law 565 = .ok (.iconst 0, 1) := by decide +kernel
theorem dL_law_566 : decode cL_law 566 = .ok (.ireturn, 1) := by decide +kernel
theorem dL_law_567 : decode cL_law 567 = .ok (.aload_n 1, 1) := by decide +kernel
theorem dL_law_568 : decode cL_law 568 = .ok (.aload_n 0, 1) := by decide +kernel
theorem dL_law_569 : decode cL_law 569 = .ok (.iload_n 3, 1) := by decide +kernel
theorem dL_law_570 : decode cL_law 570 = .ok (.iconst 1, 1) := by decide +kernel
theorem dL_law_571 : decode cL_law 571 = .ok (.iadd, 1) := by decide +kernel
theorem dL_law_572 : decode cL_law 572 = .ok (.iaload, 1) := by decide +kernel
theorem dL_law_573 : decode cL_law 573 = .ok (.aload_n 0, 1) := by decide +kernel
theorem dL_law_574 : decode cL_law 574 = .ok (.iload_n 3, 1) := by decide +kernel
theorem dL_law_575 : decode cL_law 575 = .ok (.iconst 2, 1) := by decide +kernel
theorem dL_law_576 : decode cL_law 576 = .ok (.iadd, 1) := by decide +kernel
theorem dL_law_577 : decode cL_law 577 = .ok (.iaload, 1) := by decide +kernel
theorem dL_law_578 : decode cL_law 578 = .ok (.i2l, 1) := by decide +kernel
theorem dL_law_579 : decode cL_law 579 = .ok (.bipush 32, 2) := by decide +kernel
theorem dL_law_581 : decode cL_law 581 = .ok (.lshl, 1) := by decide +kernel
theorem dL_law_582 : decode cL_law 582 = .ok (.aload_n 0, 1) := by decide +kernel
theorem dL_law_583 : decode cL_law 583 = .ok (.iload_n 3, 1) := by decide +kernel
theorem dL_law_584 : decode cL_law 584 = .ok (.iconst 3, 1) := by decide +kernel
theorem dL_law_585 : decode cL_law 585 = .ok (.iadd, 1) := by decide +kernel
theorem dL_law_586 : decode cL_law 586 = .ok (.iaload, 1) := by decide +kernel
theorem dL_law_587 : decode cL_law 587 = .ok (.i2l, 1) := by decide +kernel
theorem dL_law_588 : decode cL_law 588 = .ok (.ldc2_w 13, 3) := by decide +kernel
theorem dL_law_591 : decode cL_law 591 = .ok (.land, 1) := by decide +kernel
theorem dL_law_592 : decode cL_law 592 = .ok (.lor, 1) := by decide +kernel
theorem dL_law_593 : decode cL_law 593 = .ok (.invokevirtual 50, 3) := by decide +kernel
theorem dL_law_596 : decode cL_law 596 = .ok (.aload_n 2, 1) := by decide +kernel
theorem dL_law_597 : decode cL_law 597 = .ok (.aload_n 0, 1) := by decide +kernel
theorem dL_law_598 : decode cL_law 598 = .ok (.iload_n 3, 1) := by decide +kernel
theorem dL_law_599 : decode cL_law 599 = .ok (.iconst 1, 1) := by decide +kernel
theorem dL_law_600 : decode cL_law 600 = .ok (.iadd, 1) := by decide +kernel
theorem dL_law_601 : decode cL_law 601 = .ok (.iaload, 1) := by decide +kernel
theorem dL_law_602 : decode cL_law 602 = .ok (.aload_n 0, 1) := by decide +kernel
theorem dL_law_603 : decode cL_law 603 = .ok (.iload_n 3, 1) := by decide +kernel
theorem dL_law_604 : decode cL_law 604 = .ok (.iconst 2, 1) := by decide +kernel
theorem dL_law_605 : decode cL_law 605 = .ok (.iadd, 1) := by decide +kernel
theorem dL_law_606 : decode cL_law 606 = .ok (.iaload, 1) := by decide +kernel
theorem dL_law_607 : decode cL_law 607 = .ok (.i2l, 1) := by decide +kernel
theorem dL_law_608 : decode cL_law 608 = .ok (.bipush 32, 2) := by decide +kernel
theorem dL_law_610 : decode cL_law 610 = .ok (.lshl, 1) := by decide +kernel
theorem dL_law_611 : decode cL_law 611 = .ok (.aload_n 0, 1) := by decide +kernel
theorem dL_law_612 : decode cL_law 612 = .ok (.iload_n 3, 1) := by decide +kernel
theorem dL_law_613 : decode cL_law 613 = .ok (.iconst 3, 1) := by decide +kernel
theorem dL_law_614 : decode cL_law 614 = .ok (.iadd, 1) := by decide +kernel
theorem dL_law_615 : decode cL_law 615 = .ok (.iaload, 1) := by decide +kernel
theorem dL_law_616 : decode cL_law 616 = .ok (.i2l, 1) := by decide +kernel
theorem dL_law_617 : decode cL_law 617 = .ok (.ldc2_w 13, 3) := by decide +kernel
theorem dL_law_620 : decode cL_law 620 = .ok (.land, 1) := by decide +kernel
theorem dL_law_621 : decode cL_law 621 = .ok (.lor, 1) := by decide +kernel
theorem dL_law_622 : decode cL_law 622 = .ok (.invokevirtual 53, 3) := by decide +kernel
theorem dL_law_625 : decode cL_law 625 = .ok (.if_icmp .eq 38, 3) := by decide +kernel
theorem dL_law_628 : decode cL_law 628 = .ok (.iconst 0, 1) := by decide +kernel
theorem dL_law_629 : decode cL_law 629 = .ok (.ireturn, 1) := by decide +kernel
theorem dL_law_630 : decode cL_law 630 = .ok (.aload_n 1, 1) := by decide +kernel
theorem dL_law_631 : decode cL_law 631 = .ok (.aload_n 0, 1) := by decide +kernel
theorem dL_law_632 : decode cL_law 632 = .ok (.iload_n 3, 1) := by decide +kernel
theorem dL_law_633 : decode cL_law 633 = .ok (.iconst 1, 1) := by decide +kernel
theorem dL_law_634 : decode cL_law 634 = .ok (.iadd, 1) := by decide +kernel
theorem dL_law_635 : decode cL_law 635 = .ok (.iaload, 1) := by decide +kernel
theorem dL_law_636 : decode cL_law 636 = .ok (.aload_n 0, 1) := by decide +kernel
theorem dL_law_637 : decode cL_law 637 = .ok (.iload_n 3, 1) := by decide +kernel
theorem dL_law_638 : decode cL_law 638 = .ok (.iconst 2, 1) := by decide +kernel
theorem dL_law_639 : decode cL_law 639 = .ok (.iadd, 1) := by decide +kernel
theorem dL_law_640 : decode cL_law 640 = .ok (.iaload, 1) := by decide +kernel
theorem dL_law_641 : decode cL_law 641 = .ok (.invokevirtual 54, 3) := by decide +kernel
theorem dL_law_644 : decode cL_law 644 = .ok (.aload_n 2, 1) := by decide +kernel
theorem dL_law_645 : decode cL_law 645 = .ok (.aload_n 0, 1) := by decide +kernel
theorem dL_law_646 : decode cL_law 646 = .ok (.iload_n 3, 1) := by decide +kernel
theorem dL_law_647 : decode cL_law 647 = .ok (.iconst 1, 1) := by decide +kernel
theorem dL_law_648 : decode cL_law 648 = .ok (.iadd, 1) := by decide +kernel
theorem dL_law_649 : decode cL_law 649 = .ok (.iaload, 1) := by decide +kernel
theorem dL_law_650 : decode cL_law 650 = .ok (.aload_n 0, 1) := by decide +kernel
theorem dL_law_651 : decode cL_law 651 = .ok (.iload_n 3, 1) := by decide +kernel
theorem dL_law_652 : decode cL_law 652 = .ok (.iconst 2, 1) := by decide +kernel
theorem dL_law_653 : decode cL_law 653 = .ok (.iadd, 1) := by decide +kernel
theorem dL_law_654 : decode cL_law 654 = .ok (.iaload, 1) := by decide +kernel
theorem dL_law_655 : decode cL_law 655 = .ok (.invokevirtual 57, 3) := by decide +kernel
theorem dL_law_658 : decode cL_law 658 = .ok (.if_icmp .eq 5, 3) := by decide +kernel
theorem dL_law_661 : decode cL_law 661 = .ok (.iconst 0, 1) := by decide +kernel
theorem dL_law_662 : decode cL_law 662 = .ok (.ireturn, 1) := by decide +kernel
theorem dL_law_663 : decode cL_law 663 = .ok (.iinc 3 9, 3) := by decide +kernel
theorem dL_law_666 : decode cL_law 666 = .ok (.goto (-648), 3) := by decide +kernel
theorem dL_law_669 : decode cL_law 669 = .ok (.iconst 1, 1) := by decide +kernel
theorem dL_law_670 : decode cL_law 670 = .ok (.ireturn, 1) := by decide +kernel
abbrev vwCl : List vw_C := [(RJx4a65c, TJx4a65c, 3), (RX0, TX0, 9), (RX1, TX1, 6), (RX2, TX2, 17)]
