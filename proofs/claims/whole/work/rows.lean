section
-- ===== PART A: goes FIRST, ahead of the names: the tables' words, and 'selects' of the private methods out of them =====
/-- a private method of a class that the tables say can be made, by its rows of tables_1 -/
def lw_okq (q : MethodName × Nat) : Prop := (q.1.cls ≠ "java/lang/invoke/MethodHandle" ∧ q.1.cls ≠ "java/lang/invoke/VarHandle") ∧ Cond.instantiable q.1.cls q.2 ∈ tables_1 ∧ Cond.privateMethod q.1 ∈ tables_1 ∧ Cond.instanceMethod q.1 ∈ tables_1
theorem lw_p0 : lw_okq (⟨"java/util/ArrayList", "add", "(Ljava/lang/Object;[Ljava/lang/Object;I)V"⟩, 3) := ⟨⟨by decide +kernel, by decide +kernel⟩, List.mem_of_getElem? (i := 22) (by decide +kernel), List.mem_of_getElem? (i := 137) (by decide +kernel), List.mem_of_getElem? (i := 138) (by decide +kernel)⟩
theorem lw_p1 : lw_okq (⟨"java/util/ArrayList", "grow", "()[Ljava/lang/Object;"⟩, 3) := ⟨⟨by decide +kernel, by decide +kernel⟩, List.mem_of_getElem? (i := 22) (by decide +kernel), List.mem_of_getElem? (i := 141) (by decide +kernel), List.mem_of_getElem? (i := 142) (by decide +kernel)⟩
theorem lw_p2 : lw_okq (⟨"java/util/ArrayList", "grow", "(I)[Ljava/lang/Object;"⟩, 3) := ⟨⟨by decide +kernel, by decide +kernel⟩, List.mem_of_getElem? (i := 22) (by decide +kernel), List.mem_of_getElem? (i := 145) (by decide +kernel), List.mem_of_getElem? (i := 146) (by decide +kernel)⟩
theorem lw_p3 : lw_okq (⟨"OrderRows2", "find", "(I)LOrderRows2$Order;"⟩, 6) := ⟨⟨by decide +kernel, by decide +kernel⟩, List.mem_of_getElem? (i := 14) (by decide +kernel), List.mem_of_getElem? (i := 188) (by decide +kernel), List.mem_of_getElem? (i := 189) (by decide +kernel)⟩
theorem lw_p4 : lw_okq (⟨"OrderRows2", "canBeClock", "(J)Z"⟩, 6) := ⟨⟨by decide +kernel, by decide +kernel⟩, List.mem_of_getElem? (i := 14) (by decide +kernel), List.mem_of_getElem? (i := 206) (by decide +kernel), List.mem_of_getElem? (i := 207) (by decide +kernel)⟩
theorem lw_p5 : lw_okq (⟨"OrderRows2", "moveClock", "(J)I"⟩, 6) := ⟨⟨by decide +kernel, by decide +kernel⟩, List.mem_of_getElem? (i := 14) (by decide +kernel), List.mem_of_getElem? (i := 210) (by decide +kernel), List.mem_of_getElem? (i := 211) (by decide +kernel)⟩
theorem lw_p6 : lw_okq (⟨"OrderRows2", "stepAt", "(II)I"⟩, 6) := ⟨⟨by decide +kernel, by decide +kernel⟩, List.mem_of_getElem? (i := 14) (by decide +kernel), List.mem_of_getElem? (i := 239) (by decide +kernel), List.mem_of_getElem? (i := 240) (by decide +kernel)⟩
theorem lw_p7 : lw_okq (⟨"OrderRows2", "tellRing", "(II)V"⟩, 6) := ⟨⟨by decide +kernel, by decide +kernel⟩, List.mem_of_getElem? (i := 14) (by decide +kernel), List.mem_of_getElem? (i := 243) (by decide +kernel), List.mem_of_getElem? (i := 244) (by decide +kernel)⟩
theorem lw_p8 : lw_okq (⟨"OrderRows2", "strongest", "(IIIJ)LOrderRows2$Order;"⟩, 6) := ⟨⟨by decide +kernel, by decide +kernel⟩, List.mem_of_getElem? (i := 14) (by decide +kernel), List.mem_of_getElem? (i := 247) (by decide +kernel), List.mem_of_getElem? (i := 248) (by decide +kernel)⟩
theorem lw_p9 : lw_okq (⟨"OrderRows2Model", "isOrder", "(I)Z"⟩, 17) := ⟨⟨by decide +kernel, by decide +kernel⟩, List.mem_of_getElem? (i := 284) (by decide +kernel), List.mem_of_getElem? (i := 359) (by decide +kernel), List.mem_of_getElem? (i := 360) (by decide +kernel)⟩
theorem lw_p10 : lw_okq (⟨"OrderRows2Model", "isDay", "(J)Z"⟩, 17) := ⟨⟨by decide +kernel, by decide +kernel⟩, List.mem_of_getElem? (i := 284) (by decide +kernel), List.mem_of_getElem? (i := 363) (by decide +kernel), List.mem_of_getElem? (i := 364) (by decide +kernel)⟩
theorem lw_p11 : lw_okq (⟨"OrderRows2Model", "set", "(J)I"⟩, 17) := ⟨⟨by decide +kernel, by decide +kernel⟩, List.mem_of_getElem? (i := 284) (by decide +kernel), List.mem_of_getElem? (i := 367) (by decide +kernel), List.mem_of_getElem? (i := 368) (by decide +kernel)⟩
theorem lw_p12 : lw_okq (⟨"OrderRows2Model", "find", "(IIIJ)I"⟩, 17) := ⟨⟨by decide +kernel, by decide +kernel⟩, List.mem_of_getElem? (i := 284) (by decide +kernel), List.mem_of_getElem? (i := 382) (by decide +kernel), List.mem_of_getElem? (i := 383) (by decide +kernel)⟩
theorem lw_p13 : lw_okq (⟨"OrderRows2Model", "isForce", "(IJ)Z"⟩, 17) := ⟨⟨by decide +kernel, by decide +kernel⟩, List.mem_of_getElem? (i := 284) (by decide +kernel), List.mem_of_getElem? (i := 386) (by decide +kernel), List.mem_of_getElem? (i := 387) (by decide +kernel)⟩
def lw_privs_1 : List (MethodName × Nat) := [(⟨"java/util/ArrayList", "add", "(Ljava/lang/Object;[Ljava/lang/Object;I)V"⟩, 3), (⟨"java/util/ArrayList", "grow", "()[Ljava/lang/Object;"⟩, 3), (⟨"java/util/ArrayList", "grow", "(I)[Ljava/lang/Object;"⟩, 3), (⟨"OrderRows2", "find", "(I)LOrderRows2$Order;"⟩, 6), (⟨"OrderRows2", "canBeClock", "(J)Z"⟩, 6), (⟨"OrderRows2", "moveClock", "(J)I"⟩, 6), (⟨"OrderRows2", "stepAt", "(II)I"⟩, 6), (⟨"OrderRows2", "tellRing", "(II)V"⟩, 6), (⟨"OrderRows2", "strongest", "(IIIJ)LOrderRows2$Order;"⟩, 6), (⟨"OrderRows2Model", "isOrder", "(I)Z"⟩, 17), (⟨"OrderRows2Model", "isDay", "(J)Z"⟩, 17), (⟨"OrderRows2Model", "set", "(J)I"⟩, 17), (⟨"OrderRows2Model", "find", "(IIIJ)I"⟩, 17), (⟨"OrderRows2Model", "isForce", "(IJ)Z"⟩, 17)]
theorem lw_r1 : ∀ q ∈ lw_privs_1, lw_okq q := List.forall_mem_cons.mpr ⟨lw_p0, List.forall_mem_cons.mpr ⟨lw_p1, List.forall_mem_cons.mpr ⟨lw_p2, List.forall_mem_cons.mpr ⟨lw_p3, List.forall_mem_cons.mpr ⟨lw_p4, List.forall_mem_cons.mpr ⟨lw_p5, List.forall_mem_cons.mpr ⟨lw_p6, List.forall_mem_cons.mpr ⟨lw_p7, List.forall_mem_cons.mpr ⟨lw_p8, List.forall_mem_cons.mpr ⟨lw_p9, List.forall_mem_cons.mpr ⟨lw_p10, List.forall_mem_cons.mpr ⟨lw_p11, List.forall_mem_cons.mpr ⟨lw_p12, List.forall_mem_cons.mpr ⟨lw_p13, fun _ h => absurd h List.not_mem_nil⟩⟩⟩⟩⟩⟩⟩⟩⟩⟩⟩⟩⟩⟩
def lw_privs : List (MethodName × Nat) := lw_privs_1
def lw_tbl : List Cond := k2_sels lw_privs ++ tables_1
theorem lw_privs_ok : ∀ q ∈ lw_privs, lw_okq q := lw_r1
-- ===== end of PART A; then your names; then what follows =====
/-! ===== BEGIN words of one list among another's, by their places ===== -/
theorem goodIn_r {big : List Cond} (ws : List Cond) (ps : List Nat) (hp : ws = ps.filterMap (fun i => big[i]?)) (h : ws.all goodWord = true) : GoodIn big ws := by
  intro w hw
  have h1 := List.all_eq_true.mp h w hw
  rw [hp] at hw
  obtain ⟨i, -, hi⟩ := List.mem_filterMap.mp hw
  have hm : w ∈ big := by first | exact List.mem_of_getElem? hi | exact List.getElem?_mem hi
  exact ⟨hm, good_of_word h1⟩
theorem goodIn_app {big a b : List Cond} (ha : GoodIn big a) (hb : GoodIn big b) : GoodIn big (a ++ b) := fun w h => (List.mem_append.mp h).elim (ha w) (hb w)
theorem goodIn_ca {big a b : List Cond} {c : Cond} (ha : GoodIn big (c :: a)) (hb : GoodIn big b) : GoodIn big (c :: (a ++ b)) := fun w h => (List.mem_cons.mp h).elim (fun e => ha w (List.mem_cons.mpr (Or.inl e))) (fun h => (List.mem_append.mp h).elim (fun h => ha w (List.mem_cons.mpr (Or.inr h))) (hb w))
theorem goodIn_sub {big ws : List Cond} (hm : ∀ w ∈ ws, w ∈ big) (h : ws.all goodWord = true) : GoodIn big ws := fun w hw => ⟨hm w hw, good_of_word (List.all_eq_true.mp h w hw)⟩
/-! ===== END ===== -/

/-! ===== BEGIN printed: names, fields, word lists, decode rows ===== -/
def RX0 : String := "OrderRows2$Order"
def TX0 : u_T := fun k => match k with
  | 0 => ("OrderRows2$Order", "kind", "I", true)
  | 1 => ("OrderRows2$Order", "entry", "I", true)
  | 2 => ("OrderRows2$Order", "who", "I", true)
  | 3 => ("OrderRows2$Order", "to", "I", true)
  | 4 => ("OrderRows2$Order", "from", "J", true)
  | 5 => ("OrderRows2$Order", "made", "J", true)
  | 6 => ("OrderRows2$Order", "until", "J", false)
  | 7 => ("OrderRows2$Order", "overFrom", "J", false)
  | _ => ("OrderRows2$Order", "isProved", "Z", false)
def tyX0 : Nat → FieldType := fun k => match k with
  | 0 => .int
  | 1 => .int
  | 2 => .int
  | 3 => .int
  | 4 => .long
  | 5 => .long
  | 6 => .long
  | 7 => .long
  | _ => .boolean
abbrev wsX00 : List Cond := u_ws RX0 TX0 9
theorem nmX0 : ∀ a, a < 9 → ∀ b, b < 9 → a ≠ b → (TX0 a).2.1 ≠ (TX0 b).2.1 := by decide +kernel
theorem tyX0_ok : ∀ k, k < 9 → parseFieldDescriptor (TX0 k).2.2.1 = some (tyX0 k) := by decide +kernel
abbrev cX0_init : ByteArray := prog_2_method_1_code
def yX0_init : MethodName := ⟨RX0, "<init>", "(IIIIJJJ)V"⟩
abbrev cX0_isOver : ByteArray := prog_2_method_2_code
def yX0_isOver : MethodName := ⟨RX0, "isOver", "()Z"⟩
abbrev cX0_sendsOn : ByteArray := prog_2_method_3_code
def yX0_sendsOn : MethodName := ⟨RX0, "sendsOn", "()Z"⟩
abbrev cX0_concerns : ByteArray := prog_2_method_4_code
def yX0_concerns : MethodName := ⟨RX0, "concerns", "(III)Z"⟩
abbrev cX0_isInForce : ByteArray := prog_2_method_5_code
def yX0_isInForce : MethodName := ⟨RX0, "isInForce", "(J)Z"⟩
abbrev cX0_daysOfSpanFrom : ByteArray := prog_2_method_6_code
def yX0_daysOfSpanFrom : MethodName := ⟨RX0, "daysOfSpanFrom", "(J)I"⟩
abbrev cX0_lapseIfDue : ByteArray := prog_2_method_7_code
def yX0_lapseIfDue : MethodName := ⟨RX0, "lapseIfDue", "(J)Z"⟩
def RX1 : String := "OrderRows2"
def TX1 : u_T := fun k => match k with
  | 0 => ("OrderRows2", "orders", "Ljava/util/ArrayList;", true)
  | 1 => ("OrderRows2", "rankOfKind", "[I", true)
  | 2 => ("OrderRows2", "path", "[I", true)
  | 3 => ("OrderRows2", "ringTold", "[I", true)
  | 4 => ("OrderRows2", "ringLength", "I", false)
  | _ => ("OrderRows2", "clock", "J", false)
def tyX1 : Nat → FieldType := fun k => match k with
  | 0 => .object "java/util/ArrayList"
  | 1 => .array .int
  | 2 => .array .int
  | 3 => .array .int
  | 4 => .int
  | _ => .long
abbrev wsX10 : List Cond := u_ws RX1 TX1 6
theorem nmX1 : ∀ a, a < 6 → ∀ b, b < 6 → a ≠ b → (TX1 a).2.1 ≠ (TX1 b).2.1 := by decide +kernel
theorem tyX1_ok : ∀ k, k < 6 → parseFieldDescriptor (TX1 k).2.2.1 = some (tyX1 k) := by decide +kernel
abbrev cX1_init : ByteArray := prog_1_method_1_code
def yX1_init : MethodName := ⟨RX1, "<init>", "()V"⟩
abbrev cX1_order : ByteArray := prog_1_method_2_code
def yX1_order : MethodName := ⟨RX1, "order", "(IIIIJJ)I"⟩
abbrev cX1_proof : ByteArray := prog_1_method_3_code
def yX1_proof : MethodName := ⟨RX1, "proof", "(IZJ)I"⟩
abbrev cX1_withdraw : ByteArray := prog_1_method_4_code
def yX1_withdraw : MethodName := ⟨RX1, "withdraw", "(IJ)I"⟩
abbrev cX1_effective : ByteArray := prog_1_method_5_code
def yX1_effective : MethodName := ⟨RX1, "effective", "(IIIJ)I"⟩
abbrev cX1_ring : ByteArray := prog_1_method_6_code
def yX1_ring : MethodName := ⟨RX1, "ring", "(I)I"⟩
abbrev cX1_rank : ByteArray := prog_1_method_7_code
def yX1_rank : MethodName := ⟨RX1, "rank", "(II)I"⟩
abbrev cX1_tick : ByteArray := prog_1_method_8_code
def yX1_tick : MethodName := ⟨RX1, "tick", "(J)I"⟩
abbrev cX1_extend : ByteArray := prog_1_method_9_code
def yX1_extend : MethodName := ⟨RX1, "extend", "(IJ)I"⟩
abbrev cX1_told : ByteArray := prog_1_method_10_code
def yX1_told : MethodName := ⟨RX1, "told", "(II)I"⟩
abbrev cX1_isAddress : ByteArray := prog_1_method_11_code
def yX1_isAddress : MethodName := ⟨RX1, "isAddress", "(I)Z"⟩
abbrev cX1_isPerson : ByteArray := prog_1_method_12_code
def yX1_isPerson : MethodName := ⟨RX1, "isPerson", "(I)Z"⟩
abbrev cX1_isKind : ByteArray := prog_1_method_13_code
def yX1_isKind : MethodName := ⟨RX1, "isKind", "(I)Z"⟩
abbrev cX1_isDay : ByteArray := prog_1_method_14_code
def yX1_isDay : MethodName := ⟨RX1, "isDay", "(J)Z"⟩
abbrev cX1_doneBy : ByteArray := prog_1_method_15_code
def yX1_doneBy : MethodName := ⟨RX1, "doneBy", "(I)I"⟩
abbrev cX1_canBeClock : ByteArray := prog_1_method_16_code
def yX1_canBeClock : MethodName := ⟨RX1, "canBeClock", "(J)Z"⟩
abbrev cX1_find : ByteArray := prog_1_method_17_code
def yX1_find : MethodName := ⟨RX1, "find", "(I)LOrderRows2$Order;"⟩
abbrev cX1_moveClock : ByteArray := prog_1_method_18_code
def yX1_moveClock : MethodName := ⟨RX1, "moveClock", "(J)I"⟩
abbrev cX1_strongest : ByteArray := prog_1_method_19_code
def yX1_strongest : MethodName := ⟨RX1, "strongest", "(IIIJ)LOrderRows2$Order;"⟩
abbrev cX1_stepAt : ByteArray := prog_1_method_20_code
def yX1_stepAt : MethodName := ⟨RX1, "stepAt", "(II)I"⟩
abbrev cX1_tellRing : ByteArray := prog_1_method_21_code
def yX1_tellRing : MethodName := ⟨RX1, "tellRing", "(II)V"⟩
def RX2 : String := "OrderRows2Model"
def TX2 : u_T := fun k => match k with
  | 0 => ("OrderRows2Model", "thrown", "I", false)
  | 1 => ("OrderRows2Model", "orders", "I", false)
  | 2 => ("OrderRows2Model", "kinds", "[I", true)
  | 3 => ("OrderRows2Model", "entries", "[I", true)
  | 4 => ("OrderRows2Model", "persons", "[I", true)
  | 5 => ("OrderRows2Model", "tos", "[I", true)
  | 6 => ("OrderRows2Model", "froms", "[J", true)
  | 7 => ("OrderRows2Model", "untils", "[J", true)
  | 8 => ("OrderRows2Model", "made", "[J", true)
  | 9 => ("OrderRows2Model", "proved", "[Z", true)
  | 10 => ("OrderRows2Model", "overs", "[J", true)
  | 11 => ("OrderRows2Model", "ranks", "[I", true)
  | 12 => ("OrderRows2Model", "now", "J", false)
  | 13 => ("OrderRows2Model", "way", "[I", true)
  | 14 => ("OrderRows2Model", "ringFrom", "I", false)
  | 15 => ("OrderRows2Model", "ringSize", "I", false)
  | _ => ("OrderRows2Model", "ring", "[I", true)
def tyX2 : Nat → FieldType := fun k => match k with
  | 0 => .int
  | 1 => .int
  | 2 => .array .int
  | 3 => .array .int
  | 4 => .array .int
  | 5 => .array .int
  | 6 => .array .long
  | 7 => .array .long
  | 8 => .array .long
  | 9 => .array .boolean
  | 10 => .array .long
  | 11 => .array .int
  | 12 => .long
  | 13 => .array .int
  | 14 => .int
  | 15 => .int
  | _ => .array .int
abbrev wsX20 : List Cond := u_ws RX2 TX2 17
theorem nmX2 : ∀ a, a < 17 → ∀ b, b < 17 → a ≠ b → (TX2 a).2.1 ≠ (TX2 b).2.1 := by decide +kernel
theorem tyX2_ok : ∀ k, k < 17 → parseFieldDescriptor (TX2 k).2.2.1 = some (tyX2 k) := by decide +kernel
abbrev cX2_init : ByteArray := prog_4_method_1_code
def yX2_init : MethodName := ⟨RX2, "<init>", "()V"⟩
abbrev cX2_isIn : ByteArray := prog_4_method_3_code
def yX2_isIn : MethodName := ⟨RX2, "isIn", "(JJJ)Z"⟩
abbrev cX2_isOrder : ByteArray := prog_4_method_4_code
def yX2_isOrder : MethodName := ⟨RX2, "isOrder", "(I)Z"⟩
abbrev cX2_isDay : ByteArray := prog_4_method_5_code
def yX2_isDay : MethodName := ⟨RX2, "isDay", "(J)Z"⟩
abbrev cX2_order : ByteArray := prog_4_method_6_code
def yX2_order : MethodName := ⟨RX2, "order", "(IIIIJJ)I"⟩
abbrev cX2_set : ByteArray := prog_4_method_7_code
def yX2_set : MethodName := ⟨RX2, "set", "(J)I"⟩
abbrev cX2_proof : ByteArray := prog_4_method_8_code
def yX2_proof : MethodName := ⟨RX2, "proof", "(IZJ)I"⟩
abbrev cX2_withdraw : ByteArray := prog_4_method_9_code
def yX2_withdraw : MethodName := ⟨RX2, "withdraw", "(IJ)I"⟩
abbrev cX2_isForce : ByteArray := prog_4_method_10_code
def yX2_isForce : MethodName := ⟨RX2, "isForce", "(IJ)Z"⟩
abbrev cX2_find : ByteArray := prog_4_method_11_code
def yX2_find : MethodName := ⟨RX2, "find", "(IIIJ)I"⟩
abbrev cX2_effective : ByteArray := prog_4_method_12_code
def yX2_effective : MethodName := ⟨RX2, "effective", "(IIIJ)I"⟩
abbrev cX2_ring : ByteArray := prog_4_method_13_code
def yX2_ring : MethodName := ⟨RX2, "ring", "(I)I"⟩
abbrev cX2_rank : ByteArray := prog_4_method_14_code
def yX2_rank : MethodName := ⟨RX2, "rank", "(II)I"⟩
abbrev cX2_tick : ByteArray := prog_4_method_15_code
def yX2_tick : MethodName := ⟨RX2, "tick", "(J)I"⟩
abbrev cX2_extend : ByteArray := prog_4_method_16_code
def yX2_extend : MethodName := ⟨RX2, "extend", "(IJ)I"⟩
abbrev cX2_told : ByteArray := prog_4_method_17_code
def yX2_told : MethodName := ⟨RX2, "told", "(II)I"⟩
def RJx145de : String := "java/io/Serializable"
def TJx145de : u_T := fun k => match k with
  | _ => ("", "", "", false)
def tyJx145de : Nat → FieldType := fun k => match k with
  | _ => .int
abbrev wsJx145de0 : List Cond := u_ws RJx145de TJx145de 0
theorem nmJx145de : ∀ a, a < 0 → ∀ b, b < 0 → a ≠ b → (TJx145de a).2.1 ≠ (TJx145de b).2.1 := by decide +kernel
theorem tyJx145de_ok : ∀ k, k < 0 → parseFieldDescriptor (TJx145de k).2.2.1 = some (tyJx145de k) := by decide +kernel
def RJx8e188 : String := "java/lang/Cloneable"
def TJx8e188 : u_T := fun k => match k with
  | _ => ("", "", "", false)
def tyJx8e188 : Nat → FieldType := fun k => match k with
  | _ => .int
abbrev wsJx8e1880 : List Cond := u_ws RJx8e188 TJx8e188 0
theorem nmJx8e188 : ∀ a, a < 0 → ∀ b, b < 0 → a ≠ b → (TJx8e188 a).2.1 ≠ (TJx8e188 b).2.1 := by decide +kernel
theorem tyJx8e188_ok : ∀ k, k < 0 → parseFieldDescriptor (TJx8e188 k).2.2.1 = some (tyJx8e188 k) := by decide +kernel
def RJxab1ab : String := "java/lang/Iterable"
def TJxab1ab : u_T := fun k => match k with
  | _ => ("", "", "", false)
def tyJxab1ab : Nat → FieldType := fun k => match k with
  | _ => .int
abbrev wsJxab1ab0 : List Cond := u_ws RJxab1ab TJxab1ab 0
theorem nmJxab1ab : ∀ a, a < 0 → ∀ b, b < 0 → a ≠ b → (TJxab1ab a).2.1 ≠ (TJxab1ab b).2.1 := by decide +kernel
theorem tyJxab1ab_ok : ∀ k, k < 0 → parseFieldDescriptor (TJxab1ab k).2.2.1 = some (tyJxab1ab k) := by decide +kernel
def RJ9 : String := "java/lang/Math"
def TJ9 : u_T := fun k => match k with
  | _ => ("", "", "", false)
def tyJ9 : Nat → FieldType := fun k => match k with
  | _ => .int
abbrev wsJ90 : List Cond := u_ws RJ9 TJ9 0
theorem nmJ9 : ∀ a, a < 0 → ∀ b, b < 0 → a ≠ b → (TJ9 a).2.1 ≠ (TJ9 b).2.1 := by decide +kernel
theorem tyJ9_ok : ∀ k, k < 0 → parseFieldDescriptor (TJ9 k).2.2.1 = some (tyJ9 k) := by decide +kernel
abbrev cJ9_max_7cf53 : ByteArray := prog_8_method_65_code
def yJ9_max_7cf53 : MethodName := ⟨RJ9, "max", "(II)I"⟩
abbrev cJ9_max_f86c9 : ByteArray := prog_8_method_66_code
def yJ9_max_f86c9 : MethodName := ⟨RJ9, "max", "(JJ)J"⟩
abbrev cJ9_min_7cf53 : ByteArray := prog_8_method_69_code
def yJ9_min_7cf53 : MethodName := ⟨RJ9, "min", "(II)I"⟩
def RJ10 : String := "java/lang/System"
def TJ10 : u_T := fun k => match k with
  | _ => ("", "", "", false)
def tyJ10 : Nat → FieldType := fun k => match k with
  | _ => .int
abbrev wsJ100 : List Cond := u_ws RJ10 TJ10 0
theorem nmJ10 : ∀ a, a < 0 → ∀ b, b < 0 → a ≠ b → (TJ10 a).2.1 ≠ (TJ10 b).2.1 := by decide +kernel
theorem tyJ10_ok : ∀ k, k < 0 → parseFieldDescriptor (TJ10 k).2.2.1 = some (tyJ10 k) := by decide +kernel
def RJxa1e45 : String := "java/util/AbstractCollection"
def TJxa1e45 : u_T := fun k => match k with
  | _ => ("", "", "", false)
def tyJxa1e45 : Nat → FieldType := fun k => match k with
  | _ => .int
abbrev wsJxa1e450 : List Cond := u_ws RJxa1e45 TJxa1e45 0
theorem nmJxa1e45 : ∀ a, a < 0 → ∀ b, b < 0 → a ≠ b → (TJxa1e45 a).2.1 ≠ (TJxa1e45 b).2.1 := by decide +kernel
theorem tyJxa1e45_ok : ∀ k, k < 0 → parseFieldDescriptor (TJxa1e45 k).2.2.1 = some (tyJxa1e45 k) := by decide +kernel
abbrev cJxa1e45_init_da8c8 : ByteArray := prog_10_method_1_code
def yJxa1e45_init_da8c8 : MethodName := ⟨RJxa1e45, "<init>", "()V"⟩
def RJxc12de : String := "java/util/AbstractList"
def TJxc12de : u_T := fun k => match k with
  | _ => ("", "", "", false)
def tyJxc12de : Nat → FieldType := fun k => match k with
  | _ => .int
abbrev wsJxc12de0 : List Cond := u_ws RJxc12de TJxc12de 0
theorem nmJxc12de : ∀ a, a < 0 → ∀ b, b < 0 → a ≠ b → (TJxc12de a).2.1 ≠ (TJxc12de b).2.1 := by decide +kernel
theorem tyJxc12de_ok : ∀ k, k < 0 → parseFieldDescriptor (TJxc12de k).2.2.1 = some (tyJxc12de k) := by decide +kernel
abbrev cJxc12de_init_da8c8 : ByteArray := prog_11_method_1_code
def yJxc12de_init_da8c8 : MethodName := ⟨RJxc12de, "<init>", "()V"⟩
def RJx4a65c : String := "java/util/ArrayList"
def TJx4a65c : u_T := fun k => match k with
  | 0 => ("java/util/AbstractList", "modCount", "I", false)
  | 1 => ("java/util/ArrayList", "elementData", "[Ljava/lang/Object;", false)
  | _ => ("java/util/ArrayList", "size", "I", false)
def tyJx4a65c : Nat → FieldType := fun k => match k with
  | 0 => .int
  | 1 => .array (.object "java/lang/Object")
  | _ => .int
abbrev wsJx4a65c0 : List Cond := u_ws RJx4a65c TJx4a65c 3
theorem nmJx4a65c : ∀ a, a < 3 → ∀ b, b < 3 → a ≠ b → (TJx4a65c a).2.1 ≠ (TJx4a65c b).2.1 := by decide +kernel
theorem tyJx4a65c_ok : ∀ k, k < 3 → parseFieldDescriptor (TJx4a65c k).2.2.1 = some (tyJx4a65c k) := by decide +kernel
abbrev cJx4a65c_init_da8c8 : ByteArray := prog_12_method_2_code
def yJx4a65c_init_da8c8 : MethodName := ⟨RJx4a65c, "<init>", "()V"⟩
abbrev cJx4a65c_grow_92f84 : ByteArray := prog_12_method_6_code
def yJx4a65c_grow_92f84 : MethodName := ⟨RJx4a65c, "grow", "(I)[Ljava/lang/Object;"⟩
abbrev cJx4a65c_grow_d5877 : ByteArray := prog_12_method_7_code
def yJx4a65c_grow_d5877 : MethodName := ⟨RJx4a65c, "grow", "()[Ljava/lang/Object;"⟩
abbrev cJx4a65c_size_8abf5 : ByteArray := prog_12_method_8_code
def yJx4a65c_size_8abf5 : MethodName := ⟨RJx4a65c, "size", "()I"⟩
abbrev cJx4a65c_elementData_915e3 : ByteArray := prog_12_method_18_code
def yJx4a65c_elementData_915e3 : MethodName := ⟨RJx4a65c, "elementData", "(I)Ljava/lang/Object;"⟩
abbrev cJx4a65c_get_915e3 : ByteArray := prog_12_method_20_code
def yJx4a65c_get_915e3 : MethodName := ⟨RJx4a65c, "get", "(I)Ljava/lang/Object;"⟩
abbrev cJx4a65c_add_72be8 : ByteArray := prog_12_method_24_code
def yJx4a65c_add_72be8 : MethodName := ⟨RJx4a65c, "add", "(Ljava/lang/Object;[Ljava/lang/Object;I)V"⟩
abbrev cJx4a65c_add_9ea2d : ByteArray := prog_12_method_25_code
def yJx4a65c_add_9ea2d : MethodName := ⟨RJx4a65c, "add", "(Ljava/lang/Object;)Z"⟩
def RJ7 : String := "java/util/Arrays"
def TJ7 : u_T := fun k => match k with
  | _ => ("", "", "", false)
def tyJ7 : Nat → FieldType := fun k => match k with
  | _ => .int
abbrev wsJ70 : List Cond := u_ws RJ7 TJ7 0
theorem nmJ7 : ∀ a, a < 0 → ∀ b, b < 0 → a ≠ b → (TJ7 a).2.1 ≠ (TJ7 b).2.1 := by decide +kernel
theorem tyJ7_ok : ∀ k, k < 0 → parseFieldDescriptor (TJ7 k).2.2.1 = some (tyJ7 k) := by decide +kernel
abbrev cJ7_copyOf_1904c : ByteArray := prog_13_method_119_code
def yJ7_copyOf_1904c : MethodName := ⟨RJ7, "copyOf", "([Ljava/lang/Object;I)[Ljava/lang/Object;"⟩
abbrev cJ7_copyOf_6403c : ByteArray := prog_13_method_120_code
def yJ7_copyOf_6403c : MethodName := ⟨RJ7, "copyOf", "([Ljava/lang/Object;ILjava/lang/Class;)[Ljava/lang/Object;"⟩
def RJx5ef63 : String := "java/util/Collection"
def TJx5ef63 : u_T := fun k => match k with
  | _ => ("", "", "", false)
def tyJx5ef63 : Nat → FieldType := fun k => match k with
  | _ => .int
abbrev wsJx5ef630 : List Cond := u_ws RJx5ef63 TJx5ef63 0
theorem nmJx5ef63 : ∀ a, a < 0 → ∀ b, b < 0 → a ≠ b → (TJx5ef63 a).2.1 ≠ (TJx5ef63 b).2.1 := by decide +kernel
theorem tyJx5ef63_ok : ∀ k, k < 0 → parseFieldDescriptor (TJx5ef63 k).2.2.1 = some (tyJx5ef63 k) := by decide +kernel
def RJxbd725 : String := "java/util/List"
def TJxbd725 : u_T := fun k => match k with
  | _ => ("", "", "", false)
def tyJxbd725 : Nat → FieldType := fun k => match k with
  | _ => .int
abbrev wsJxbd7250 : List Cond := u_ws RJxbd725 TJxbd725 0
theorem nmJxbd725 : ∀ a, a < 0 → ∀ b, b < 0 → a ≠ b → (TJxbd725 a).2.1 ≠ (TJxbd725 b).2.1 := by decide +kernel
theorem tyJxbd725_ok : ∀ k, k < 0 → parseFieldDescriptor (TJxbd725 k).2.2.1 = some (tyJxbd725 k) := by decide +kernel
def RJ15 : String := "java/util/Objects"
def TJ15 : u_T := fun k => match k with
  | _ => ("", "", "", false)
def tyJ15 : Nat → FieldType := fun k => match k with
  | _ => .int
abbrev wsJ150 : List Cond := u_ws RJ15 TJ15 0
theorem nmJ15 : ∀ a, a < 0 → ∀ b, b < 0 → a ≠ b → (TJ15 a).2.1 ≠ (TJ15 b).2.1 := by decide +kernel
theorem tyJ15_ok : ∀ k, k < 0 → parseFieldDescriptor (TJ15 k).2.2.1 = some (tyJ15 k) := by decide +kernel
abbrev cJ15_checkIndex_7cf53 : ByteArray := prog_16_method_17_code
def yJ15_checkIndex_7cf53 : MethodName := ⟨RJ15, "checkIndex", "(II)I"⟩
def RJxf0a74 : String := "java/util/RandomAccess"
def TJxf0a74 : u_T := fun k => match k with
  | _ => ("", "", "", false)
def tyJxf0a74 : Nat → FieldType := fun k => match k with
  | _ => .int
abbrev wsJxf0a740 : List Cond := u_ws RJxf0a74 TJxf0a74 0
theorem nmJxf0a74 : ∀ a, a < 0 → ∀ b, b < 0 → a ≠ b → (TJxf0a74 a).2.1 ≠ (TJxf0a74 b).2.1 := by decide +kernel
theorem tyJxf0a74_ok : ∀ k, k < 0 → parseFieldDescriptor (TJxf0a74 k).2.2.1 = some (tyJxf0a74 k) := by decide +kernel
def RJxa66e6 : String := "java/util/SequencedCollection"
def TJxa66e6 : u_T := fun k => match k with
  | _ => ("", "", "", false)
def tyJxa66e6 : Nat → FieldType := fun k => match k with
  | _ => .int
abbrev wsJxa66e60 : List Cond := u_ws RJxa66e6 TJxa66e6 0
theorem nmJxa66e6 : ∀ a, a < 0 → ∀ b, b < 0 → a ≠ b → (TJxa66e6 a).2.1 ≠ (TJxa66e6 b).2.1 := by decide +kernel
theorem tyJxa66e6_ok : ∀ k, k < 0 → parseFieldDescriptor (TJxa66e6 k).2.2.1 = some (tyJxa66e6 k) := by decide +kernel
def RJ8 : String := "jdk/internal/util/ArraysSupport"
def TJ8 : u_T := fun k => match k with
  | _ => ("", "", "", false)
def tyJ8 : Nat → FieldType := fun k => match k with
  | _ => .int
abbrev wsJ80 : List Cond := u_ws RJ8 TJ8 0
theorem nmJ8 : ∀ a, a < 0 → ∀ b, b < 0 → a ≠ b → (TJ8 a).2.1 ≠ (TJ8 b).2.1 := by decide +kernel
theorem tyJ8_ok : ∀ k, k < 0 → parseFieldDescriptor (TJ8 k).2.2.1 = some (tyJ8 k) := by decide +kernel
abbrev cJ8_newLength_cabcc : ByteArray := prog_19_method_27_code
def yJ8_newLength_cabcc : MethodName := ⟨RJ8, "newLength", "(III)I"⟩
abbrev cJ8_hugeLength_7cf53 : ByteArray := prog_19_method_28_code
def yJ8_hugeLength_7cf53 : MethodName := ⟨RJ8, "hugeLength", "(II)I"⟩
def RJ3 : String := "jdk/internal/util/Preconditions"
def TJ3 : u_T := fun k => match k with
  | _ => ("", "", "", false)
def tyJ3 : Nat → FieldType := fun k => match k with
  | _ => .int
abbrev wsJ30 : List Cond := u_ws RJ3 TJ3 0
theorem nmJ3 : ∀ a, a < 0 → ∀ b, b < 0 → a ≠ b → (TJ3 a).2.1 ≠ (TJ3 b).2.1 := by decide +kernel
theorem tyJ3_ok : ∀ k, k < 0 → parseFieldDescriptor (TJ3 k).2.2.1 = some (tyJ3 k) := by decide +kernel
abbrev cJ3_checkIndex_8e157 : ByteArray := prog_20_method_11_code
def yJ3_checkIndex_8e157 : MethodName := ⟨RJ3, "checkIndex", "(IILjava/util/function/BiFunction;)I"⟩
def RL : String := "OrderRows2Law"
abbrev cL_law : ByteArray := code
def yL_law : MethodName := ⟨RL, "law", "([I)Z"⟩
def wsX0_init : List Cond := .code yX0_init cX0_init 11 none :: ([.methodLink RX0 3 objectInit, .instanceMethod objectInit, .code objectInit ⟨#[0xb1]⟩ 1 none, .fieldLink RX0 9 "OrderRows2$Order" "kind" "I", .fieldLink RX0 15 "OrderRows2$Order" "entry" "I", .fieldLink RX0 18 "OrderRows2$Order" "who" "I", .fieldLink RX0 21 "OrderRows2$Order" "to" "I", .fieldLink RX0 24 "OrderRows2$Order" "from" "J", .fieldLink RX0 28 "OrderRows2$Order" "until" "J", .fieldLink RX0 31 "OrderRows2$Order" "made" "J", .constantLong RX0 34 (20001), .fieldLink RX0 36 "OrderRows2$Order" "overFrom" "J", .fieldLink RX0 39 "OrderRows2$Order" "isProved" "Z"] ++ wsX00)
def wsX0_isOver : List Cond := .code yX0_isOver cX0_isOver 1 (some .boolean) :: ([.fieldLink RX0 36 "OrderRows2$Order" "overFrom" "J", .constantLong RX0 34 (20001)] ++ wsX00)
def wsX1_doneBy : List Cond := .code yX1_doneBy cX1_doneBy 1 (some .int) :: ([])
def wsX0_sendsOn : List Cond := .code yX0_sendsOn cX0_sendsOn 1 (some .boolean) :: ([.fieldLink RX0 9 "OrderRows2$Order" "kind" "I", .static yX1_doneBy, .initialized RX1, .code yX1_doneBy cX1_doneBy 1 (some .int)] ++ wsX00)
def wsX0_concerns : List Cond := .code yX0_concerns cX0_concerns 4 (some .boolean) :: ([.fieldLink RX0 15 "OrderRows2$Order" "entry" "I", .fieldLink RX0 18 "OrderRows2$Order" "who" "I", .fieldLink RX0 9 "OrderRows2$Order" "kind" "I"] ++ wsX00)
def wsX0_isInForce : List Cond := .code yX0_isInForce cX0_isInForce 3 (some .boolean) :: ([.fieldLink RX0 24 "OrderRows2$Order" "from" "J", .fieldLink RX0 28 "OrderRows2$Order" "until" "J", .fieldLink RX0 36 "OrderRows2$Order" "overFrom" "J"] ++ wsX00)
def wsX0_daysOfSpanFrom : List Cond := .code yX0_daysOfSpanFrom cX0_daysOfSpanFrom 5 (some .int) :: ([.fieldLink RX0 24 "OrderRows2$Order" "from" "J", .methodLink RX0 47 Lib.MathLoose.max_long.x, .static Lib.MathLoose.max_long.x, .initialized "java/lang/Math", .code Lib.MathLoose.max_long.x Lib.MathLoose.max_long.code 4 (some .long), .fieldLink RX0 28 "OrderRows2$Order" "until" "J"] ++ wsX00)
def wsX0_lapseIfDue : List Cond := .code yX0_lapseIfDue cX0_lapseIfDue 3 (some .boolean) :: ([.fieldLink RX0 39 "OrderRows2$Order" "isProved" "Z", .fieldLink RX0 31 "OrderRows2$Order" "made" "J", .constantLong RX0 57 (14), .fieldLink RX0 36 "OrderRows2$Order" "overFrom" "J", .methodLink RX0 53 yX0_isOver, .instanceMethod yX0_isOver, .selects RX0 yX0_isOver yX0_isOver, .initialized RX0, .code yX0_isOver cX0_isOver 1 (some .boolean), .constantLong RX0 34 (20001)] ++ wsX00)
def wsJxa1e45_init_da8c8 : List Cond := .code yJxa1e45_init_da8c8 cJxa1e45_init_da8c8 1 none :: ([.methodLink RJxa1e45 1 objectInit, .instanceMethod objectInit, .code objectInit ⟨#[0xb1]⟩ 1 none])
def wsJxc12de_init_da8c8 : List Cond := .code yJxc12de_init_da8c8 cJxc12de_init_da8c8 1 none :: ([.fieldLink RJxc12de 7 "java/util/AbstractList" "modCount" "I", .methodLink RJxc12de 1 yJxa1e45_init_da8c8, .instanceMethod yJxa1e45_init_da8c8, .initialized RJxa1e45, .code yJxa1e45_init_da8c8 cJxa1e45_init_da8c8 1 none, .methodLink RJxa1e45 1 objectInit, .instanceMethod objectInit, .code objectInit ⟨#[0xb1]⟩ 1 none] ++ wsJx4a65c0)
def wsJx4a65c_init_da8c8 : List Cond := .code yJx4a65c_init_da8c8 cJx4a65c_init_da8c8 1 none :: ([.fieldLink RJx4a65c 39 "java/util/ArrayList" "DEFAULTCAPACITY_EMPTY_ELEMENTDATA" "[Ljava/lang/Object;", .fieldLink RJx4a65c 9 "java/util/ArrayList" "elementData" "[Ljava/lang/Object;", .methodLink RJx4a65c 1 yJxc12de_init_da8c8, .instanceMethod yJxc12de_init_da8c8, .initialized RJxc12de, .code yJxc12de_init_da8c8 cJxc12de_init_da8c8 1 none, .fieldLink RJxc12de 7 "java/util/AbstractList" "modCount" "I", .methodLink RJxc12de 1 yJxa1e45_init_da8c8, .instanceMethod yJxa1e45_init_da8c8, .initialized RJxa1e45, .code yJxa1e45_init_da8c8 cJxa1e45_init_da8c8 1 none, .methodLink RJxa1e45 1 objectInit, .instanceMethod objectInit, .code objectInit ⟨#[0xb1]⟩ 1 none] ++ wsJx4a65c0)
def wsX1_init_r1 : List Cond := [Cond.methodLink RX1 1 objectInit, Cond.instanceMethod objectInit, Cond.code objectInit ⟨#[0xb1]⟩ 1 none, Cond.classLink RX1 7 RJx4a65c, Cond.instantiable RJx4a65c 3, Cond.initialized RJx4a65c, Cond.fieldLink RX1 10 "OrderRows2" "orders" "Ljava/util/ArrayList;", Cond.arrayClass .int, Cond.fieldLink RX1 16 "OrderRows2" "rankOfKind" "[I", Cond.fieldLink RX1 20 "OrderRows2" "path" "[I", Cond.fieldLink RX1 23 "OrderRows2" "ringTold" "[I", Cond.fieldLink RX1 26 "OrderRows2" "ringLength" "I", Cond.fieldLink RX1 30 "OrderRows2" "clock" "J", Cond.methodLink RX1 9 yJx4a65c_init_da8c8, Cond.instanceMethod yJx4a65c_init_da8c8, Cond.code yJx4a65c_init_da8c8 cJx4a65c_init_da8c8 1 none, Cond.fieldLink RJx4a65c 39 "java/util/ArrayList" "DEFAULTCAPACITY_EMPTY_ELEMENTDATA" "[Ljava/lang/Object;", Cond.fieldLink RJx4a65c 9 "java/util/ArrayList" "elementData" "[Ljava/lang/Object;", Cond.methodLink RJx4a65c 1 yJxc12de_init_da8c8, Cond.instanceMethod yJxc12de_init_da8c8, Cond.initialized RJxc12de, Cond.code yJxc12de_init_da8c8 cJxc12de_init_da8c8 1 none, Cond.fieldLink RJxc12de 7 "java/util/AbstractList" "modCount" "I", Cond.methodLink RJxc12de 1 yJxa1e45_init_da8c8]
def wsX1_init_r2 : List Cond := [Cond.instanceMethod yJxa1e45_init_da8c8, Cond.initialized RJxa1e45, Cond.code yJxa1e45_init_da8c8 cJxa1e45_init_da8c8 1 none, Cond.methodLink RJxa1e45 1 objectInit]
def wsX1_init : List Cond := .code yX1_init cX1_init 1 none :: ((wsX1_init_r1 ++ wsX1_init_r2) ++ wsJx4a65c0 ++ wsX10)
def wsX1_isKind : List Cond := .code yX1_isKind cX1_isKind 1 (some .boolean) :: ([])
def wsX1_isAddress : List Cond := .code yX1_isAddress cX1_isAddress 1 (some .boolean) :: ([])
def wsX1_isPerson : List Cond := .code yX1_isPerson cX1_isPerson 1 (some .boolean) :: ([])
def wsX1_isDay : List Cond := .code yX1_isDay cX1_isDay 2 (some .boolean) :: ([.constantLong RX1 124 (20000)])
def wsJx4a65c_size_8abf5 : List Cond := .code yJx4a65c_size_8abf5 cJx4a65c_size_8abf5 1 (some .int) :: ([.fieldLink RJx4a65c 48 "java/util/ArrayList" "size" "I"] ++ wsJx4a65c0)
def wsJ8_hugeLength_7cf53 : List Cond := .code yJ8_hugeLength_7cf53 cJ8_hugeLength_7cf53 3 (some .int) :: ([.constant RJ8 200 (2147483639)])
def wsJ8_newLength_cabcc : List Cond := .code yJ8_newLength_cabcc cJ8_newLength_cabcc 4 (some .int) :: ([.methodLink RJ8 194 Lib.Math.max.name, .static Lib.Math.max.name, .initialized "java/lang/Math", .code Lib.Math.max.name Lib.Math.max.code 2 (some .int), .constant RJ8 200 (2147483639), .methodLink RJ8 201 yJ8_hugeLength_7cf53, .static yJ8_hugeLength_7cf53, .initialized RJ8, .code yJ8_hugeLength_7cf53 cJ8_hugeLength_7cf53 3 (some .int)])
def wsJ7_copyOf_6403c : List Cond := .code yJ7_copyOf_6403c cJ7_copyOf_6403c 4 (some (.array (.object "java/lang/Object"))) :: ([.classLink RJ7 110 "[Ljava/lang/Object;", .classLink RJ7 2 "java/lang/Object", .methodLink RJ7 304 Lib.Math.min.name, .static Lib.Math.min.name, .initialized "java/lang/Math", .code Lib.Math.min.name Lib.Math.min.code 2 (some .int), .methodLink RJ7 150 arraycopyName, .native arraycopyName, .static arraycopyName, .initialized "java/lang/System"])
def wsJ7_copyOf_1904c : List Cond := .code yJ7_copyOf_1904c cJ7_copyOf_1904c 2 (some (.array (.object "java/lang/Object"))) :: ([.methodLink RJ7 86 ⟨"java/lang/Object", "getClass", "()Ljava/lang/Class;"⟩, .selects "[Ljava/lang/Object;" ⟨"java/lang/Object", "getClass", "()Ljava/lang/Class;"⟩ ⟨"java/lang/Object", "getClass", "()Ljava/lang/Class;"⟩, .instanceMethod ⟨"java/lang/Object", "getClass", "()Ljava/lang/Class;"⟩, .native ⟨"java/lang/Object", "getClass", "()Ljava/lang/Class;"⟩, .methodLink RJ7 300 yJ7_copyOf_6403c, .static yJ7_copyOf_6403c, .initialized RJ7, .code yJ7_copyOf_6403c cJ7_copyOf_6403c 4 (some (.array (.object "java/lang/Object"))), .classLink RJ7 110 "[Ljava/lang/Object;", .classLink RJ7 2 "java/lang/Object", .methodLink RJ7 304 Lib.Math.min.name, .static Lib.Math.min.name, .initialized "java/lang/Math", .code Lib.Math.min.name Lib.Math.min.code 2 (some .int), .methodLink RJ7 150 arraycopyName, .native arraycopyName, .static arraycopyName, .initialized "java/lang/System"])
def wsJx4a65c_grow_92f84_r1 : List Cond := [Cond.fieldLink RJx4a65c 9 "java/util/ArrayList" "elementData" "[Ljava/lang/Object;", Cond.fieldLink RJx4a65c 39 "java/util/ArrayList" "DEFAULTCAPACITY_EMPTY_ELEMENTDATA" "[Ljava/lang/Object;", Cond.methodLink RJx4a65c 79 Lib.Math.max.name, Cond.static Lib.Math.max.name, Cond.initialized "java/lang/Math", Cond.code Lib.Math.max.name Lib.Math.max.code 2 (some .int), Cond.classLink RJx4a65c 7 "java/lang/Object", Cond.methodLink RJx4a65c 73 yJ8_newLength_cabcc, Cond.static yJ8_newLength_cabcc, Cond.initialized RJ8, Cond.code yJ8_newLength_cabcc cJ8_newLength_cabcc 4 (some .int), Cond.methodLink RJ8 194 Lib.Math.max.name, Cond.constant RJ8 200 (2147483639), Cond.methodLink RJ8 201 yJ8_hugeLength_7cf53, Cond.static yJ8_hugeLength_7cf53, Cond.code yJ8_hugeLength_7cf53 cJ8_hugeLength_7cf53 3 (some .int), Cond.methodLink RJx4a65c 66 yJ7_copyOf_1904c, Cond.static yJ7_copyOf_1904c, Cond.initialized RJ7, Cond.code yJ7_copyOf_1904c cJ7_copyOf_1904c 2 (some (.array (.object "java/lang/Object"))), Cond.methodLink RJ7 86 ⟨"java/lang/Object", "getClass", "()Ljava/lang/Class;"⟩, Cond.selects "[Ljava/lang/Object;" ⟨"java/lang/Object", "getClass", "()Ljava/lang/Class;"⟩ ⟨"java/lang/Object", "getClass", "()Ljava/lang/Class;"⟩, Cond.instanceMethod ⟨"java/lang/Object", "getClass", "()Ljava/lang/Class;"⟩, Cond.native ⟨"java/lang/Object", "getClass", "()Ljava/lang/Class;"⟩]
def wsJx4a65c_grow_92f84_r2 : List Cond := [Cond.methodLink RJ7 300 yJ7_copyOf_6403c, Cond.static yJ7_copyOf_6403c, Cond.code yJ7_copyOf_6403c cJ7_copyOf_6403c 4 (some (.array (.object "java/lang/Object"))), Cond.classLink RJ7 110 "[Ljava/lang/Object;", Cond.classLink RJ7 2 "java/lang/Object", Cond.methodLink RJ7 304 Lib.Math.min.name, Cond.static Lib.Math.min.name, Cond.code Lib.Math.min.name Lib.Math.min.code 2 (some .int), Cond.methodLink RJ7 150 arraycopyName, Cond.native arraycopyName, Cond.static arraycopyName, Cond.initialized "java/lang/System"]
def wsJx4a65c_grow_92f84 : List Cond := .code yJx4a65c_grow_92f84 cJx4a65c_grow_92f84 4 (some (.array (.object "java/lang/Object"))) :: ((wsJx4a65c_grow_92f84_r1 ++ wsJx4a65c_grow_92f84_r2) ++ wsJx4a65c0)
def wsJx4a65c_grow_d5877_r1 : List Cond := [Cond.fieldLink RJx4a65c 48 "java/util/ArrayList" "size" "I", Cond.methodLink RJx4a65c 69 yJx4a65c_grow_92f84, Cond.instanceMethod yJx4a65c_grow_92f84, Cond.selects RJx4a65c yJx4a65c_grow_92f84 yJx4a65c_grow_92f84, Cond.initialized RJx4a65c, Cond.code yJx4a65c_grow_92f84 cJx4a65c_grow_92f84 4 (some (.array (.object "java/lang/Object"))), Cond.fieldLink RJx4a65c 9 "java/util/ArrayList" "elementData" "[Ljava/lang/Object;", Cond.fieldLink RJx4a65c 39 "java/util/ArrayList" "DEFAULTCAPACITY_EMPTY_ELEMENTDATA" "[Ljava/lang/Object;", Cond.methodLink RJx4a65c 79 Lib.Math.max.name, Cond.static Lib.Math.max.name, Cond.initialized "java/lang/Math", Cond.code Lib.Math.max.name Lib.Math.max.code 2 (some .int), Cond.classLink RJx4a65c 7 "java/lang/Object", Cond.methodLink RJx4a65c 73 yJ8_newLength_cabcc, Cond.static yJ8_newLength_cabcc, Cond.initialized RJ8, Cond.code yJ8_newLength_cabcc cJ8_newLength_cabcc 4 (some .int), Cond.methodLink RJ8 194 Lib.Math.max.name, Cond.constant RJ8 200 (2147483639), Cond.methodLink RJ8 201 yJ8_hugeLength_7cf53, Cond.static yJ8_hugeLength_7cf53, Cond.code yJ8_hugeLength_7cf53 cJ8_hugeLength_7cf53 3 (some .int), Cond.methodLink RJx4a65c 66 yJ7_copyOf_1904c, Cond.static yJ7_copyOf_1904c]
def wsJx4a65c_grow_d5877_r2 : List Cond := [Cond.initialized RJ7, Cond.code yJ7_copyOf_1904c cJ7_copyOf_1904c 2 (some (.array (.object "java/lang/Object"))), Cond.methodLink RJ7 86 ⟨"java/lang/Object", "getClass", "()Ljava/lang/Class;"⟩, Cond.selects "[Ljava/lang/Object;" ⟨"java/lang/Object", "getClass", "()Ljava/lang/Class;"⟩ ⟨"java/lang/Object", "getClass", "()Ljava/lang/Class;"⟩, Cond.instanceMethod ⟨"java/lang/Object", "getClass", "()Ljava/lang/Class;"⟩, Cond.native ⟨"java/lang/Object", "getClass", "()Ljava/lang/Class;"⟩, Cond.methodLink RJ7 300 yJ7_copyOf_6403c, Cond.static yJ7_copyOf_6403c, Cond.code yJ7_copyOf_6403c cJ7_copyOf_6403c 4 (some (.array (.object "java/lang/Object"))), Cond.classLink RJ7 110 "[Ljava/lang/Object;", Cond.classLink RJ7 2 "java/lang/Object", Cond.methodLink RJ7 304 Lib.Math.min.name, Cond.static Lib.Math.min.name, Cond.code Lib.Math.min.name Lib.Math.min.code 2 (some .int), Cond.methodLink RJ7 150 arraycopyName, Cond.native arraycopyName, Cond.static arraycopyName, Cond.initialized "java/lang/System"]
def wsJx4a65c_grow_d5877 : List Cond := .code yJx4a65c_grow_d5877 cJx4a65c_grow_d5877 1 (some (.array (.object "java/lang/Object"))) :: ((wsJx4a65c_grow_d5877_r1 ++ wsJx4a65c_grow_d5877_r2) ++ wsJx4a65c0)
def wsJx4a65c_add_72be8_r1 : List Cond := [Cond.fieldLink RJx4a65c 48 "java/util/ArrayList" "size" "I", Cond.methodLink RJx4a65c 129 yJx4a65c_grow_d5877, Cond.instanceMethod yJx4a65c_grow_d5877, Cond.selects RJx4a65c yJx4a65c_grow_d5877 yJx4a65c_grow_d5877, Cond.initialized RJx4a65c, Cond.code yJx4a65c_grow_d5877 cJx4a65c_grow_d5877 1 (some (.array (.object "java/lang/Object"))), Cond.methodLink RJx4a65c 69 yJx4a65c_grow_92f84, Cond.instanceMethod yJx4a65c_grow_92f84, Cond.selects RJx4a65c yJx4a65c_grow_92f84 yJx4a65c_grow_92f84, Cond.code yJx4a65c_grow_92f84 cJx4a65c_grow_92f84 4 (some (.array (.object "java/lang/Object"))), Cond.fieldLink RJx4a65c 9 "java/util/ArrayList" "elementData" "[Ljava/lang/Object;", Cond.fieldLink RJx4a65c 39 "java/util/ArrayList" "DEFAULTCAPACITY_EMPTY_ELEMENTDATA" "[Ljava/lang/Object;", Cond.methodLink RJx4a65c 79 Lib.Math.max.name, Cond.static Lib.Math.max.name, Cond.initialized "java/lang/Math", Cond.code Lib.Math.max.name Lib.Math.max.code 2 (some .int), Cond.classLink RJx4a65c 7 "java/lang/Object", Cond.methodLink RJx4a65c 73 yJ8_newLength_cabcc, Cond.static yJ8_newLength_cabcc, Cond.initialized RJ8, Cond.code yJ8_newLength_cabcc cJ8_newLength_cabcc 4 (some .int), Cond.methodLink RJ8 194 Lib.Math.max.name, Cond.constant RJ8 200 (2147483639), Cond.methodLink RJ8 201 yJ8_hugeLength_7cf53]
def wsJx4a65c_add_72be8_r2 : List Cond := [Cond.static yJ8_hugeLength_7cf53, Cond.code yJ8_hugeLength_7cf53 cJ8_hugeLength_7cf53 3 (some .int), Cond.methodLink RJx4a65c 66 yJ7_copyOf_1904c, Cond.static yJ7_copyOf_1904c, Cond.initialized RJ7, Cond.code yJ7_copyOf_1904c cJ7_copyOf_1904c 2 (some (.array (.object "java/lang/Object"))), Cond.methodLink RJ7 86 ⟨"java/lang/Object", "getClass", "()Ljava/lang/Class;"⟩, Cond.selects "[Ljava/lang/Object;" ⟨"java/lang/Object", "getClass", "()Ljava/lang/Class;"⟩ ⟨"java/lang/Object", "getClass", "()Ljava/lang/Class;"⟩, Cond.instanceMethod ⟨"java/lang/Object", "getClass", "()Ljava/lang/Class;"⟩, Cond.native ⟨"java/lang/Object", "getClass", "()Ljava/lang/Class;"⟩, Cond.methodLink RJ7 300 yJ7_copyOf_6403c, Cond.static yJ7_copyOf_6403c, Cond.code yJ7_copyOf_6403c cJ7_copyOf_6403c 4 (some (.array (.object "java/lang/Object"))), Cond.classLink RJ7 110 "[Ljava/lang/Object;", Cond.classLink RJ7 2 "java/lang/Object", Cond.methodLink RJ7 304 Lib.Math.min.name, Cond.static Lib.Math.min.name, Cond.code Lib.Math.min.name Lib.Math.min.code 2 (some .int), Cond.methodLink RJ7 150 arraycopyName, Cond.native arraycopyName, Cond.static arraycopyName, Cond.initialized "java/lang/System"]
def wsJx4a65c_add_72be8 : List Cond := .code yJx4a65c_add_72be8 cJx4a65c_add_72be8 4 none :: ((wsJx4a65c_add_72be8_r1 ++ wsJx4a65c_add_72be8_r2) ++ wsJx4a65c0)
def wsJx4a65c_add_9ea2d_r1 : List Cond := [Cond.fieldLink RJx4a65c 63 "java/util/ArrayList" "modCount" "I", Cond.sameField "java/util/ArrayList" "java/util/AbstractList" "modCount" "I", Cond.fieldLink RJx4a65c 9 "java/util/ArrayList" "elementData" "[Ljava/lang/Object;", Cond.fieldLink RJx4a65c 48 "java/util/ArrayList" "size" "I", Cond.methodLink RJx4a65c 131 yJx4a65c_add_72be8, Cond.instanceMethod yJx4a65c_add_72be8, Cond.selects RJx4a65c yJx4a65c_add_72be8 yJx4a65c_add_72be8, Cond.initialized RJx4a65c, Cond.code yJx4a65c_add_72be8 cJx4a65c_add_72be8 4 none, Cond.methodLink RJx4a65c 129 yJx4a65c_grow_d5877, Cond.instanceMethod yJx4a65c_grow_d5877, Cond.selects RJx4a65c yJx4a65c_grow_d5877 yJx4a65c_grow_d5877, Cond.code yJx4a65c_grow_d5877 cJx4a65c_grow_d5877 1 (some (.array (.object "java/lang/Object"))), Cond.methodLink RJx4a65c 69 yJx4a65c_grow_92f84, Cond.instanceMethod yJx4a65c_grow_92f84, Cond.selects RJx4a65c yJx4a65c_grow_92f84 yJx4a65c_grow_92f84, Cond.code yJx4a65c_grow_92f84 cJx4a65c_grow_92f84 4 (some (.array (.object "java/lang/Object"))), Cond.fieldLink RJx4a65c 39 "java/util/ArrayList" "DEFAULTCAPACITY_EMPTY_ELEMENTDATA" "[Ljava/lang/Object;", Cond.methodLink RJx4a65c 79 Lib.Math.max.name, Cond.static Lib.Math.max.name, Cond.initialized "java/lang/Math", Cond.code Lib.Math.max.name Lib.Math.max.code 2 (some .int), Cond.classLink RJx4a65c 7 "java/lang/Object", Cond.methodLink RJx4a65c 73 yJ8_newLength_cabcc]
def wsJx4a65c_add_9ea2d_r2 : List Cond := [Cond.static yJ8_newLength_cabcc, Cond.initialized RJ8, Cond.code yJ8_newLength_cabcc cJ8_newLength_cabcc 4 (some .int), Cond.methodLink RJ8 194 Lib.Math.max.name, Cond.constant RJ8 200 (2147483639), Cond.methodLink RJ8 201 yJ8_hugeLength_7cf53, Cond.static yJ8_hugeLength_7cf53, Cond.code yJ8_hugeLength_7cf53 cJ8_hugeLength_7cf53 3 (some .int), Cond.methodLink RJx4a65c 66 yJ7_copyOf_1904c, Cond.static yJ7_copyOf_1904c, Cond.initialized RJ7, Cond.code yJ7_copyOf_1904c cJ7_copyOf_1904c 2 (some (.array (.object "java/lang/Object"))), Cond.methodLink RJ7 86 ⟨"java/lang/Object", "getClass", "()Ljava/lang/Class;"⟩, Cond.selects "[Ljava/lang/Object;" ⟨"java/lang/Object", "getClass", "()Ljava/lang/Class;"⟩ ⟨"java/lang/Object", "getClass", "()Ljava/lang/Class;"⟩, Cond.instanceMethod ⟨"java/lang/Object", "getClass", "()Ljava/lang/Class;"⟩, Cond.native ⟨"java/lang/Object", "getClass", "()Ljava/lang/Class;"⟩, Cond.methodLink RJ7 300 yJ7_copyOf_6403c, Cond.static yJ7_copyOf_6403c, Cond.code yJ7_copyOf_6403c cJ7_copyOf_6403c 4 (some (.array (.object "java/lang/Object"))), Cond.classLink RJ7 110 "[Ljava/lang/Object;", Cond.classLink RJ7 2 "java/lang/Object", Cond.methodLink RJ7 304 Lib.Math.min.name, Cond.static Lib.Math.min.name, Cond.code Lib.Math.min.name Lib.Math.min.code 2 (some .int)]
def wsJx4a65c_add_9ea2d_r3 : List Cond := [Cond.methodLink RJ7 150 arraycopyName, Cond.native arraycopyName, Cond.static arraycopyName, Cond.initialized "java/lang/System"]
def wsJx4a65c_add_9ea2d : List Cond := .code yJx4a65c_add_9ea2d cJx4a65c_add_9ea2d 2 (some .boolean) :: ((wsJx4a65c_add_9ea2d_r1 ++ (wsJx4a65c_add_9ea2d_r2 ++ wsJx4a65c_add_9ea2d_r3)) ++ wsJx4a65c0)
def wsX1_order_r1 : List Cond := [Cond.fieldLink RX1 10 "OrderRows2" "orders" "Ljava/util/ArrayList;", Cond.classLink RX1 56 RX0, Cond.instantiable RX0 9, Cond.initialized RX0, Cond.fieldLink RX1 30 "OrderRows2" "clock" "J", Cond.methodLink RX1 34 yX1_isKind, Cond.static yX1_isKind, Cond.initialized RX1, Cond.code yX1_isKind cX1_isKind 1 (some .boolean), Cond.methodLink RX1 38 yX1_doneBy, Cond.static yX1_doneBy, Cond.code yX1_doneBy cX1_doneBy 1 (some .int), Cond.methodLink RX1 42 yX1_isAddress, Cond.static yX1_isAddress, Cond.code yX1_isAddress cX1_isAddress 1 (some .boolean), Cond.methodLink RX1 45 yX1_isPerson, Cond.static yX1_isPerson, Cond.code yX1_isPerson cX1_isPerson 1 (some .boolean), Cond.methodLink RX1 48 yX1_isDay, Cond.static yX1_isDay, Cond.code yX1_isDay cX1_isDay 2 (some .boolean), Cond.constantLong RX1 124 (20000), Cond.methodLink RX1 52 yJx4a65c_size_8abf5, Cond.instanceMethod yJx4a65c_size_8abf5]
def wsX1_order_r2 : List Cond := [Cond.selects RJx4a65c yJx4a65c_size_8abf5 yJx4a65c_size_8abf5, Cond.initialized RJx4a65c, Cond.code yJx4a65c_size_8abf5 cJx4a65c_size_8abf5 1 (some .int), Cond.fieldLink RJx4a65c 48 "java/util/ArrayList" "size" "I", Cond.methodLink RX1 58 yX0_init, Cond.instanceMethod yX0_init, Cond.code yX0_init cX0_init 11 none, Cond.methodLink RX0 3 objectInit, Cond.instanceMethod objectInit, Cond.code objectInit ⟨#[0xb1]⟩ 1 none, Cond.fieldLink RX0 9 "OrderRows2$Order" "kind" "I", Cond.fieldLink RX0 15 "OrderRows2$Order" "entry" "I", Cond.fieldLink RX0 18 "OrderRows2$Order" "who" "I", Cond.fieldLink RX0 21 "OrderRows2$Order" "to" "I", Cond.fieldLink RX0 24 "OrderRows2$Order" "from" "J", Cond.fieldLink RX0 28 "OrderRows2$Order" "until" "J", Cond.fieldLink RX0 31 "OrderRows2$Order" "made" "J", Cond.constantLong RX0 34 (20001), Cond.fieldLink RX0 36 "OrderRows2$Order" "overFrom" "J", Cond.fieldLink RX0 39 "OrderRows2$Order" "isProved" "Z", Cond.methodLink RX1 61 yJx4a65c_add_9ea2d, Cond.instanceMethod yJx4a65c_add_9ea2d, Cond.selects RJx4a65c yJx4a65c_add_9ea2d yJx4a65c_add_9ea2d, Cond.code yJx4a65c_add_9ea2d cJx4a65c_add_9ea2d 2 (some .boolean)]
def wsX1_order_r3 : List Cond := [Cond.fieldLink RJx4a65c 63 "java/util/ArrayList" "modCount" "I", Cond.sameField "java/util/ArrayList" "java/util/AbstractList" "modCount" "I", Cond.fieldLink RJx4a65c 9 "java/util/ArrayList" "elementData" "[Ljava/lang/Object;", Cond.methodLink RJx4a65c 131 yJx4a65c_add_72be8, Cond.instanceMethod yJx4a65c_add_72be8, Cond.selects RJx4a65c yJx4a65c_add_72be8 yJx4a65c_add_72be8, Cond.code yJx4a65c_add_72be8 cJx4a65c_add_72be8 4 none, Cond.methodLink RJx4a65c 129 yJx4a65c_grow_d5877, Cond.instanceMethod yJx4a65c_grow_d5877, Cond.selects RJx4a65c yJx4a65c_grow_d5877 yJx4a65c_grow_d5877, Cond.code yJx4a65c_grow_d5877 cJx4a65c_grow_d5877 1 (some (.array (.object "java/lang/Object"))), Cond.methodLink RJx4a65c 69 yJx4a65c_grow_92f84, Cond.instanceMethod yJx4a65c_grow_92f84, Cond.selects RJx4a65c yJx4a65c_grow_92f84 yJx4a65c_grow_92f84, Cond.code yJx4a65c_grow_92f84 cJx4a65c_grow_92f84 4 (some (.array (.object "java/lang/Object"))), Cond.fieldLink RJx4a65c 39 "java/util/ArrayList" "DEFAULTCAPACITY_EMPTY_ELEMENTDATA" "[Ljava/lang/Object;", Cond.methodLink RJx4a65c 79 Lib.Math.max.name, Cond.static Lib.Math.max.name, Cond.initialized "java/lang/Math", Cond.code Lib.Math.max.name Lib.Math.max.code 2 (some .int), Cond.classLink RJx4a65c 7 "java/lang/Object", Cond.methodLink RJx4a65c 73 yJ8_newLength_cabcc, Cond.static yJ8_newLength_cabcc, Cond.initialized RJ8]
def wsX1_order_r4 : List Cond := [Cond.code yJ8_newLength_cabcc cJ8_newLength_cabcc 4 (some .int), Cond.methodLink RJ8 194 Lib.Math.max.name, Cond.constant RJ8 200 (2147483639), Cond.methodLink RJ8 201 yJ8_hugeLength_7cf53, Cond.static yJ8_hugeLength_7cf53, Cond.code yJ8_hugeLength_7cf53 cJ8_hugeLength_7cf53 3 (some .int), Cond.methodLink RJx4a65c 66 yJ7_copyOf_1904c, Cond.static yJ7_copyOf_1904c, Cond.initialized RJ7, Cond.code yJ7_copyOf_1904c cJ7_copyOf_1904c 2 (some (.array (.object "java/lang/Object"))), Cond.methodLink RJ7 86 ⟨"java/lang/Object", "getClass", "()Ljava/lang/Class;"⟩, Cond.selects "[Ljava/lang/Object;" ⟨"java/lang/Object", "getClass", "()Ljava/lang/Class;"⟩ ⟨"java/lang/Object", "getClass", "()Ljava/lang/Class;"⟩, Cond.instanceMethod ⟨"java/lang/Object", "getClass", "()Ljava/lang/Class;"⟩, Cond.native ⟨"java/lang/Object", "getClass", "()Ljava/lang/Class;"⟩, Cond.methodLink RJ7 300 yJ7_copyOf_6403c, Cond.static yJ7_copyOf_6403c, Cond.code yJ7_copyOf_6403c cJ7_copyOf_6403c 4 (some (.array (.object "java/lang/Object"))), Cond.classLink RJ7 110 "[Ljava/lang/Object;", Cond.classLink RJ7 2 "java/lang/Object", Cond.methodLink RJ7 304 Lib.Math.min.name, Cond.static Lib.Math.min.name, Cond.code Lib.Math.min.name Lib.Math.min.code 2 (some .int), Cond.methodLink RJ7 150 arraycopyName, Cond.native arraycopyName]
def wsX1_order_r5 : List Cond := [Cond.static arraycopyName, Cond.initialized "java/lang/System"]
def wsX1_order : List Cond := .code yX1_order cX1_order 10 (some .int) :: ((wsX1_order_r1 ++ (wsX1_order_r2 ++ (wsX1_order_r3 ++ (wsX1_order_r4 ++ wsX1_order_r5)))) ++ wsX10 ++ wsX00 ++ wsJx4a65c0)
def wsJ3_checkIndex_8e157 : List Cond := .code yJ3_checkIndex_8e157 cJ3_checkIndex_8e157 3 (some .int) :: ([])
def wsJ15_checkIndex_7cf53 : List Cond := .code yJ15_checkIndex_7cf53 cJ15_checkIndex_7cf53 2 (some .int) :: ([.methodLink RJ15 105 yJ3_checkIndex_8e157, .static yJ3_checkIndex_8e157, .initialized RJ3, .code yJ3_checkIndex_8e157 cJ3_checkIndex_8e157 3 (some .int)])
def wsJx4a65c_elementData_915e3 : List Cond := .code yJx4a65c_elementData_915e3 cJx4a65c_elementData_915e3 2 (some (.object "java/lang/Object")) :: ([.fieldLink RJx4a65c 9 "java/util/ArrayList" "elementData" "[Ljava/lang/Object;"] ++ wsJx4a65c0)
def wsJx4a65c_get_915e3 : List Cond := .code yJx4a65c_get_915e3 cJx4a65c_get_915e3 2 (some (.object "java/lang/Object")) :: ([.fieldLink RJx4a65c 48 "java/util/ArrayList" "size" "I", .methodLink RJx4a65c 118 yJ15_checkIndex_7cf53, .static yJ15_checkIndex_7cf53, .initialized RJ15, .code yJ15_checkIndex_7cf53 cJ15_checkIndex_7cf53 2 (some .int), .methodLink RJ15 105 yJ3_checkIndex_8e157, .static yJ3_checkIndex_8e157, .initialized RJ3, .code yJ3_checkIndex_8e157 cJ3_checkIndex_8e157 3 (some .int), .methodLink RJx4a65c 123 yJx4a65c_elementData_915e3, .instanceMethod yJx4a65c_elementData_915e3, .selects RJx4a65c yJx4a65c_elementData_915e3 yJx4a65c_elementData_915e3, .initialized RJx4a65c, .code yJx4a65c_elementData_915e3 cJx4a65c_elementData_915e3 2 (some (.object "java/lang/Object")), .fieldLink RJx4a65c 9 "java/util/ArrayList" "elementData" "[Ljava/lang/Object;"] ++ wsJx4a65c0)
def wsX1_find_r1 : List Cond := [Cond.fieldLink RX1 10 "OrderRows2" "orders" "Ljava/util/ArrayList;", Cond.classLink RX1 56 "OrderRows2$Order", Cond.methodLink RX1 52 yJx4a65c_size_8abf5, Cond.instanceMethod yJx4a65c_size_8abf5, Cond.selects RJx4a65c yJx4a65c_size_8abf5 yJx4a65c_size_8abf5, Cond.initialized RJx4a65c, Cond.code yJx4a65c_size_8abf5 cJx4a65c_size_8abf5 1 (some .int), Cond.fieldLink RJx4a65c 48 "java/util/ArrayList" "size" "I", Cond.methodLink RX1 114 yJx4a65c_get_915e3, Cond.instanceMethod yJx4a65c_get_915e3, Cond.selects RJx4a65c yJx4a65c_get_915e3 yJx4a65c_get_915e3, Cond.code yJx4a65c_get_915e3 cJx4a65c_get_915e3 2 (some (.object "java/lang/Object")), Cond.methodLink RJx4a65c 118 yJ15_checkIndex_7cf53, Cond.static yJ15_checkIndex_7cf53, Cond.initialized RJ15, Cond.code yJ15_checkIndex_7cf53 cJ15_checkIndex_7cf53 2 (some .int), Cond.methodLink RJ15 105 yJ3_checkIndex_8e157, Cond.static yJ3_checkIndex_8e157, Cond.initialized RJ3, Cond.code yJ3_checkIndex_8e157 cJ3_checkIndex_8e157 3 (some .int), Cond.methodLink RJx4a65c 123 yJx4a65c_elementData_915e3, Cond.instanceMethod yJx4a65c_elementData_915e3, Cond.selects RJx4a65c yJx4a65c_elementData_915e3 yJx4a65c_elementData_915e3, Cond.code yJx4a65c_elementData_915e3 cJx4a65c_elementData_915e3 2 (some (.object "java/lang/Object"))]
def wsX1_find_r2 : List Cond := [Cond.fieldLink RJx4a65c 9 "java/util/ArrayList" "elementData" "[Ljava/lang/Object;"]
def wsX1_find : List Cond := .code yX1_find cX1_find 2 (some (.object "OrderRows2$Order")) :: ((wsX1_find_r1 ++ wsX1_find_r2) ++ wsX10 ++ wsJx4a65c0)
def wsX1_canBeClock : List Cond := .code yX1_canBeClock cX1_canBeClock 3 (some .boolean) :: ([.fieldLink RX1 30 "OrderRows2" "clock" "J", .methodLink RX1 48 yX1_isDay, .static yX1_isDay, .initialized RX1, .code yX1_isDay cX1_isDay 2 (some .boolean), .constantLong RX1 124 (20000)] ++ wsX10)
def wsX1_moveClock_r1 : List Cond := [Cond.fieldLink RX1 30 "OrderRows2" "clock" "J", Cond.fieldLink RX1 10 "OrderRows2" "orders" "Ljava/util/ArrayList;", Cond.classLink RX1 56 "OrderRows2$Order", Cond.methodLink RX1 52 yJx4a65c_size_8abf5, Cond.instanceMethod yJx4a65c_size_8abf5, Cond.selects RJx4a65c yJx4a65c_size_8abf5 yJx4a65c_size_8abf5, Cond.initialized RJx4a65c, Cond.code yJx4a65c_size_8abf5 cJx4a65c_size_8abf5 1 (some .int), Cond.fieldLink RJx4a65c 48 "java/util/ArrayList" "size" "I", Cond.methodLink RX1 114 yJx4a65c_get_915e3, Cond.instanceMethod yJx4a65c_get_915e3, Cond.selects RJx4a65c yJx4a65c_get_915e3 yJx4a65c_get_915e3, Cond.code yJx4a65c_get_915e3 cJx4a65c_get_915e3 2 (some (.object "java/lang/Object")), Cond.methodLink RJx4a65c 118 yJ15_checkIndex_7cf53, Cond.static yJ15_checkIndex_7cf53, Cond.initialized RJ15, Cond.code yJ15_checkIndex_7cf53 cJ15_checkIndex_7cf53 2 (some .int), Cond.methodLink RJ15 105 yJ3_checkIndex_8e157, Cond.static yJ3_checkIndex_8e157, Cond.initialized RJ3, Cond.code yJ3_checkIndex_8e157 cJ3_checkIndex_8e157 3 (some .int), Cond.methodLink RJx4a65c 123 yJx4a65c_elementData_915e3, Cond.instanceMethod yJx4a65c_elementData_915e3, Cond.selects RJx4a65c yJx4a65c_elementData_915e3 yJx4a65c_elementData_915e3]
def wsX1_moveClock_r2 : List Cond := [Cond.code yJx4a65c_elementData_915e3 cJx4a65c_elementData_915e3 2 (some (.object "java/lang/Object")), Cond.fieldLink RJx4a65c 9 "java/util/ArrayList" "elementData" "[Ljava/lang/Object;", Cond.methodLink RX1 126 yX0_lapseIfDue, Cond.instanceMethod yX0_lapseIfDue, Cond.selects RX0 yX0_lapseIfDue yX0_lapseIfDue, Cond.initialized RX0, Cond.code yX0_lapseIfDue cX0_lapseIfDue 3 (some .boolean), Cond.fieldLink RX0 39 "OrderRows2$Order" "isProved" "Z", Cond.fieldLink RX0 31 "OrderRows2$Order" "made" "J", Cond.constantLong RX0 57 (14), Cond.fieldLink RX0 36 "OrderRows2$Order" "overFrom" "J", Cond.methodLink RX0 53 yX0_isOver, Cond.instanceMethod yX0_isOver, Cond.selects RX0 yX0_isOver yX0_isOver, Cond.code yX0_isOver cX0_isOver 1 (some .boolean), Cond.constantLong RX0 34 (20001)]
def wsX1_moveClock : List Cond := .code yX1_moveClock cX1_moveClock 5 (some .int) :: ((wsX1_moveClock_r1 ++ wsX1_moveClock_r2) ++ wsX10 ++ wsJx4a65c0 ++ wsX00)
def wsX1_proof_r1 : List Cond := [Cond.fieldLink RX1 80 "OrderRows2$Order" "isProved" "Z", Cond.fieldLink RX1 30 "OrderRows2" "clock" "J", Cond.fieldLink RX1 84 "OrderRows2$Order" "overFrom" "J", Cond.methodLink RX1 65 yX1_find, Cond.instanceMethod yX1_find, Cond.selects RX1 yX1_find yX1_find, Cond.initialized RX1, Cond.code yX1_find cX1_find 2 (some (.object "OrderRows2$Order")), Cond.fieldLink RX1 10 "OrderRows2" "orders" "Ljava/util/ArrayList;", Cond.classLink RX1 56 "OrderRows2$Order", Cond.methodLink RX1 52 yJx4a65c_size_8abf5, Cond.instanceMethod yJx4a65c_size_8abf5, Cond.selects RJx4a65c yJx4a65c_size_8abf5 yJx4a65c_size_8abf5, Cond.initialized RJx4a65c, Cond.code yJx4a65c_size_8abf5 cJx4a65c_size_8abf5 1 (some .int), Cond.fieldLink RJx4a65c 48 "java/util/ArrayList" "size" "I", Cond.methodLink RX1 114 yJx4a65c_get_915e3, Cond.instanceMethod yJx4a65c_get_915e3, Cond.selects RJx4a65c yJx4a65c_get_915e3 yJx4a65c_get_915e3, Cond.code yJx4a65c_get_915e3 cJx4a65c_get_915e3 2 (some (.object "java/lang/Object")), Cond.methodLink RJx4a65c 118 yJ15_checkIndex_7cf53, Cond.static yJ15_checkIndex_7cf53, Cond.initialized RJ15, Cond.code yJ15_checkIndex_7cf53 cJ15_checkIndex_7cf53 2 (some .int)]
def wsX1_proof_r2 : List Cond := [Cond.methodLink RJ15 105 yJ3_checkIndex_8e157, Cond.static yJ3_checkIndex_8e157, Cond.initialized RJ3, Cond.code yJ3_checkIndex_8e157 cJ3_checkIndex_8e157 3 (some .int), Cond.methodLink RJx4a65c 123 yJx4a65c_elementData_915e3, Cond.instanceMethod yJx4a65c_elementData_915e3, Cond.selects RJx4a65c yJx4a65c_elementData_915e3 yJx4a65c_elementData_915e3, Cond.code yJx4a65c_elementData_915e3 cJx4a65c_elementData_915e3 2 (some (.object "java/lang/Object")), Cond.fieldLink RJx4a65c 9 "java/util/ArrayList" "elementData" "[Ljava/lang/Object;", Cond.methodLink RX1 69 yX1_canBeClock, Cond.instanceMethod yX1_canBeClock, Cond.selects RX1 yX1_canBeClock yX1_canBeClock, Cond.code yX1_canBeClock cX1_canBeClock 3 (some .boolean), Cond.methodLink RX1 48 yX1_isDay, Cond.static yX1_isDay, Cond.code yX1_isDay cX1_isDay 2 (some .boolean), Cond.constantLong RX1 124 (20000), Cond.methodLink RX1 72 yX1_moveClock, Cond.instanceMethod yX1_moveClock, Cond.selects RX1 yX1_moveClock yX1_moveClock, Cond.code yX1_moveClock cX1_moveClock 5 (some .int), Cond.methodLink RX1 126 yX0_lapseIfDue, Cond.instanceMethod yX0_lapseIfDue, Cond.selects RX0 yX0_lapseIfDue yX0_lapseIfDue]
def wsX1_proof_r3 : List Cond := [Cond.initialized RX0, Cond.code yX0_lapseIfDue cX0_lapseIfDue 3 (some .boolean), Cond.fieldLink RX0 39 "OrderRows2$Order" "isProved" "Z", Cond.fieldLink RX0 31 "OrderRows2$Order" "made" "J", Cond.constantLong RX0 57 (14), Cond.fieldLink RX0 36 "OrderRows2$Order" "overFrom" "J", Cond.methodLink RX0 53 yX0_isOver, Cond.instanceMethod yX0_isOver, Cond.selects RX0 yX0_isOver yX0_isOver, Cond.code yX0_isOver cX0_isOver 1 (some .boolean), Cond.constantLong RX0 34 (20001), Cond.methodLink RX1 76 yX0_isOver]
def wsX1_proof : List Cond := .code yX1_proof cX1_proof 6 (some .int) :: ((wsX1_proof_r1 ++ (wsX1_proof_r2 ++ wsX1_proof_r3)) ++ wsX00 ++ wsX10 ++ wsJx4a65c0)
def wsX1_withdraw_r1 : List Cond := [Cond.fieldLink RX1 30 "OrderRows2" "clock" "J", Cond.fieldLink RX1 84 "OrderRows2$Order" "overFrom" "J", Cond.methodLink RX1 65 yX1_find, Cond.instanceMethod yX1_find, Cond.selects RX1 yX1_find yX1_find, Cond.initialized RX1, Cond.code yX1_find cX1_find 2 (some (.object "OrderRows2$Order")), Cond.fieldLink RX1 10 "OrderRows2" "orders" "Ljava/util/ArrayList;", Cond.classLink RX1 56 "OrderRows2$Order", Cond.methodLink RX1 52 yJx4a65c_size_8abf5, Cond.instanceMethod yJx4a65c_size_8abf5, Cond.selects RJx4a65c yJx4a65c_size_8abf5 yJx4a65c_size_8abf5, Cond.initialized RJx4a65c, Cond.code yJx4a65c_size_8abf5 cJx4a65c_size_8abf5 1 (some .int), Cond.fieldLink RJx4a65c 48 "java/util/ArrayList" "size" "I", Cond.methodLink RX1 114 yJx4a65c_get_915e3, Cond.instanceMethod yJx4a65c_get_915e3, Cond.selects RJx4a65c yJx4a65c_get_915e3 yJx4a65c_get_915e3, Cond.code yJx4a65c_get_915e3 cJx4a65c_get_915e3 2 (some (.object "java/lang/Object")), Cond.methodLink RJx4a65c 118 yJ15_checkIndex_7cf53, Cond.static yJ15_checkIndex_7cf53, Cond.initialized RJ15, Cond.code yJ15_checkIndex_7cf53 cJ15_checkIndex_7cf53 2 (some .int), Cond.methodLink RJ15 105 yJ3_checkIndex_8e157]
def wsX1_withdraw_r2 : List Cond := [Cond.static yJ3_checkIndex_8e157, Cond.initialized RJ3, Cond.code yJ3_checkIndex_8e157 cJ3_checkIndex_8e157 3 (some .int), Cond.methodLink RJx4a65c 123 yJx4a65c_elementData_915e3, Cond.instanceMethod yJx4a65c_elementData_915e3, Cond.selects RJx4a65c yJx4a65c_elementData_915e3 yJx4a65c_elementData_915e3, Cond.code yJx4a65c_elementData_915e3 cJx4a65c_elementData_915e3 2 (some (.object "java/lang/Object")), Cond.fieldLink RJx4a65c 9 "java/util/ArrayList" "elementData" "[Ljava/lang/Object;", Cond.methodLink RX1 69 yX1_canBeClock, Cond.instanceMethod yX1_canBeClock, Cond.selects RX1 yX1_canBeClock yX1_canBeClock, Cond.code yX1_canBeClock cX1_canBeClock 3 (some .boolean), Cond.methodLink RX1 48 yX1_isDay, Cond.static yX1_isDay, Cond.code yX1_isDay cX1_isDay 2 (some .boolean), Cond.constantLong RX1 124 (20000), Cond.methodLink RX1 72 yX1_moveClock, Cond.instanceMethod yX1_moveClock, Cond.selects RX1 yX1_moveClock yX1_moveClock, Cond.code yX1_moveClock cX1_moveClock 5 (some .int), Cond.methodLink RX1 126 yX0_lapseIfDue, Cond.instanceMethod yX0_lapseIfDue, Cond.selects RX0 yX0_lapseIfDue yX0_lapseIfDue, Cond.initialized RX0]
def wsX1_withdraw_r3 : List Cond := [Cond.code yX0_lapseIfDue cX0_lapseIfDue 3 (some .boolean), Cond.fieldLink RX0 39 "OrderRows2$Order" "isProved" "Z", Cond.fieldLink RX0 31 "OrderRows2$Order" "made" "J", Cond.constantLong RX0 57 (14), Cond.fieldLink RX0 36 "OrderRows2$Order" "overFrom" "J", Cond.methodLink RX0 53 yX0_isOver, Cond.instanceMethod yX0_isOver, Cond.selects RX0 yX0_isOver yX0_isOver, Cond.code yX0_isOver cX0_isOver 1 (some .boolean), Cond.constantLong RX0 34 (20001), Cond.methodLink RX1 76 yX0_isOver, Cond.methodLink RX1 87 yX0_daysOfSpanFrom, Cond.instanceMethod yX0_daysOfSpanFrom, Cond.selects RX0 yX0_daysOfSpanFrom yX0_daysOfSpanFrom, Cond.code yX0_daysOfSpanFrom cX0_daysOfSpanFrom 5 (some .int), Cond.fieldLink RX0 24 "OrderRows2$Order" "from" "J", Cond.methodLink RX0 47 Lib.MathLoose.max_long.x, Cond.static Lib.MathLoose.max_long.x, Cond.initialized "java/lang/Math", Cond.code Lib.MathLoose.max_long.x Lib.MathLoose.max_long.code 4 (some .long), Cond.fieldLink RX0 28 "OrderRows2$Order" "until" "J"]
def wsX1_withdraw : List Cond := .code yX1_withdraw cX1_withdraw 5 (some .int) :: ((wsX1_withdraw_r1 ++ (wsX1_withdraw_r2 ++ wsX1_withdraw_r3)) ++ wsX10 ++ wsX00 ++ wsJx4a65c0)
def wsX1_stepAt : List Cond := .code yX1_stepAt cX1_stepAt 4 (some .int) :: ([.fieldLink RX1 20 "OrderRows2" "path" "[I"] ++ wsX10)
def wsX1_tellRing : List Cond := .code yX1_tellRing cX1_tellRing 4 none :: ([.fieldLink RX1 23 "OrderRows2" "ringTold" "[I", .fieldLink RX1 20 "OrderRows2" "path" "[I", .fieldLink RX1 26 "OrderRows2" "ringLength" "I"] ++ wsX10)
def wsX1_strongest_r1 : List Cond := [Cond.fieldLink RX1 10 "OrderRows2" "orders" "Ljava/util/ArrayList;", Cond.classLink RX1 56 "OrderRows2$Order", Cond.fieldLink RX1 16 "OrderRows2" "rankOfKind" "[I", Cond.fieldLink RX1 105 "OrderRows2$Order" "kind" "I", Cond.methodLink RX1 52 yJx4a65c_size_8abf5, Cond.instanceMethod yJx4a65c_size_8abf5, Cond.selects RJx4a65c yJx4a65c_size_8abf5 yJx4a65c_size_8abf5, Cond.initialized RJx4a65c, Cond.code yJx4a65c_size_8abf5 cJx4a65c_size_8abf5 1 (some .int), Cond.fieldLink RJx4a65c 48 "java/util/ArrayList" "size" "I", Cond.methodLink RX1 114 yJx4a65c_get_915e3, Cond.instanceMethod yJx4a65c_get_915e3, Cond.selects RJx4a65c yJx4a65c_get_915e3 yJx4a65c_get_915e3, Cond.code yJx4a65c_get_915e3 cJx4a65c_get_915e3 2 (some (.object "java/lang/Object")), Cond.methodLink RJx4a65c 118 yJ15_checkIndex_7cf53, Cond.static yJ15_checkIndex_7cf53, Cond.initialized RJ15, Cond.code yJ15_checkIndex_7cf53 cJ15_checkIndex_7cf53 2 (some .int), Cond.methodLink RJ15 105 yJ3_checkIndex_8e157, Cond.static yJ3_checkIndex_8e157, Cond.initialized RJ3, Cond.code yJ3_checkIndex_8e157 cJ3_checkIndex_8e157 3 (some .int), Cond.methodLink RJx4a65c 123 yJx4a65c_elementData_915e3, Cond.instanceMethod yJx4a65c_elementData_915e3]
def wsX1_strongest_r2 : List Cond := [Cond.selects RJx4a65c yJx4a65c_elementData_915e3 yJx4a65c_elementData_915e3, Cond.code yJx4a65c_elementData_915e3 cJx4a65c_elementData_915e3 2 (some (.object "java/lang/Object")), Cond.fieldLink RJx4a65c 9 "java/util/ArrayList" "elementData" "[Ljava/lang/Object;", Cond.methodLink RX1 129 yX0_concerns, Cond.instanceMethod yX0_concerns, Cond.selects RX0 yX0_concerns yX0_concerns, Cond.initialized RX0, Cond.code yX0_concerns cX0_concerns 4 (some .boolean), Cond.fieldLink RX0 15 "OrderRows2$Order" "entry" "I", Cond.fieldLink RX0 18 "OrderRows2$Order" "who" "I", Cond.fieldLink RX0 9 "OrderRows2$Order" "kind" "I", Cond.methodLink RX1 121 yX0_isInForce, Cond.instanceMethod yX0_isInForce, Cond.selects RX0 yX0_isInForce yX0_isInForce, Cond.code yX0_isInForce cX0_isInForce 3 (some .boolean), Cond.fieldLink RX0 24 "OrderRows2$Order" "from" "J", Cond.fieldLink RX0 28 "OrderRows2$Order" "until" "J", Cond.fieldLink RX0 36 "OrderRows2$Order" "overFrom" "J"]
def wsX1_strongest : List Cond := .code yX1_strongest cX1_strongest 9 (some (.object "OrderRows2$Order")) :: ((wsX1_strongest_r1 ++ wsX1_strongest_r2) ++ wsX10 ++ wsX00 ++ wsJx4a65c0)
def wsX1_effective_r1 : List Cond := [Cond.fieldLink RX1 20 "OrderRows2" "path" "[I", Cond.fieldLink RX1 105 "OrderRows2$Order" "kind" "I", Cond.fieldLink RX1 108 "OrderRows2$Order" "to" "I", Cond.methodLink RX1 42 yX1_isAddress, Cond.static yX1_isAddress, Cond.initialized RX1, Cond.code yX1_isAddress cX1_isAddress 1 (some .boolean), Cond.methodLink RX1 45 yX1_isPerson, Cond.static yX1_isPerson, Cond.code yX1_isPerson cX1_isPerson 1 (some .boolean), Cond.methodLink RX1 48 yX1_isDay, Cond.static yX1_isDay, Cond.code yX1_isDay cX1_isDay 2 (some .boolean), Cond.constantLong RX1 124 (20000), Cond.methodLink RX1 90 yX1_stepAt, Cond.instanceMethod yX1_stepAt, Cond.selects RX1 yX1_stepAt yX1_stepAt, Cond.code yX1_stepAt cX1_stepAt 4 (some .int), Cond.methodLink RX1 94 yX1_tellRing, Cond.instanceMethod yX1_tellRing, Cond.selects RX1 yX1_tellRing yX1_tellRing, Cond.code yX1_tellRing cX1_tellRing 4 none, Cond.fieldLink RX1 23 "OrderRows2" "ringTold" "[I", Cond.fieldLink RX1 26 "OrderRows2" "ringLength" "I"]
def wsX1_effective_r2 : List Cond := [Cond.methodLink RX1 98 yX1_strongest, Cond.instanceMethod yX1_strongest, Cond.selects RX1 yX1_strongest yX1_strongest, Cond.code yX1_strongest cX1_strongest 9 (some (.object "OrderRows2$Order")), Cond.fieldLink RX1 10 "OrderRows2" "orders" "Ljava/util/ArrayList;", Cond.classLink RX1 56 "OrderRows2$Order", Cond.fieldLink RX1 16 "OrderRows2" "rankOfKind" "[I", Cond.methodLink RX1 52 yJx4a65c_size_8abf5, Cond.instanceMethod yJx4a65c_size_8abf5, Cond.selects RJx4a65c yJx4a65c_size_8abf5 yJx4a65c_size_8abf5, Cond.initialized RJx4a65c, Cond.code yJx4a65c_size_8abf5 cJx4a65c_size_8abf5 1 (some .int), Cond.fieldLink RJx4a65c 48 "java/util/ArrayList" "size" "I", Cond.methodLink RX1 114 yJx4a65c_get_915e3, Cond.instanceMethod yJx4a65c_get_915e3, Cond.selects RJx4a65c yJx4a65c_get_915e3 yJx4a65c_get_915e3, Cond.code yJx4a65c_get_915e3 cJx4a65c_get_915e3 2 (some (.object "java/lang/Object")), Cond.methodLink RJx4a65c 118 yJ15_checkIndex_7cf53, Cond.static yJ15_checkIndex_7cf53, Cond.initialized RJ15, Cond.code yJ15_checkIndex_7cf53 cJ15_checkIndex_7cf53 2 (some .int), Cond.methodLink RJ15 105 yJ3_checkIndex_8e157, Cond.static yJ3_checkIndex_8e157, Cond.initialized RJ3]
def wsX1_effective_r3 : List Cond := [Cond.code yJ3_checkIndex_8e157 cJ3_checkIndex_8e157 3 (some .int), Cond.methodLink RJx4a65c 123 yJx4a65c_elementData_915e3, Cond.instanceMethod yJx4a65c_elementData_915e3, Cond.selects RJx4a65c yJx4a65c_elementData_915e3 yJx4a65c_elementData_915e3, Cond.code yJx4a65c_elementData_915e3 cJx4a65c_elementData_915e3 2 (some (.object "java/lang/Object")), Cond.fieldLink RJx4a65c 9 "java/util/ArrayList" "elementData" "[Ljava/lang/Object;", Cond.methodLink RX1 129 yX0_concerns, Cond.instanceMethod yX0_concerns, Cond.selects RX0 yX0_concerns yX0_concerns, Cond.initialized RX0, Cond.code yX0_concerns cX0_concerns 4 (some .boolean), Cond.fieldLink RX0 15 "OrderRows2$Order" "entry" "I", Cond.fieldLink RX0 18 "OrderRows2$Order" "who" "I", Cond.fieldLink RX0 9 "OrderRows2$Order" "kind" "I", Cond.methodLink RX1 121 yX0_isInForce, Cond.instanceMethod yX0_isInForce, Cond.selects RX0 yX0_isInForce yX0_isInForce, Cond.code yX0_isInForce cX0_isInForce 3 (some .boolean), Cond.fieldLink RX0 24 "OrderRows2$Order" "from" "J", Cond.fieldLink RX0 28 "OrderRows2$Order" "until" "J", Cond.fieldLink RX0 36 "OrderRows2$Order" "overFrom" "J", Cond.methodLink RX1 102 yX0_sendsOn, Cond.instanceMethod yX0_sendsOn, Cond.selects RX0 yX0_sendsOn yX0_sendsOn]
def wsX1_effective_r4 : List Cond := [Cond.code yX0_sendsOn cX0_sendsOn 1 (some .boolean), Cond.static yX1_doneBy, Cond.code yX1_doneBy cX1_doneBy 1 (some .int), Cond.methodLink RX1 38 yX1_doneBy]
def wsX1_effective : List Cond := .code yX1_effective cX1_effective 10 (some .int) :: ((wsX1_effective_r1 ++ (wsX1_effective_r2 ++ (wsX1_effective_r3 ++ wsX1_effective_r4))) ++ wsX10 ++ wsX00 ++ wsJx4a65c0)
def wsX1_ring : List Cond := .code yX1_ring cX1_ring 2 (some .int) :: ([.fieldLink RX1 26 "OrderRows2" "ringLength" "I", .fieldLink RX1 23 "OrderRows2" "ringTold" "[I"] ++ wsX10)
def wsX1_rank : List Cond := .code yX1_rank cX1_rank 4 (some .int) :: ([.fieldLink RX1 16 "OrderRows2" "rankOfKind" "[I", .methodLink RX1 34 yX1_isKind, .static yX1_isKind, .initialized RX1, .code yX1_isKind cX1_isKind 1 (some .boolean)] ++ wsX10)
def wsX1_tick_r1 : List Cond := [Cond.methodLink RX1 69 yX1_canBeClock, Cond.instanceMethod yX1_canBeClock, Cond.selects RX1 yX1_canBeClock yX1_canBeClock, Cond.initialized RX1, Cond.code yX1_canBeClock cX1_canBeClock 3 (some .boolean), Cond.fieldLink RX1 30 "OrderRows2" "clock" "J", Cond.methodLink RX1 48 yX1_isDay, Cond.static yX1_isDay, Cond.code yX1_isDay cX1_isDay 2 (some .boolean), Cond.constantLong RX1 124 (20000), Cond.methodLink RX1 72 yX1_moveClock, Cond.instanceMethod yX1_moveClock, Cond.selects RX1 yX1_moveClock yX1_moveClock, Cond.code yX1_moveClock cX1_moveClock 5 (some .int), Cond.fieldLink RX1 10 "OrderRows2" "orders" "Ljava/util/ArrayList;", Cond.classLink RX1 56 "OrderRows2$Order", Cond.methodLink RX1 52 yJx4a65c_size_8abf5, Cond.instanceMethod yJx4a65c_size_8abf5, Cond.selects RJx4a65c yJx4a65c_size_8abf5 yJx4a65c_size_8abf5, Cond.initialized RJx4a65c, Cond.code yJx4a65c_size_8abf5 cJx4a65c_size_8abf5 1 (some .int), Cond.fieldLink RJx4a65c 48 "java/util/ArrayList" "size" "I", Cond.methodLink RX1 114 yJx4a65c_get_915e3, Cond.instanceMethod yJx4a65c_get_915e3]
def wsX1_tick_r2 : List Cond := [Cond.selects RJx4a65c yJx4a65c_get_915e3 yJx4a65c_get_915e3, Cond.code yJx4a65c_get_915e3 cJx4a65c_get_915e3 2 (some (.object "java/lang/Object")), Cond.methodLink RJx4a65c 118 yJ15_checkIndex_7cf53, Cond.static yJ15_checkIndex_7cf53, Cond.initialized RJ15, Cond.code yJ15_checkIndex_7cf53 cJ15_checkIndex_7cf53 2 (some .int), Cond.methodLink RJ15 105 yJ3_checkIndex_8e157, Cond.static yJ3_checkIndex_8e157, Cond.initialized RJ3, Cond.code yJ3_checkIndex_8e157 cJ3_checkIndex_8e157 3 (some .int), Cond.methodLink RJx4a65c 123 yJx4a65c_elementData_915e3, Cond.instanceMethod yJx4a65c_elementData_915e3, Cond.selects RJx4a65c yJx4a65c_elementData_915e3 yJx4a65c_elementData_915e3, Cond.code yJx4a65c_elementData_915e3 cJx4a65c_elementData_915e3 2 (some (.object "java/lang/Object")), Cond.fieldLink RJx4a65c 9 "java/util/ArrayList" "elementData" "[Ljava/lang/Object;", Cond.methodLink RX1 126 yX0_lapseIfDue, Cond.instanceMethod yX0_lapseIfDue, Cond.selects RX0 yX0_lapseIfDue yX0_lapseIfDue, Cond.initialized RX0, Cond.code yX0_lapseIfDue cX0_lapseIfDue 3 (some .boolean), Cond.fieldLink RX0 39 "OrderRows2$Order" "isProved" "Z", Cond.fieldLink RX0 31 "OrderRows2$Order" "made" "J", Cond.constantLong RX0 57 (14), Cond.fieldLink RX0 36 "OrderRows2$Order" "overFrom" "J"]
def wsX1_tick_r3 : List Cond := [Cond.methodLink RX0 53 yX0_isOver, Cond.instanceMethod yX0_isOver, Cond.selects RX0 yX0_isOver yX0_isOver, Cond.code yX0_isOver cX0_isOver 1 (some .boolean), Cond.constantLong RX0 34 (20001)]
def wsX1_tick : List Cond := .code yX1_tick cX1_tick 3 (some .int) :: ((wsX1_tick_r1 ++ (wsX1_tick_r2 ++ wsX1_tick_r3)) ++ wsX10 ++ wsJx4a65c0 ++ wsX00)
def wsX1_extend_r1 : List Cond := [Cond.fieldLink RX1 111 "OrderRows2$Order" "until" "J", Cond.methodLink RX1 65 yX1_find, Cond.instanceMethod yX1_find, Cond.selects RX1 yX1_find yX1_find, Cond.initialized RX1, Cond.code yX1_find cX1_find 2 (some (.object "OrderRows2$Order")), Cond.fieldLink RX1 10 "OrderRows2" "orders" "Ljava/util/ArrayList;", Cond.classLink RX1 56 "OrderRows2$Order", Cond.methodLink RX1 52 yJx4a65c_size_8abf5, Cond.instanceMethod yJx4a65c_size_8abf5, Cond.selects RJx4a65c yJx4a65c_size_8abf5 yJx4a65c_size_8abf5, Cond.initialized RJx4a65c, Cond.code yJx4a65c_size_8abf5 cJx4a65c_size_8abf5 1 (some .int), Cond.fieldLink RJx4a65c 48 "java/util/ArrayList" "size" "I", Cond.methodLink RX1 114 yJx4a65c_get_915e3, Cond.instanceMethod yJx4a65c_get_915e3, Cond.selects RJx4a65c yJx4a65c_get_915e3 yJx4a65c_get_915e3, Cond.code yJx4a65c_get_915e3 cJx4a65c_get_915e3 2 (some (.object "java/lang/Object")), Cond.methodLink RJx4a65c 118 yJ15_checkIndex_7cf53, Cond.static yJ15_checkIndex_7cf53, Cond.initialized RJ15, Cond.code yJ15_checkIndex_7cf53 cJ15_checkIndex_7cf53 2 (some .int), Cond.methodLink RJ15 105 yJ3_checkIndex_8e157, Cond.static yJ3_checkIndex_8e157]
def wsX1_extend_r2 : List Cond := [Cond.initialized RJ3, Cond.code yJ3_checkIndex_8e157 cJ3_checkIndex_8e157 3 (some .int), Cond.methodLink RJx4a65c 123 yJx4a65c_elementData_915e3, Cond.instanceMethod yJx4a65c_elementData_915e3, Cond.selects RJx4a65c yJx4a65c_elementData_915e3 yJx4a65c_elementData_915e3, Cond.code yJx4a65c_elementData_915e3 cJx4a65c_elementData_915e3 2 (some (.object "java/lang/Object")), Cond.fieldLink RJx4a65c 9 "java/util/ArrayList" "elementData" "[Ljava/lang/Object;", Cond.methodLink RX1 48 yX1_isDay, Cond.static yX1_isDay, Cond.code yX1_isDay cX1_isDay 2 (some .boolean), Cond.constantLong RX1 124 (20000), Cond.methodLink RX1 76 yX0_isOver, Cond.instanceMethod yX0_isOver, Cond.selects RX0 yX0_isOver yX0_isOver, Cond.initialized RX0, Cond.code yX0_isOver cX0_isOver 1 (some .boolean), Cond.fieldLink RX0 36 "OrderRows2$Order" "overFrom" "J", Cond.constantLong RX0 34 (20001)]
def wsX1_extend : List Cond := .code yX1_extend cX1_extend 5 (some .int) :: ((wsX1_extend_r1 ++ wsX1_extend_r2) ++ wsX00 ++ wsX10 ++ wsJx4a65c0)
def wsX1_told_r1 : List Cond := [Cond.fieldLink RX1 10 "OrderRows2" "orders" "Ljava/util/ArrayList;", Cond.classLink RX1 56 "OrderRows2$Order", Cond.fieldLink RX1 118 "OrderRows2$Order" "who" "I", Cond.fieldLink RX1 80 "OrderRows2$Order" "isProved" "Z", Cond.fieldLink RX1 30 "OrderRows2" "clock" "J", Cond.methodLink RX1 45 yX1_isPerson, Cond.static yX1_isPerson, Cond.initialized RX1, Cond.code yX1_isPerson cX1_isPerson 1 (some .boolean), Cond.methodLink RX1 52 yJx4a65c_size_8abf5, Cond.instanceMethod yJx4a65c_size_8abf5, Cond.selects RJx4a65c yJx4a65c_size_8abf5 yJx4a65c_size_8abf5, Cond.initialized RJx4a65c, Cond.code yJx4a65c_size_8abf5 cJx4a65c_size_8abf5 1 (some .int), Cond.fieldLink RJx4a65c 48 "java/util/ArrayList" "size" "I", Cond.methodLink RX1 114 yJx4a65c_get_915e3, Cond.instanceMethod yJx4a65c_get_915e3, Cond.selects RJx4a65c yJx4a65c_get_915e3 yJx4a65c_get_915e3, Cond.code yJx4a65c_get_915e3 cJx4a65c_get_915e3 2 (some (.object "java/lang/Object")), Cond.methodLink RJx4a65c 118 yJ15_checkIndex_7cf53, Cond.static yJ15_checkIndex_7cf53, Cond.initialized RJ15, Cond.code yJ15_checkIndex_7cf53 cJ15_checkIndex_7cf53 2 (some .int), Cond.methodLink RJ15 105 yJ3_checkIndex_8e157]
def wsX1_told_r2 : List Cond := [Cond.static yJ3_checkIndex_8e157, Cond.initialized RJ3, Cond.code yJ3_checkIndex_8e157 cJ3_checkIndex_8e157 3 (some .int), Cond.methodLink RJx4a65c 123 yJx4a65c_elementData_915e3, Cond.instanceMethod yJx4a65c_elementData_915e3, Cond.selects RJx4a65c yJx4a65c_elementData_915e3 yJx4a65c_elementData_915e3, Cond.code yJx4a65c_elementData_915e3 cJx4a65c_elementData_915e3 2 (some (.object "java/lang/Object")), Cond.fieldLink RJx4a65c 9 "java/util/ArrayList" "elementData" "[Ljava/lang/Object;", Cond.methodLink RX1 102 yX0_sendsOn, Cond.instanceMethod yX0_sendsOn, Cond.selects RX0 yX0_sendsOn yX0_sendsOn, Cond.initialized RX0, Cond.code yX0_sendsOn cX0_sendsOn 1 (some .boolean), Cond.fieldLink RX0 9 "OrderRows2$Order" "kind" "I", Cond.static yX1_doneBy, Cond.code yX1_doneBy cX1_doneBy 1 (some .int), Cond.methodLink RX1 121 yX0_isInForce, Cond.instanceMethod yX0_isInForce, Cond.selects RX0 yX0_isInForce yX0_isInForce, Cond.code yX0_isInForce cX0_isInForce 3 (some .boolean), Cond.fieldLink RX0 24 "OrderRows2$Order" "from" "J", Cond.fieldLink RX0 28 "OrderRows2$Order" "until" "J", Cond.fieldLink RX0 36 "OrderRows2$Order" "overFrom" "J"]
def wsX1_told : List Cond := .code yX1_told cX1_told 6 (some .int) :: ((wsX1_told_r1 ++ wsX1_told_r2) ++ wsX10 ++ wsX00 ++ wsJx4a65c0)
def wsX2_init : List Cond := .code yX2_init cX2_init 1 none :: ([.methodLink RX2 1 objectInit, .instanceMethod objectInit, .code objectInit ⟨#[0xb1]⟩ 1 none, .arrayClass .int, .fieldLink RX2 7 "OrderRows2Model" "kinds" "[I", .fieldLink RX2 13 "OrderRows2Model" "entries" "[I", .fieldLink RX2 16 "OrderRows2Model" "persons" "[I", .fieldLink RX2 19 "OrderRows2Model" "tos" "[I", .arrayClass .long, .fieldLink RX2 22 "OrderRows2Model" "froms" "[J", .fieldLink RX2 26 "OrderRows2Model" "untils" "[J", .fieldLink RX2 29 "OrderRows2Model" "made" "[J", .arrayClass .boolean, .fieldLink RX2 32 "OrderRows2Model" "proved" "[Z", .fieldLink RX2 36 "OrderRows2Model" "overs" "[J", .fieldLink RX2 39 "OrderRows2Model" "ranks" "[I", .fieldLink RX2 42 "OrderRows2Model" "way" "[I", .fieldLink RX2 45 "OrderRows2Model" "ring" "[I", .fieldLink RX2 48 "OrderRows2Model" "ringSize" "I"] ++ wsX20)
def wsX2_isIn : List Cond := .code yX2_isIn cX2_isIn 6 (some .boolean) :: ([])
def wsX2_isOrder : List Cond := .code yX2_isOrder cX2_isOrder 2 (some .boolean) :: ([.fieldLink RX2 55 "OrderRows2Model" "orders" "I", .methodLink RX2 58 yX2_isIn, .static yX2_isIn, .initialized RX2, .code yX2_isIn cX2_isIn 6 (some .boolean)] ++ wsX20)
def wsX2_isDay : List Cond := .code yX2_isDay cX2_isDay 3 (some .boolean) :: ([.fieldLink RX2 62 "OrderRows2Model" "now" "J", .constantLong RX2 66 (20000), .methodLink RX2 58 yX2_isIn, .static yX2_isIn, .initialized RX2, .code yX2_isIn cX2_isIn 6 (some .boolean)] ++ wsX20)
def wsX2_order : List Cond := .code yX2_order cX2_order 10 (some .int) :: ([.fieldLink RX2 52 "OrderRows2Model" "thrown" "I", .constantLong RX2 68 (99), .constantLong RX2 70 (-1), .constantLong RX2 72 (49), .constantLong RX2 74 (8), .constantLong RX2 66 (20000), .fieldLink RX2 55 "OrderRows2Model" "orders" "I", .fieldLink RX2 7 "OrderRows2Model" "kinds" "[I", .fieldLink RX2 13 "OrderRows2Model" "entries" "[I", .fieldLink RX2 16 "OrderRows2Model" "persons" "[I", .fieldLink RX2 19 "OrderRows2Model" "tos" "[I", .fieldLink RX2 22 "OrderRows2Model" "froms" "[J", .fieldLink RX2 26 "OrderRows2Model" "untils" "[J", .fieldLink RX2 29 "OrderRows2Model" "made" "[J", .fieldLink RX2 62 "OrderRows2Model" "now" "J", .fieldLink RX2 36 "OrderRows2Model" "overs" "[J", .methodLink RX2 58 yX2_isIn, .static yX2_isIn, .initialized RX2, .code yX2_isIn cX2_isIn 6 (some .boolean)] ++ wsX20)
def wsX2_set : List Cond := .code yX2_set cX2_set 5 (some .int) :: ([.fieldLink RX2 62 "OrderRows2Model" "now" "J", .fieldLink RX2 55 "OrderRows2Model" "orders" "I", .fieldLink RX2 32 "OrderRows2Model" "proved" "[Z", .fieldLink RX2 36 "OrderRows2Model" "overs" "[J", .fieldLink RX2 29 "OrderRows2Model" "made" "[J", .constantLong RX2 76 (14), .constantLong RX2 78 (15)] ++ wsX20)
def wsX2_proof_r1 : List Cond := [Cond.fieldLink RX2 52 "OrderRows2Model" "thrown" "I", Cond.fieldLink RX2 36 "OrderRows2Model" "overs" "[J", Cond.fieldLink RX2 32 "OrderRows2Model" "proved" "[Z", Cond.constantLong RX2 70 (-1), Cond.methodLink RX2 80 yX2_isOrder, Cond.instanceMethod yX2_isOrder, Cond.selects RX2 yX2_isOrder yX2_isOrder, Cond.initialized RX2, Cond.code yX2_isOrder cX2_isOrder 2 (some .boolean), Cond.fieldLink RX2 55 "OrderRows2Model" "orders" "I", Cond.methodLink RX2 58 yX2_isIn, Cond.static yX2_isIn, Cond.code yX2_isIn cX2_isIn 6 (some .boolean), Cond.methodLink RX2 84 yX2_isDay, Cond.instanceMethod yX2_isDay, Cond.selects RX2 yX2_isDay yX2_isDay, Cond.code yX2_isDay cX2_isDay 3 (some .boolean), Cond.fieldLink RX2 62 "OrderRows2Model" "now" "J", Cond.constantLong RX2 66 (20000), Cond.methodLink RX2 88 yX2_set, Cond.instanceMethod yX2_set, Cond.selects RX2 yX2_set yX2_set, Cond.code yX2_set cX2_set 5 (some .int), Cond.fieldLink RX2 29 "OrderRows2Model" "made" "[J"]
def wsX2_proof_r2 : List Cond := [Cond.constantLong RX2 76 (14), Cond.constantLong RX2 78 (15)]
def wsX2_proof : List Cond := .code yX2_proof cX2_proof 6 (some .int) :: ((wsX2_proof_r1 ++ wsX2_proof_r2) ++ wsX20)
def wsX2_withdraw_r1 : List Cond := [Cond.fieldLink RX2 52 "OrderRows2Model" "thrown" "I", Cond.fieldLink RX2 36 "OrderRows2Model" "overs" "[J", Cond.fieldLink RX2 22 "OrderRows2Model" "froms" "[J", Cond.fieldLink RX2 26 "OrderRows2Model" "untils" "[J", Cond.methodLink RX2 80 yX2_isOrder, Cond.instanceMethod yX2_isOrder, Cond.selects RX2 yX2_isOrder yX2_isOrder, Cond.initialized RX2, Cond.code yX2_isOrder cX2_isOrder 2 (some .boolean), Cond.fieldLink RX2 55 "OrderRows2Model" "orders" "I", Cond.methodLink RX2 58 yX2_isIn, Cond.static yX2_isIn, Cond.code yX2_isIn cX2_isIn 6 (some .boolean), Cond.methodLink RX2 84 yX2_isDay, Cond.instanceMethod yX2_isDay, Cond.selects RX2 yX2_isDay yX2_isDay, Cond.code yX2_isDay cX2_isDay 3 (some .boolean), Cond.fieldLink RX2 62 "OrderRows2Model" "now" "J", Cond.constantLong RX2 66 (20000), Cond.methodLink RX2 88 yX2_set, Cond.instanceMethod yX2_set, Cond.selects RX2 yX2_set yX2_set, Cond.code yX2_set cX2_set 5 (some .int), Cond.fieldLink RX2 32 "OrderRows2Model" "proved" "[Z"]
def wsX2_withdraw_r2 : List Cond := [Cond.fieldLink RX2 29 "OrderRows2Model" "made" "[J", Cond.constantLong RX2 76 (14), Cond.constantLong RX2 78 (15)]
def wsX2_withdraw : List Cond := .code yX2_withdraw cX2_withdraw 8 (some .int) :: ((wsX2_withdraw_r1 ++ wsX2_withdraw_r2) ++ wsX20)
def wsX2_isForce : List Cond := .code yX2_isForce cX2_isForce 4 (some .boolean) :: ([.fieldLink RX2 22 "OrderRows2Model" "froms" "[J", .fieldLink RX2 26 "OrderRows2Model" "untils" "[J", .fieldLink RX2 36 "OrderRows2Model" "overs" "[J", .methodLink RX2 58 yX2_isIn, .static yX2_isIn, .initialized RX2, .code yX2_isIn cX2_isIn 6 (some .boolean)] ++ wsX20)
def wsX2_find : List Cond := .code yX2_find cX2_find 9 (some .int) :: ([.fieldLink RX2 55 "OrderRows2Model" "orders" "I", .fieldLink RX2 13 "OrderRows2Model" "entries" "[I", .fieldLink RX2 16 "OrderRows2Model" "persons" "[I", .fieldLink RX2 7 "OrderRows2Model" "kinds" "[I", .fieldLink RX2 39 "OrderRows2Model" "ranks" "[I", .methodLink RX2 92 yX2_isForce, .instanceMethod yX2_isForce, .selects RX2 yX2_isForce yX2_isForce, .initialized RX2, .code yX2_isForce cX2_isForce 4 (some .boolean), .fieldLink RX2 22 "OrderRows2Model" "froms" "[J", .fieldLink RX2 26 "OrderRows2Model" "untils" "[J", .fieldLink RX2 36 "OrderRows2Model" "overs" "[J", .methodLink RX2 58 yX2_isIn, .static yX2_isIn, .code yX2_isIn cX2_isIn 6 (some .boolean)] ++ wsX20)
def wsX2_effective_r1 : List Cond := [Cond.fieldLink RX2 52 "OrderRows2Model" "thrown" "I", Cond.constantLong RX2 68 (99), Cond.constantLong RX2 72 (49), Cond.constantLong RX2 96 (2), Cond.constantLong RX2 66 (20000), Cond.fieldLink RX2 42 "OrderRows2Model" "way" "[I", Cond.fieldLink RX2 7 "OrderRows2Model" "kinds" "[I", Cond.fieldLink RX2 19 "OrderRows2Model" "tos" "[I", Cond.fieldLink RX2 48 "OrderRows2Model" "ringSize" "I", Cond.fieldLink RX2 45 "OrderRows2Model" "ring" "[I", Cond.methodLink RX2 58 yX2_isIn, Cond.static yX2_isIn, Cond.initialized RX2, Cond.code yX2_isIn cX2_isIn 6 (some .boolean), Cond.methodLink RX2 98 yX2_find, Cond.instanceMethod yX2_find, Cond.selects RX2 yX2_find yX2_find, Cond.code yX2_find cX2_find 9 (some .int), Cond.fieldLink RX2 55 "OrderRows2Model" "orders" "I", Cond.fieldLink RX2 13 "OrderRows2Model" "entries" "[I", Cond.fieldLink RX2 16 "OrderRows2Model" "persons" "[I", Cond.fieldLink RX2 39 "OrderRows2Model" "ranks" "[I", Cond.methodLink RX2 92 yX2_isForce, Cond.instanceMethod yX2_isForce]
def wsX2_effective_r2 : List Cond := [Cond.selects RX2 yX2_isForce yX2_isForce, Cond.code yX2_isForce cX2_isForce 4 (some .boolean), Cond.fieldLink RX2 22 "OrderRows2Model" "froms" "[J", Cond.fieldLink RX2 26 "OrderRows2Model" "untils" "[J", Cond.fieldLink RX2 36 "OrderRows2Model" "overs" "[J"]
def wsX2_effective : List Cond := .code yX2_effective cX2_effective 10 (some .int) :: ((wsX2_effective_r1 ++ wsX2_effective_r2) ++ wsX20)
def wsX2_ring : List Cond := .code yX2_ring cX2_ring 2 (some .int) :: ([.fieldLink RX2 52 "OrderRows2Model" "thrown" "I", .fieldLink RX2 48 "OrderRows2Model" "ringSize" "I", .fieldLink RX2 45 "OrderRows2Model" "ring" "[I"] ++ wsX20)
def wsX2_rank : List Cond := .code yX2_rank cX2_rank 4 (some .int) :: ([.fieldLink RX2 52 "OrderRows2Model" "thrown" "I", .constantLong RX2 74 (8), .constantLong RX2 102 (100), .fieldLink RX2 39 "OrderRows2Model" "ranks" "[I", .methodLink RX2 58 yX2_isIn, .static yX2_isIn, .initialized RX2, .code yX2_isIn cX2_isIn 6 (some .boolean)] ++ wsX20)
def wsX2_tick : List Cond := .code yX2_tick cX2_tick 3 (some .int) :: ([.fieldLink RX2 52 "OrderRows2Model" "thrown" "I", .methodLink RX2 84 yX2_isDay, .instanceMethod yX2_isDay, .selects RX2 yX2_isDay yX2_isDay, .initialized RX2, .code yX2_isDay cX2_isDay 3 (some .boolean), .fieldLink RX2 62 "OrderRows2Model" "now" "J", .constantLong RX2 66 (20000), .methodLink RX2 58 yX2_isIn, .static yX2_isIn, .code yX2_isIn cX2_isIn 6 (some .boolean), .methodLink RX2 88 yX2_set, .instanceMethod yX2_set, .selects RX2 yX2_set yX2_set, .code yX2_set cX2_set 5 (some .int), .fieldLink RX2 55 "OrderRows2Model" "orders" "I", .fieldLink RX2 32 "OrderRows2Model" "proved" "[Z", .fieldLink RX2 36 "OrderRows2Model" "overs" "[J", .fieldLink RX2 29 "OrderRows2Model" "made" "[J", .constantLong RX2 76 (14), .constantLong RX2 78 (15)] ++ wsX20)
def wsX2_extend : List Cond := .code yX2_extend cX2_extend 5 (some .int) :: ([.fieldLink RX2 52 "OrderRows2Model" "thrown" "I", .constantLong RX2 66 (20000), .fieldLink RX2 36 "OrderRows2Model" "overs" "[J", .fieldLink RX2 26 "OrderRows2Model" "untils" "[J", .methodLink RX2 80 yX2_isOrder, .instanceMethod yX2_isOrder, .selects RX2 yX2_isOrder yX2_isOrder, .initialized RX2, .code yX2_isOrder cX2_isOrder 2 (some .boolean), .fieldLink RX2 55 "OrderRows2Model" "orders" "I", .methodLink RX2 58 yX2_isIn, .static yX2_isIn, .code yX2_isIn cX2_isIn 6 (some .boolean)] ++ wsX20)
def wsX2_told : List Cond := .code yX2_told cX2_told 6 (some .int) :: ([.fieldLink RX2 52 "OrderRows2Model" "thrown" "I", .constantLong RX2 72 (49), .fieldLink RX2 55 "OrderRows2Model" "orders" "I", .fieldLink RX2 16 "OrderRows2Model" "persons" "[I", .fieldLink RX2 32 "OrderRows2Model" "proved" "[Z", .fieldLink RX2 7 "OrderRows2Model" "kinds" "[I", .fieldLink RX2 62 "OrderRows2Model" "now" "J", .methodLink RX2 58 yX2_isIn, .static yX2_isIn, .initialized RX2, .code yX2_isIn cX2_isIn 6 (some .boolean), .methodLink RX2 92 yX2_isForce, .instanceMethod yX2_isForce, .selects RX2 yX2_isForce yX2_isForce, .code yX2_isForce cX2_isForce 4 (some .boolean), .fieldLink RX2 22 "OrderRows2Model" "froms" "[J", .fieldLink RX2 26 "OrderRows2Model" "untils" "[J", .fieldLink RX2 36 "OrderRows2Model" "overs" "[J"] ++ wsX20)
def wsJ9_max_7cf53 : List Cond := .code yJ9_max_7cf53 cJ9_max_7cf53 2 (some .int) :: ([])
def wsJ9_max_f86c9 : List Cond := .code yJ9_max_f86c9 cJ9_max_f86c9 4 (some .long) :: ([])
def wsJ9_min_7cf53 : List Cond := .code yJ9_min_7cf53 cJ9_min_7cf53 2 (some .int) :: ([])
def wsL_law_r1 : List Cond := [Cond.classLink RL 7 RX1, Cond.instantiable RX1 6, Cond.initialized RX1, Cond.classLink RL 10 RX2, Cond.instantiable RX2 17, Cond.initialized RX2, Cond.constantLong RL 13 (4294967295), Cond.methodLink RL 9 yX1_init, Cond.instanceMethod yX1_init, Cond.code yX1_init cX1_init 1 none, Cond.methodLink RX1 1 objectInit, Cond.instanceMethod objectInit, Cond.code objectInit ⟨#[0xb1]⟩ 1 none, Cond.classLink RX1 7 RJx4a65c, Cond.instantiable RJx4a65c 3, Cond.initialized RJx4a65c, Cond.fieldLink RX1 10 "OrderRows2" "orders" "Ljava/util/ArrayList;", Cond.arrayClass .int, Cond.fieldLink RX1 16 "OrderRows2" "rankOfKind" "[I", Cond.fieldLink RX1 20 "OrderRows2" "path" "[I", Cond.fieldLink RX1 23 "OrderRows2" "ringTold" "[I", Cond.fieldLink RX1 26 "OrderRows2" "ringLength" "I", Cond.fieldLink RX1 30 "OrderRows2" "clock" "J", Cond.methodLink RX1 9 yJx4a65c_init_da8c8]
def wsL_law_r2 : List Cond := [Cond.instanceMethod yJx4a65c_init_da8c8, Cond.code yJx4a65c_init_da8c8 cJx4a65c_init_da8c8 1 none, Cond.fieldLink RJx4a65c 39 "java/util/ArrayList" "DEFAULTCAPACITY_EMPTY_ELEMENTDATA" "[Ljava/lang/Object;", Cond.fieldLink RJx4a65c 9 "java/util/ArrayList" "elementData" "[Ljava/lang/Object;", Cond.methodLink RJx4a65c 1 yJxc12de_init_da8c8, Cond.instanceMethod yJxc12de_init_da8c8, Cond.initialized RJxc12de, Cond.code yJxc12de_init_da8c8 cJxc12de_init_da8c8 1 none, Cond.fieldLink RJxc12de 7 "java/util/AbstractList" "modCount" "I", Cond.methodLink RJxc12de 1 yJxa1e45_init_da8c8, Cond.instanceMethod yJxa1e45_init_da8c8, Cond.initialized RJxa1e45, Cond.code yJxa1e45_init_da8c8 cJxa1e45_init_da8c8 1 none, Cond.methodLink RJxa1e45 1 objectInit, Cond.methodLink RL 12 yX2_init, Cond.instanceMethod yX2_init, Cond.code yX2_init cX2_init 1 none, Cond.methodLink RX2 1 objectInit, Cond.fieldLink RX2 7 "OrderRows2Model" "kinds" "[I", Cond.fieldLink RX2 13 "OrderRows2Model" "entries" "[I", Cond.fieldLink RX2 16 "OrderRows2Model" "persons" "[I", Cond.fieldLink RX2 19 "OrderRows2Model" "tos" "[I", Cond.arrayClass .long, Cond.fieldLink RX2 22 "OrderRows2Model" "froms" "[J"]
def wsL_law_r3 : List Cond := [Cond.fieldLink RX2 26 "OrderRows2Model" "untils" "[J", Cond.fieldLink RX2 29 "OrderRows2Model" "made" "[J", Cond.arrayClass .boolean, Cond.fieldLink RX2 32 "OrderRows2Model" "proved" "[Z", Cond.fieldLink RX2 36 "OrderRows2Model" "overs" "[J", Cond.fieldLink RX2 39 "OrderRows2Model" "ranks" "[I", Cond.fieldLink RX2 42 "OrderRows2Model" "way" "[I", Cond.fieldLink RX2 45 "OrderRows2Model" "ring" "[I", Cond.fieldLink RX2 48 "OrderRows2Model" "ringSize" "I", Cond.methodLink RL 15 yX1_order, Cond.instanceMethod yX1_order, Cond.selects RX1 yX1_order yX1_order, Cond.code yX1_order cX1_order 10 (some .int), Cond.classLink RX1 56 RX0, Cond.instantiable RX0 9, Cond.initialized RX0, Cond.methodLink RX1 34 yX1_isKind, Cond.static yX1_isKind, Cond.code yX1_isKind cX1_isKind 1 (some .boolean), Cond.methodLink RX1 38 yX1_doneBy, Cond.static yX1_doneBy, Cond.code yX1_doneBy cX1_doneBy 1 (some .int), Cond.methodLink RX1 42 yX1_isAddress, Cond.static yX1_isAddress]
def wsL_law_r4 : List Cond := [Cond.code yX1_isAddress cX1_isAddress 1 (some .boolean), Cond.methodLink RX1 45 yX1_isPerson, Cond.static yX1_isPerson, Cond.code yX1_isPerson cX1_isPerson 1 (some .boolean), Cond.methodLink RX1 48 yX1_isDay, Cond.static yX1_isDay, Cond.code yX1_isDay cX1_isDay 2 (some .boolean), Cond.constantLong RX1 124 (20000), Cond.methodLink RX1 52 yJx4a65c_size_8abf5, Cond.instanceMethod yJx4a65c_size_8abf5, Cond.selects RJx4a65c yJx4a65c_size_8abf5 yJx4a65c_size_8abf5, Cond.code yJx4a65c_size_8abf5 cJx4a65c_size_8abf5 1 (some .int), Cond.fieldLink RJx4a65c 48 "java/util/ArrayList" "size" "I", Cond.methodLink RX1 58 yX0_init, Cond.instanceMethod yX0_init, Cond.code yX0_init cX0_init 11 none, Cond.methodLink RX0 3 objectInit, Cond.fieldLink RX0 9 "OrderRows2$Order" "kind" "I", Cond.fieldLink RX0 15 "OrderRows2$Order" "entry" "I", Cond.fieldLink RX0 18 "OrderRows2$Order" "who" "I", Cond.fieldLink RX0 21 "OrderRows2$Order" "to" "I", Cond.fieldLink RX0 24 "OrderRows2$Order" "from" "J", Cond.fieldLink RX0 28 "OrderRows2$Order" "until" "J", Cond.fieldLink RX0 31 "OrderRows2$Order" "made" "J"]
def wsL_law_r5 : List Cond := [Cond.constantLong RX0 34 (20001), Cond.fieldLink RX0 36 "OrderRows2$Order" "overFrom" "J", Cond.fieldLink RX0 39 "OrderRows2$Order" "isProved" "Z", Cond.methodLink RX1 61 yJx4a65c_add_9ea2d, Cond.instanceMethod yJx4a65c_add_9ea2d, Cond.selects RJx4a65c yJx4a65c_add_9ea2d yJx4a65c_add_9ea2d, Cond.code yJx4a65c_add_9ea2d cJx4a65c_add_9ea2d 2 (some .boolean), Cond.fieldLink RJx4a65c 63 "java/util/ArrayList" "modCount" "I", Cond.sameField "java/util/ArrayList" "java/util/AbstractList" "modCount" "I", Cond.methodLink RJx4a65c 131 yJx4a65c_add_72be8, Cond.instanceMethod yJx4a65c_add_72be8, Cond.selects RJx4a65c yJx4a65c_add_72be8 yJx4a65c_add_72be8, Cond.code yJx4a65c_add_72be8 cJx4a65c_add_72be8 4 none, Cond.methodLink RJx4a65c 129 yJx4a65c_grow_d5877, Cond.instanceMethod yJx4a65c_grow_d5877, Cond.selects RJx4a65c yJx4a65c_grow_d5877 yJx4a65c_grow_d5877, Cond.code yJx4a65c_grow_d5877 cJx4a65c_grow_d5877 1 (some (.array (.object "java/lang/Object"))), Cond.methodLink RJx4a65c 69 yJx4a65c_grow_92f84, Cond.instanceMethod yJx4a65c_grow_92f84, Cond.selects RJx4a65c yJx4a65c_grow_92f84 yJx4a65c_grow_92f84, Cond.code yJx4a65c_grow_92f84 cJx4a65c_grow_92f84 4 (some (.array (.object "java/lang/Object"))), Cond.methodLink RJx4a65c 79 Lib.Math.max.name, Cond.static Lib.Math.max.name, Cond.initialized "java/lang/Math"]
def wsL_law_r6 : List Cond := [Cond.code Lib.Math.max.name Lib.Math.max.code 2 (some .int), Cond.classLink RJx4a65c 7 "java/lang/Object", Cond.methodLink RJx4a65c 73 yJ8_newLength_cabcc, Cond.static yJ8_newLength_cabcc, Cond.initialized RJ8, Cond.code yJ8_newLength_cabcc cJ8_newLength_cabcc 4 (some .int), Cond.methodLink RJ8 194 Lib.Math.max.name, Cond.constant RJ8 200 (2147483639), Cond.methodLink RJ8 201 yJ8_hugeLength_7cf53, Cond.static yJ8_hugeLength_7cf53, Cond.code yJ8_hugeLength_7cf53 cJ8_hugeLength_7cf53 3 (some .int), Cond.methodLink RJx4a65c 66 yJ7_copyOf_1904c, Cond.static yJ7_copyOf_1904c, Cond.initialized RJ7, Cond.code yJ7_copyOf_1904c cJ7_copyOf_1904c 2 (some (.array (.object "java/lang/Object"))), Cond.methodLink RJ7 86 ⟨"java/lang/Object", "getClass", "()Ljava/lang/Class;"⟩, Cond.selects "[Ljava/lang/Object;" ⟨"java/lang/Object", "getClass", "()Ljava/lang/Class;"⟩ ⟨"java/lang/Object", "getClass", "()Ljava/lang/Class;"⟩, Cond.instanceMethod ⟨"java/lang/Object", "getClass", "()Ljava/lang/Class;"⟩, Cond.native ⟨"java/lang/Object", "getClass", "()Ljava/lang/Class;"⟩, Cond.methodLink RJ7 300 yJ7_copyOf_6403c, Cond.static yJ7_copyOf_6403c, Cond.code yJ7_copyOf_6403c cJ7_copyOf_6403c 4 (some (.array (.object "java/lang/Object"))), Cond.classLink RJ7 110 "[Ljava/lang/Object;", Cond.classLink RJ7 2 "java/lang/Object"]
def wsL_law_r7 : List Cond := [Cond.methodLink RJ7 304 Lib.Math.min.name, Cond.static Lib.Math.min.name, Cond.code Lib.Math.min.name Lib.Math.min.code 2 (some .int), Cond.methodLink RJ7 150 arraycopyName, Cond.native arraycopyName, Cond.static arraycopyName, Cond.initialized "java/lang/System", Cond.methodLink RL 19 yX2_order, Cond.instanceMethod yX2_order, Cond.selects RX2 yX2_order yX2_order, Cond.code yX2_order cX2_order 10 (some .int), Cond.fieldLink RX2 52 "OrderRows2Model" "thrown" "I", Cond.constantLong RX2 68 (99), Cond.constantLong RX2 70 (-1), Cond.constantLong RX2 72 (49), Cond.constantLong RX2 74 (8), Cond.constantLong RX2 66 (20000), Cond.fieldLink RX2 55 "OrderRows2Model" "orders" "I", Cond.fieldLink RX2 62 "OrderRows2Model" "now" "J", Cond.methodLink RX2 58 yX2_isIn, Cond.static yX2_isIn, Cond.code yX2_isIn cX2_isIn 6 (some .boolean), Cond.methodLink RL 20 yX1_proof, Cond.instanceMethod yX1_proof]
def wsL_law_r8 : List Cond := [Cond.selects RX1 yX1_proof yX1_proof, Cond.code yX1_proof cX1_proof 6 (some .int), Cond.fieldLink RX1 80 "OrderRows2$Order" "isProved" "Z", Cond.fieldLink RX1 84 "OrderRows2$Order" "overFrom" "J", Cond.methodLink RX1 65 yX1_find, Cond.instanceMethod yX1_find, Cond.selects RX1 yX1_find yX1_find, Cond.code yX1_find cX1_find 2 (some (.object "OrderRows2$Order")), Cond.classLink RX1 56 "OrderRows2$Order", Cond.methodLink RX1 114 yJx4a65c_get_915e3, Cond.instanceMethod yJx4a65c_get_915e3, Cond.selects RJx4a65c yJx4a65c_get_915e3 yJx4a65c_get_915e3, Cond.code yJx4a65c_get_915e3 cJx4a65c_get_915e3 2 (some (.object "java/lang/Object")), Cond.methodLink RJx4a65c 118 yJ15_checkIndex_7cf53, Cond.static yJ15_checkIndex_7cf53, Cond.initialized RJ15, Cond.code yJ15_checkIndex_7cf53 cJ15_checkIndex_7cf53 2 (some .int), Cond.methodLink RJ15 105 yJ3_checkIndex_8e157, Cond.static yJ3_checkIndex_8e157, Cond.initialized RJ3, Cond.code yJ3_checkIndex_8e157 cJ3_checkIndex_8e157 3 (some .int), Cond.methodLink RJx4a65c 123 yJx4a65c_elementData_915e3, Cond.instanceMethod yJx4a65c_elementData_915e3, Cond.selects RJx4a65c yJx4a65c_elementData_915e3 yJx4a65c_elementData_915e3]
def wsL_law_r9 : List Cond := [Cond.code yJx4a65c_elementData_915e3 cJx4a65c_elementData_915e3 2 (some (.object "java/lang/Object")), Cond.methodLink RX1 69 yX1_canBeClock, Cond.instanceMethod yX1_canBeClock, Cond.selects RX1 yX1_canBeClock yX1_canBeClock, Cond.code yX1_canBeClock cX1_canBeClock 3 (some .boolean), Cond.methodLink RX1 72 yX1_moveClock, Cond.instanceMethod yX1_moveClock, Cond.selects RX1 yX1_moveClock yX1_moveClock, Cond.code yX1_moveClock cX1_moveClock 5 (some .int), Cond.methodLink RX1 126 yX0_lapseIfDue, Cond.instanceMethod yX0_lapseIfDue, Cond.selects RX0 yX0_lapseIfDue yX0_lapseIfDue, Cond.code yX0_lapseIfDue cX0_lapseIfDue 3 (some .boolean), Cond.constantLong RX0 57 (14), Cond.methodLink RX0 53 yX0_isOver, Cond.instanceMethod yX0_isOver, Cond.selects RX0 yX0_isOver yX0_isOver, Cond.code yX0_isOver cX0_isOver 1 (some .boolean), Cond.methodLink RX1 76 yX0_isOver, Cond.methodLink RL 24 yX2_proof, Cond.instanceMethod yX2_proof, Cond.selects RX2 yX2_proof yX2_proof, Cond.code yX2_proof cX2_proof 6 (some .int), Cond.methodLink RX2 80 yX2_isOrder]
def wsL_law_r10 : List Cond := [Cond.instanceMethod yX2_isOrder, Cond.selects RX2 yX2_isOrder yX2_isOrder, Cond.code yX2_isOrder cX2_isOrder 2 (some .boolean), Cond.methodLink RX2 84 yX2_isDay, Cond.instanceMethod yX2_isDay, Cond.selects RX2 yX2_isDay yX2_isDay, Cond.code yX2_isDay cX2_isDay 3 (some .boolean), Cond.methodLink RX2 88 yX2_set, Cond.instanceMethod yX2_set, Cond.selects RX2 yX2_set yX2_set, Cond.code yX2_set cX2_set 5 (some .int), Cond.constantLong RX2 76 (14), Cond.constantLong RX2 78 (15), Cond.methodLink RL 25 yX1_withdraw, Cond.instanceMethod yX1_withdraw, Cond.selects RX1 yX1_withdraw yX1_withdraw, Cond.code yX1_withdraw cX1_withdraw 5 (some .int), Cond.methodLink RX1 87 yX0_daysOfSpanFrom, Cond.instanceMethod yX0_daysOfSpanFrom, Cond.selects RX0 yX0_daysOfSpanFrom yX0_daysOfSpanFrom, Cond.code yX0_daysOfSpanFrom cX0_daysOfSpanFrom 5 (some .int), Cond.methodLink RX0 47 Lib.MathLoose.max_long.x, Cond.static Lib.MathLoose.max_long.x, Cond.code Lib.MathLoose.max_long.x Lib.MathLoose.max_long.code 4 (some .long)]
def wsL_law_r11 : List Cond := [Cond.methodLink RL 29 yX2_withdraw, Cond.instanceMethod yX2_withdraw, Cond.selects RX2 yX2_withdraw yX2_withdraw, Cond.code yX2_withdraw cX2_withdraw 8 (some .int), Cond.methodLink RL 30 yX1_effective, Cond.instanceMethod yX1_effective, Cond.selects RX1 yX1_effective yX1_effective, Cond.code yX1_effective cX1_effective 10 (some .int), Cond.fieldLink RX1 105 "OrderRows2$Order" "kind" "I", Cond.fieldLink RX1 108 "OrderRows2$Order" "to" "I", Cond.methodLink RX1 90 yX1_stepAt, Cond.instanceMethod yX1_stepAt, Cond.selects RX1 yX1_stepAt yX1_stepAt, Cond.code yX1_stepAt cX1_stepAt 4 (some .int), Cond.methodLink RX1 94 yX1_tellRing, Cond.instanceMethod yX1_tellRing, Cond.selects RX1 yX1_tellRing yX1_tellRing, Cond.code yX1_tellRing cX1_tellRing 4 none, Cond.methodLink RX1 98 yX1_strongest, Cond.instanceMethod yX1_strongest, Cond.selects RX1 yX1_strongest yX1_strongest, Cond.code yX1_strongest cX1_strongest 9 (some (.object "OrderRows2$Order")), Cond.methodLink RX1 129 yX0_concerns, Cond.instanceMethod yX0_concerns]
def wsL_law_r12 : List Cond := [Cond.selects RX0 yX0_concerns yX0_concerns, Cond.code yX0_concerns cX0_concerns 4 (some .boolean), Cond.methodLink RX1 121 yX0_isInForce, Cond.instanceMethod yX0_isInForce, Cond.selects RX0 yX0_isInForce yX0_isInForce, Cond.code yX0_isInForce cX0_isInForce 3 (some .boolean), Cond.methodLink RX1 102 yX0_sendsOn, Cond.instanceMethod yX0_sendsOn, Cond.selects RX0 yX0_sendsOn yX0_sendsOn, Cond.code yX0_sendsOn cX0_sendsOn 1 (some .boolean), Cond.methodLink RL 34 yX2_effective, Cond.instanceMethod yX2_effective, Cond.selects RX2 yX2_effective yX2_effective, Cond.code yX2_effective cX2_effective 10 (some .int), Cond.constantLong RX2 96 (2), Cond.methodLink RX2 98 yX2_find, Cond.instanceMethod yX2_find, Cond.selects RX2 yX2_find yX2_find, Cond.code yX2_find cX2_find 9 (some .int), Cond.methodLink RX2 92 yX2_isForce, Cond.instanceMethod yX2_isForce, Cond.selects RX2 yX2_isForce yX2_isForce, Cond.code yX2_isForce cX2_isForce 4 (some .boolean), Cond.methodLink RL 35 yX1_ring]
def wsL_law_r13 : List Cond := [Cond.instanceMethod yX1_ring, Cond.selects RX1 yX1_ring yX1_ring, Cond.code yX1_ring cX1_ring 2 (some .int), Cond.methodLink RL 39 yX2_ring, Cond.instanceMethod yX2_ring, Cond.selects RX2 yX2_ring yX2_ring, Cond.code yX2_ring cX2_ring 2 (some .int), Cond.methodLink RL 40 yX1_rank, Cond.instanceMethod yX1_rank, Cond.selects RX1 yX1_rank yX1_rank, Cond.code yX1_rank cX1_rank 4 (some .int), Cond.methodLink RL 44 yX2_rank, Cond.instanceMethod yX2_rank, Cond.selects RX2 yX2_rank yX2_rank, Cond.code yX2_rank cX2_rank 4 (some .int), Cond.constantLong RX2 102 (100), Cond.methodLink RL 45 yX1_tick, Cond.instanceMethod yX1_tick, Cond.selects RX1 yX1_tick yX1_tick, Cond.code yX1_tick cX1_tick 3 (some .int), Cond.methodLink RL 49 yX2_tick, Cond.instanceMethod yX2_tick, Cond.selects RX2 yX2_tick yX2_tick, Cond.code yX2_tick cX2_tick 3 (some .int)]
def wsL_law_r14 : List Cond := [Cond.methodLink RL 50 yX1_extend, Cond.instanceMethod yX1_extend, Cond.selects RX1 yX1_extend yX1_extend, Cond.code yX1_extend cX1_extend 5 (some .int), Cond.fieldLink RX1 111 "OrderRows2$Order" "until" "J", Cond.methodLink RL 53 yX2_extend, Cond.instanceMethod yX2_extend, Cond.selects RX2 yX2_extend yX2_extend, Cond.code yX2_extend cX2_extend 5 (some .int), Cond.methodLink RL 54 yX1_told, Cond.instanceMethod yX1_told, Cond.selects RX1 yX1_told yX1_told, Cond.code yX1_told cX1_told 6 (some .int), Cond.fieldLink RX1 118 "OrderRows2$Order" "who" "I", Cond.methodLink RL 57 yX2_told, Cond.instanceMethod yX2_told, Cond.selects RX2 yX2_told yX2_told, Cond.code yX2_told cX2_told 6 (some .int)]
def wsL_law : List Cond := (wsL_law_r1 ++ (wsL_law_r2 ++ (wsL_law_r3 ++ (wsL_law_r4 ++ (wsL_law_r5 ++ (wsL_law_r6 ++ (wsL_law_r7 ++ (wsL_law_r8 ++ (wsL_law_r9 ++ (wsL_law_r10 ++ (wsL_law_r11 ++ (wsL_law_r12 ++ (wsL_law_r13 ++ wsL_law_r14))))))))))))) ++ wsX10 ++ wsX20 ++ wsJx4a65c0 ++ wsX00 ++ ([] : List Cond)
set_option maxRecDepth 20000 in
theorem wsL_law_in : ∀ w ∈ wsL_law, w ∈ lw_tbl := fun w h => (goodIn_p wsL_law [31, 34, 39, 42, 45, 301, 84, 87, 90, 93, 96, 99, 104, 109, 149, 153, 157, 161, 167, 164, 171, 174, 185, 191, 359, 363, 200, 204, 208, 211, 214, 218, 222, 226, 230, 234, 371, 375, 379, 383, 240, 244, 247, 389, 251, 255, 259, 263, 267, 271, 275, 393, 398, 402, 280, 406, 284, 410, 288, 415, 292, 419, 296, 423] (by decide +kernel) (by decide +kernel) w h).1
theorem inlX0 : ∀ w ∈ wsX00, w ∈ wsL_law := fun _ h => List.mem_append_left _ (List.mem_append_right _ h)
theorem inX0 : ∀ w ∈ wsX00, w ∈ lw_tbl := fun w h => wsL_law_in w (inlX0 w h)
theorem inlX1 : ∀ w ∈ wsX10, w ∈ wsL_law := fun _ h => List.mem_append_left _ (List.mem_append_left _ (List.mem_append_left _ (List.mem_append_left _ (List.mem_append_right _ h))))
theorem inX1 : ∀ w ∈ wsX10, w ∈ lw_tbl := fun w h => wsL_law_in w (inlX1 w h)
theorem inlX2 : ∀ w ∈ wsX20, w ∈ wsL_law := fun _ h => List.mem_append_left _ (List.mem_append_left _ (List.mem_append_left _ (List.mem_append_right _ h)))
theorem inX2 : ∀ w ∈ wsX20, w ∈ lw_tbl := fun w h => wsL_law_in w (inlX2 w h)
theorem inJx145de : ∀ w ∈ wsJx145de0, w ∈ lw_tbl := by decide +kernel
theorem inJx8e188 : ∀ w ∈ wsJx8e1880, w ∈ lw_tbl := by decide +kernel
theorem inJxab1ab : ∀ w ∈ wsJxab1ab0, w ∈ lw_tbl := by decide +kernel
theorem inJ9 : ∀ w ∈ wsJ90, w ∈ lw_tbl := by decide +kernel
theorem inJ10 : ∀ w ∈ wsJ100, w ∈ lw_tbl := by decide +kernel
theorem inJxa1e45 : ∀ w ∈ wsJxa1e450, w ∈ lw_tbl := by decide +kernel
theorem inJxc12de : ∀ w ∈ wsJxc12de0, w ∈ lw_tbl := by decide +kernel
theorem inlJx4a65c : ∀ w ∈ wsJx4a65c0, w ∈ wsL_law := fun _ h => List.mem_append_left _ (List.mem_append_left _ (List.mem_append_right _ h))
theorem inJx4a65c : ∀ w ∈ wsJx4a65c0, w ∈ lw_tbl := fun w h => wsL_law_in w (inlJx4a65c w h)
theorem inJ7 : ∀ w ∈ wsJ70, w ∈ lw_tbl := by decide +kernel
theorem inJx5ef63 : ∀ w ∈ wsJx5ef630, w ∈ lw_tbl := by decide +kernel
theorem inJxbd725 : ∀ w ∈ wsJxbd7250, w ∈ lw_tbl := by decide +kernel
theorem inJ15 : ∀ w ∈ wsJ150, w ∈ lw_tbl := by decide +kernel
theorem inJxf0a74 : ∀ w ∈ wsJxf0a740, w ∈ lw_tbl := by decide +kernel
theorem inJxa66e6 : ∀ w ∈ wsJxa66e60, w ∈ lw_tbl := by decide +kernel
theorem inJ8 : ∀ w ∈ wsJ80, w ∈ lw_tbl := by decide +kernel
theorem inJ3 : ∀ w ∈ wsJ30, w ∈ lw_tbl := by decide +kernel
theorem dX0_init_0 : decode cX0_init 0 = .ok (.aload_n 0, 1) := by decide +kernel
theorem dX0_init_1 : decode cX0_init 1 = .ok (.invokespecial 3, 3) := by decide +kernel
theorem dX0_init_4 : decode cX0_init 4 = .ok (.aload_n 0, 1) := by decide +kernel
theorem dX0_init_5 : decode cX0_init 5 = .ok (.iload_n 1, 1) := by decide +kernel
theorem dX0_init_6 : decode cX0_init 6 = .ok (.putfield 9, 3) := by decide +kernel
theorem dX0_init_9 : decode cX0_init 9 = .ok (.aload_n 0, 1) := by decide +kernel
theorem dX0_init_10 : decode cX0_init 10 = .ok (.iload_n 2, 1) := by decide +kernel
theorem dX0_init_11 : decode cX0_init 11 = .ok (.putfield 15, 3) := by decide +kernel
theorem dX0_init_14 : decode cX0_init 14 = .ok (.aload_n 0, 1) := by decide +kernel
theorem dX0_init_15 : decode cX0_init 15 = .ok (.iload_n 3, 1) := by decide +kernel
theorem dX0_init_16 : decode cX0_init 16 = .ok (.putfield 18, 3) := by decide +kernel
theorem dX0_init_19 : decode cX0_init 19 = .ok (.aload_n 0, 1) := by decide +kernel
theorem dX0_init_20 : decode cX0_init 20 = .ok (.iload 4, 2) := by decide +kernel
theorem dX0_init_22 : decode cX0_init 22 = .ok (.putfield 21, 3) := by decide +kernel
theorem dX0_init_25 : decode cX0_init 25 = .ok (.aload_n 0, 1) := by decide +kernel
theorem dX0_init_26 : decode cX0_init 26 = .ok (.lload 5, 2) := by decide +kernel
theorem dX0_init_28 : decode cX0_init 28 = .ok (.putfield 24, 3) := by decide +kernel
theorem dX0_init_31 : decode cX0_init 31 = .ok (.aload_n 0, 1) := by decide +kernel
theorem dX0_init_32 : decode cX0_init 32 = .ok (.lload 7, 2) := by decide +kernel
theorem dX0_init_34 : decode cX0_init 34 = .ok (.putfield 28, 3) := by decide +kernel
theorem dX0_init_37 : decode cX0_init 37 = .ok (.aload_n 0, 1) := by decide +kernel
theorem dX0_init_38 : decode cX0_init 38 = .ok (.lload 9, 2) := by decide +kernel
theorem dX0_init_40 : decode cX0_init 40 = .ok (.putfield 31, 3) := by decide +kernel
theorem dX0_init_43 : decode cX0_init 43 = .ok (.aload_n 0, 1) := by decide +kernel
theorem dX0_init_44 : decode cX0_init 44 = .ok (.ldc2_w 34, 3) := by decide +kernel
theorem dX0_init_47 : decode cX0_init 47 = .ok (.putfield 36, 3) := by decide +kernel
theorem dX0_init_50 : decode cX0_init 50 = .ok (.aload_n 0, 1) := by decide +kernel
theorem dX0_init_51 : decode cX0_init 51 = .ok (.iconst 0, 1) := by decide +kernel
theorem dX0_init_52 : decode cX0_init 52 = .ok (.putfield 39, 3) := by decide +kernel
theorem dX0_init_55 : decode cX0_init 55 = .ok (.return_, 1) := by decide +kernel
theorem dX0_isOver_0 : decode cX0_isOver 0 = .ok (.aload_n 0, 1) := by decide +kernel
theorem dX0_isOver_1 : decode cX0_isOver 1 = .ok (.getfield 36, 3) := by decide +kernel
theorem dX0_isOver_4 : decode cX0_isOver 4 = .ok (.ldc2_w 34, 3) := by decide +kernel
theorem dX0_isOver_7 : decode cX0_isOver 7 = .ok (.lcmp, 1) := by decide +kernel
theorem dX0_isOver_8 : decode cX0_isOver 8 = .ok (.ifCond .eq 7, 3) := by decide +kernel
theorem dX0_isOver_11 : decode cX0_isOver 11 = .ok (.iconst 1, 1) := by decide +kernel
theorem dX0_isOver_12 : decode cX0_isOver 12 = .ok (.goto 4, 3) := by decide +kernel
theorem dX0_isOver_15 : decode cX0_isOver 15 = .ok (.iconst 0, 1) := by decide +kernel
theorem dX0_isOver_16 : decode cX0_isOver 16 = .ok (.ireturn, 1) := by decide +kernel
set_option maxRecDepth 20000 in
theorem ggX0_sendsOn_X1_doneBy : GoodIn wsX0_sendsOn wsX1_doneBy := goodIn_r _ [4] (by decide +kernel) (by decide +kernel)
set_option maxRecDepth 20000 in
theorem gX0_sendsOn_X1_doneBy_n43 : GoodIn wsX0_sendsOn (wsX1_doneBy) := ggX0_sendsOn_X1_doneBy
theorem dX0_sendsOn_0 : decode cX0_sendsOn 0 = .ok (.aload_n 0, 1) := by decide +kernel
theorem dX0_sendsOn_1 : decode cX0_sendsOn 1 = .ok (.getfield 9, 3) := by decide +kernel
theorem dX0_sendsOn_4 : decode cX0_sendsOn 4 = .ok (.invokestatic 43, 3) := by decide +kernel
theorem dX0_sendsOn_7 : decode cX0_sendsOn 7 = .ok (.ifCond .ne 7, 3) := by decide +kernel
theorem dX0_sendsOn_10 : decode cX0_sendsOn 10 = .ok (.iconst 1, 1) := by decide +kernel
theorem dX0_sendsOn_11 : decode cX0_sendsOn 11 = .ok (.goto 4, 3) := by decide +kernel
theorem dX0_sendsOn_14 : decode cX0_sendsOn 14 = .ok (.iconst 0, 1) := by decide +kernel
theorem dX0_sendsOn_15 : decode cX0_sendsOn 15 = .ok (.ireturn, 1) := by decide +kernel
theorem dX0_concerns_0 : decode cX0_concerns 0 = .ok (.aload_n 0, 1) := by decide +kernel
theorem dX0_concerns_1 : decode cX0_concerns 1 = .ok (.getfield 15, 3) := by decide +kernel
theorem dX0_concerns_4 : decode cX0_concerns 4 = .ok (.iload_n 1, 1) := by decide +kernel
theorem dX0_concerns_5 : decode cX0_concerns 5 = .ok (.if_icmp .ne 33, 3) := by decide +kernel
theorem dX0_concerns_8 : decode cX0_concerns 8 = .ok (.aload_n 0, 1) := by decide +kernel
theorem dX0_concerns_9 : decode cX0_concerns 9 = .ok (.getfield 18, 3) := by decide +kernel
theorem dX0_concerns_12 : decode cX0_concerns 12 = .ok (.iconst (-1), 1) := by decide +kernel
theorem dX0_concerns_13 : decode cX0_concerns 13 = .ok (.if_icmp .eq 11, 3) := by decide +kernel
theorem dX0_concerns_16 : decode cX0_concerns 16 = .ok (.aload_n 0, 1) := by decide +kernel
theorem dX0_concerns_17 : decode cX0_concerns 17 = .ok (.getfield 18, 3) := by decide +kernel
theorem dX0_concerns_20 : decode cX0_concerns 20 = .ok (.iload_n 2, 1) := by decide +kernel
theorem dX0_concerns_21 : decode cX0_concerns 21 = .ok (.if_icmp .ne 17, 3) := by decide +kernel
theorem dX0_concerns_24 : decode cX0_concerns 24 = .ok (.aload_n 0, 1) := by decide +kernel
theorem dX0_concerns_25 : decode cX0_concerns 25 = .ok (.getfield 9, 3) := by decide +kernel
theorem dX0_concerns_28 : decode cX0_concerns 28 = .ok (.iconst 3, 1) := by decide +kernel
theorem dX0_concerns_29 : decode cX0_concerns 29 = .ok (.irem, 1) := by decide +kernel
theorem dX0_concerns_30 : decode cX0_concerns 30 = .ok (.iload_n 3, 1) := by decide +kernel
theorem dX0_concerns_31 : decode cX0_concerns 31 = .ok (.if_icmp .ne 7, 3) := by decide +kernel
theorem dX0_concerns_34 : decode cX0_concerns 34 = .ok (.iconst 1, 1) := by decide +kernel
theorem dX0_concerns_35 : decode cX0_concerns 35 = .ok (.goto 4, 3) := by decide +kernel
theorem dX0_concerns_38 : decode cX0_concerns 38 = .ok (.iconst 0, 1) := by decide +kernel
theorem dX0_concerns_39 : decode cX0_concerns 39 = .ok (.ireturn, 1) := by decide +kernel
theorem dX0_isInForce_0 : decode cX0_isInForce 0 = .ok (.aload_n 0, 1) := by decide +kernel
theorem dX0_isInForce_1 : decode cX0_isInForce 1 = .ok (.getfield 24, 3) := by decide +kernel
theorem dX0_isInForce_4 : decode cX0_isInForce 4 = .ok (.lload_n 1, 1) := by decide +kernel
theorem dX0_isInForce_5 : decode cX0_isInForce 5 = .ok (.lcmp, 1) := by decide +kernel
theorem dX0_isInForce_6 : decode cX0_isInForce 6 = .ok (.ifCond .gt 25, 3) := by decide +kernel
theorem dX0_isInForce_9 : decode cX0_isInForce 9 = .ok (.lload_n 1, 1) := by decide +kernel
theorem dX0_isInForce_10 : decode cX0_isInForce 10 = .ok (.aload_n 0, 1) := by decide +kernel
theorem dX0_isInForce_11 : decode cX0_isInForce 11 = .ok (.getfield 28, 3) := by decide +kernel
theorem dX0_isInForce_14 : decode cX0_isInForce 14 = .ok (.lcmp, 1) := by decide +kernel
theorem dX0_isInForce_15 : decode cX0_isInForce 15 = .ok (.ifCond .gt 16, 3) := by decide +kernel
theorem dX0_isInForce_18 : decode cX0_isInForce 18 = .ok (.lload_n 1, 1) := by decide +kernel
theorem dX0_isInForce_19 : decode cX0_isInForce 19 = .ok (.aload_n 0, 1) := by decide +kernel
theorem dX0_isInForce_20 : decode cX0_isInForce 20 = .ok (.getfield 36, 3) := by decide +kernel
theorem dX0_isInForce_23 : decode cX0_isInForce 23 = .ok (.lcmp, 1) := by decide +kernel
theorem dX0_isInForce_24 : decode cX0_isInForce 24 = .ok (.ifCond .ge 7, 3) := by decide +kernel
theorem dX0_isInForce_27 : decode cX0_isInForce 27 = .ok (.iconst 1, 1) := by decide +kernel
theorem dX0_isInForce_28 : decode cX0_isInForce 28 = .ok (.goto 4, 3) := by decide +kernel
theorem dX0_isInForce_31 : decode cX0_isInForce 31 = .ok (.iconst 0, 1) := by decide +kernel
theorem dX0_isInForce_32 : decode cX0_isInForce 32 = .ok (.ireturn, 1) := by decide +kernel
theorem dX0_daysOfSpanFrom_0 : decode cX0_daysOfSpanFrom 0 = .ok (.aload_n 0, 1) := by decide +kernel
theorem dX0_daysOfSpanFrom_1 : decode cX0_daysOfSpanFrom 1 = .ok (.getfield 24, 3) := by decide +kernel
theorem dX0_daysOfSpanFrom_4 : decode cX0_daysOfSpanFrom 4 = .ok (.lload_n 1, 1) := by decide +kernel
theorem dX0_daysOfSpanFrom_5 : decode cX0_daysOfSpanFrom 5 = .ok (.invokestatic 47, 3) := by decide +kernel
theorem dX0_daysOfSpanFrom_8 : decode cX0_daysOfSpanFrom 8 = .ok (.lstore_n 3, 1) := by decide +kernel
theorem dX0_daysOfSpanFrom_9 : decode cX0_daysOfSpanFrom 9 = .ok (.lload_n 3, 1) := by decide +kernel
theorem dX0_daysOfSpanFrom_10 : decode cX0_daysOfSpanFrom 10 = .ok (.aload_n 0, 1) := by decide +kernel
theorem dX0_daysOfSpanFrom_11 : decode cX0_daysOfSpanFrom 11 = .ok (.getfield 28, 3) := by decide +kernel
theorem dX0_daysOfSpanFrom_14 : decode cX0_daysOfSpanFrom 14 = .ok (.lcmp, 1) := by decide +kernel
theorem dX0_daysOfSpanFrom_15 : decode cX0_daysOfSpanFrom 15 = .ok (.ifCond .le 7, 3) := by decide +kernel
theorem dX0_daysOfSpanFrom_18 : decode cX0_daysOfSpanFrom 18 = .ok (.iconst 0, 1) := by decide +kernel
theorem dX0_daysOfSpanFrom_19 : decode cX0_daysOfSpanFrom 19 = .ok (.goto 12, 3) := by decide +kernel
theorem dX0_daysOfSpanFrom_22 : decode cX0_daysOfSpanFrom 22 = .ok (.aload_n 0, 1) := by decide +kernel
theorem dX0_daysOfSpanFrom_23 : decode cX0_daysOfSpanFrom 23 = .ok (.getfield 28, 3) := by decide +kernel
theorem dX0_daysOfSpanFrom_26 : decode cX0_daysOfSpanFrom 26 = .ok (.lload_n 3, 1) := by decide +kernel
theorem dX0_daysOfSpanFrom_27 : decode cX0_daysOfSpanFrom 27 = .ok (.lsub, 1) := by decide +kernel
theorem dX0_daysOfSpanFrom_28 : decode cX0_daysOfSpanFrom 28 = .ok (.lconst 1, 1) := by decide +kernel
theorem dX0_daysOfSpanFrom_29 : decode cX0_daysOfSpanFrom 29 = .ok (.ladd, 1) := by decide +kernel
theorem dX0_daysOfSpanFrom_30 : decode cX0_daysOfSpanFrom 30 = .ok (.l2i, 1) := by decide +kernel
theorem dX0_daysOfSpanFrom_31 : decode cX0_daysOfSpanFrom 31 = .ok (.ireturn, 1) := by decide +kernel
set_option maxRecDepth 20000 in
theorem ggX0_lapseIfDue_X0_isOver : GoodIn wsX0_lapseIfDue wsX0_isOver := goodIn_r _ [9, 4, 10, 11, 12, 13, 14, 15, 16, 17, 18, 19] (by decide +kernel) (by decide +kernel)
set_option maxRecDepth 20000 in
theorem gX0_lapseIfDue_X0_isOver : GoodIn wsX0_lapseIfDue (wsV RX0 53 RX0 yX0_isOver wsX0_isOver) := goodIn_app (goodIn_of _ (by decide +kernel)) ggX0_lapseIfDue_X0_isOver
theorem dX0_lapseIfDue_0 : decode cX0_lapseIfDue 0 = .ok (.aload_n 0, 1) := by decide +kernel
theorem dX0_lapseIfDue_1 : decode cX0_lapseIfDue 1 = .ok (.getfield 39, 3) := by decide +kernel
theorem dX0_lapseIfDue_4 : decode cX0_lapseIfDue 4 = .ok (.ifCond .ne 23, 3) := by decide +kernel
theorem dX0_lapseIfDue_7 : decode cX0_lapseIfDue 7 = .ok (.aload_n 0, 1) := by decide +kernel
theorem dX0_lapseIfDue_8 : decode cX0_lapseIfDue 8 = .ok (.invokevirtual 53, 3) := by decide +kernel
theorem dX0_lapseIfDue_11 : decode cX0_lapseIfDue 11 = .ok (.ifCond .ne 16, 3) := by decide +kernel
theorem dX0_lapseIfDue_14 : decode cX0_lapseIfDue 14 = .ok (.lload_n 1, 1) := by decide +kernel
theorem dX0_lapseIfDue_15 : decode cX0_lapseIfDue 15 = .ok (.aload_n 0, 1) := by decide +kernel
theorem dX0_lapseIfDue_16 : decode cX0_lapseIfDue 16 = .ok (.getfield 31, 3) := by decide +kernel
theorem dX0_lapseIfDue_19 : decode cX0_lapseIfDue 19 = .ok (.ldc2_w 57, 3) := by decide +kernel
theorem dX0_lapseIfDue_22 : decode cX0_lapseIfDue 22 = .ok (.ladd, 1) := by decide +kernel
theorem dX0_lapseIfDue_23 : decode cX0_lapseIfDue 23 = .ok (.lcmp, 1) := by decide +kernel
theorem dX0_lapseIfDue_24 : decode cX0_lapseIfDue 24 = .ok (.ifCond .gt 5, 3) := by decide +kernel
theorem dX0_lapseIfDue_27 : decode cX0_lapseIfDue 27 = .ok (.iconst 0, 1) := by decide +kernel
theorem dX0_lapseIfDue_28 : decode cX0_lapseIfDue 28 = .ok (.ireturn, 1) := by decide +kernel
theorem dX0_lapseIfDue_29 : decode cX0_lapseIfDue 29 = .ok (.aload_n 0, 1) := by decide +kernel
theorem dX0_lapseIfDue_30 : decode cX0_lapseIfDue 30 = .ok (.aload_n 0, 1) := by decide +kernel
theorem dX0_lapseIfDue_31 : decode cX0_lapseIfDue 31 = .ok (.getfield 31, 3) := by decide +kernel
theorem dX0_lapseIfDue_34 : decode cX0_lapseIfDue 34 = .ok (.ldc2_w 57, 3) := by decide +kernel
theorem dX0_lapseIfDue_37 : decode cX0_lapseIfDue 37 = .ok (.ladd, 1) := by decide +kernel
theorem dX0_lapseIfDue_38 : decode cX0_lapseIfDue 38 = .ok (.lconst 1, 1) := by decide +kernel
theorem dX0_lapseIfDue_39 : decode cX0_lapseIfDue 39 = .ok (.ladd, 1) := by decide +kernel
theorem dX0_lapseIfDue_40 : decode cX0_lapseIfDue 40 = .ok (.putfield 36, 3) := by decide +kernel
theorem dX0_lapseIfDue_43 : decode cX0_lapseIfDue 43 = .ok (.iconst 1, 1) := by decide +kernel
theorem dX0_lapseIfDue_44 : decode cX0_lapseIfDue 44 = .ok (.ireturn, 1) := by decide +kernel
set_option maxRecDepth 20000 in
theorem ggX1_init_Jx4a65c_init_da8c8 : GoodIn wsX1_init wsJx4a65c_init_da8c8 := goodIn_r _ [16, 17, 18, 19, 20, 21, 22, 23, 24, 25, 26, 27, 28, 2, 3, 29, 30, 31] (by decide +kernel) (by decide +kernel)
set_option maxRecDepth 20000 in
theorem gX1_init_Jx4a65c_init_da8c8 : GoodIn wsX1_init (wsJx4a65c_init_da8c8) := ggX1_init_Jx4a65c_init_da8c8
theorem dX1_init_0 : decode cX1_init 0 = .ok (.aload_n 0, 1) := by decide +kernel
theorem dX1_init_1 : decode cX1_init 1 = .ok (.invokespecial 1, 3) := by decide +kernel
theorem dX1_init_4 : decode cX1_init 4 = .ok (.aload_n 0, 1) := by decide +kernel
theorem dX1_init_5 : decode cX1_init 5 = .ok (.new 7, 3) := by decide +kernel
theorem dX1_init_8 : decode cX1_init 8 = .ok (.dup, 1) := by decide +kernel
theorem dX1_init_9 : decode cX1_init 9 = .ok (.invokespecial 9, 3) := by decide +kernel
theorem dX1_init_12 : decode cX1_init 12 = .ok (.putfield 10, 3) := by decide +kernel
theorem dX1_init_15 : decode cX1_init 15 = .ok (.aload_n 0, 1) := by decide +kernel
theorem dX1_init_16 : decode cX1_init 16 = .ok (.bipush 9, 2) := by decide +kernel
theorem dX1_init_18 : decode cX1_init 18 = .ok (.newarray .int, 2) := by decide +kernel
theorem dX1_init_20 : decode cX1_init 20 = .ok (.putfield 16, 3) := by decide +kernel
theorem dX1_init_23 : decode cX1_init 23 = .ok (.aload_n 0, 1) := by decide +kernel
theorem dX1_init_24 : decode cX1_init 24 = .ok (.bipush 100, 2) := by decide +kernel
theorem dX1_init_26 : decode cX1_init 26 = .ok (.newarray .int, 2) := by decide +kernel
theorem dX1_init_28 : decode cX1_init 28 = .ok (.putfield 20, 3) := by decide +kernel
theorem dX1_init_31 : decode cX1_init 31 = .ok (.aload_n 0, 1) := by decide +kernel
theorem dX1_init_32 : decode cX1_init 32 = .ok (.bipush 100, 2) := by decide +kernel
theorem dX1_init_34 : decode cX1_init 34 = .ok (.newarray .int, 2) := by decide +kernel
theorem dX1_init_36 : decode cX1_init 36 = .ok (.putfield 23, 3) := by decide +kernel
theorem dX1_init_39 : decode cX1_init 39 = .ok (.aload_n 0, 1) := by decide +kernel
theorem dX1_init_40 : decode cX1_init 40 = .ok (.iconst 0, 1) := by decide +kernel
theorem dX1_init_41 : decode cX1_init 41 = .ok (.putfield 26, 3) := by decide +kernel
theorem dX1_init_44 : decode cX1_init 44 = .ok (.aload_n 0, 1) := by decide +kernel
theorem dX1_init_45 : decode cX1_init 45 = .ok (.lconst 0, 1) := by decide +kernel
theorem dX1_init_46 : decode cX1_init 46 = .ok (.putfield 30, 3) := by decide +kernel
theorem dX1_init_49 : decode cX1_init 49 = .ok (.return_, 1) := by decide +kernel
set_option maxRecDepth 20000 in
theorem ggX1_order_X1_isKind : GoodIn wsX1_order wsX1_isKind := goodIn_r _ [9] (by decide +kernel) (by decide +kernel)
set_option maxRecDepth 20000 in
theorem gX1_order_X1_isKind : GoodIn wsX1_order (va_wsS RX1 34 yX1_isKind wsX1_isKind) := goodIn_app (goodIn_of _ (by decide +kernel)) ggX1_order_X1_isKind
set_option maxRecDepth 20000 in
theorem ggX1_order_X1_doneBy : GoodIn wsX1_order wsX1_doneBy := goodIn_r _ [12] (by decide +kernel) (by decide +kernel)
set_option maxRecDepth 20000 in
theorem gX1_order_X1_doneBy : GoodIn wsX1_order (va_wsS RX1 38 yX1_doneBy wsX1_doneBy) := goodIn_app (goodIn_of _ (by decide +kernel)) ggX1_order_X1_doneBy
set_option maxRecDepth 20000 in
theorem ggX1_order_X1_isAddress : GoodIn wsX1_order wsX1_isAddress := goodIn_r _ [15] (by decide +kernel) (by decide +kernel)
set_option maxRecDepth 20000 in
theorem gX1_order_X1_isAddress : GoodIn wsX1_order (va_wsS RX1 42 yX1_isAddress wsX1_isAddress) := goodIn_app (goodIn_of _ (by decide +kernel)) ggX1_order_X1_isAddress
set_option maxRecDepth 20000 in
theorem ggX1_order_X1_isPerson : GoodIn wsX1_order wsX1_isPerson := goodIn_r _ [18] (by decide +kernel) (by decide +kernel)
set_option maxRecDepth 20000 in
theorem gX1_order_X1_isPerson : GoodIn wsX1_order (va_wsS RX1 45 yX1_isPerson wsX1_isPerson) := goodIn_app (goodIn_of _ (by decide +kernel)) ggX1_order_X1_isPerson
set_option maxRecDepth 20000 in
theorem ggX1_order_X1_isDay : GoodIn wsX1_order wsX1_isDay := goodIn_r _ [21, 22] (by decide +kernel) (by decide +kernel)
set_option maxRecDepth 20000 in
theorem gX1_order_X1_isDay : GoodIn wsX1_order (va_wsS RX1 48 yX1_isDay wsX1_isDay) := goodIn_app (goodIn_of _ (by decide +kernel)) ggX1_order_X1_isDay
set_option maxRecDepth 20000 in
theorem ggX1_order_Jx4a65c_size_8abf5 : GoodIn wsX1_order wsJx4a65c_size_8abf5 := goodIn_r _ [27, 28, 114, 115, 116] (by decide +kernel) (by decide +kernel)
set_option maxRecDepth 20000 in
theorem gX1_order_Jx4a65c_size_8abf5 : GoodIn wsX1_order (wsV RX1 52 RJx4a65c yJx4a65c_size_8abf5 wsJx4a65c_size_8abf5) := goodIn_app (goodIn_of _ (by decide +kernel)) ggX1_order_Jx4a65c_size_8abf5
set_option maxRecDepth 20000 in
theorem ggX1_order_X0_init : GoodIn wsX1_order wsX0_init := goodIn_r _ [31, 32, 33, 34, 35, 36, 37, 38, 39, 40, 41, 42, 43, 44, 105, 106, 107, 108, 109, 110, 111, 112, 113] (by decide +kernel) (by decide +kernel)
set_option maxRecDepth 20000 in
theorem gX1_order_X0_init : GoodIn wsX1_order (wsX0_init) := ggX1_order_X0_init
set_option maxRecDepth 20000 in
theorem ggX1_order_Jx4a65c_add_9ea2d : GoodIn wsX1_order wsJx4a65c_add_9ea2d := goodIn_r _ [48, 49, 50, 51, 28, 52, 53, 54, 26, 55, 56, 57, 58, 59, 60, 61, 62, 63, 64, 65, 66, 67, 68, 69, 70, 71, 72, 73, 74, 75, 76, 77, 78, 79, 80, 81, 82, 83, 84, 85, 86, 87, 88, 89, 90, 91, 92, 93, 94, 95, 96, 97, 98, 114, 115, 116] (by decide +kernel) (by decide +kernel)
set_option maxRecDepth 20000 in
theorem gX1_order_Jx4a65c_add_9ea2d : GoodIn wsX1_order (wsV RX1 61 RJx4a65c yJx4a65c_add_9ea2d wsJx4a65c_add_9ea2d) := goodIn_app (goodIn_of _ (by decide +kernel)) ggX1_order_Jx4a65c_add_9ea2d
theorem dX1_order_0 : decode cX1_order 0 = .ok (.iload_n 1, 1) := by decide +kernel
theorem dX1_order_1 : decode cX1_order 1 = .ok (.invokestatic 34, 3) := by decide +kernel
theorem dX1_order_4 : decode cX1_order 4 = .ok (.ifCond .eq 14, 3) := by decide +kernel
theorem dX1_order_7 : decode cX1_order 7 = .ok (.iload_n 1, 1) := by decide +kernel
theorem dX1_order_8 : decode cX1_order 8 = .ok (.invokestatic 38, 3) := by decide +kernel
theorem dX1_order_11 : decode cX1_order 11 = .ok (.ifCond .ne 7, 3) := by decide +kernel
theorem dX1_order_14 : decode cX1_order 14 = .ok (.iconst 1, 1) := by decide +kernel
theorem dX1_order_15 : decode cX1_order 15 = .ok (.goto 4, 3) := by decide +kernel
theorem dX1_order_18 : decode cX1_order 18 = .ok (.iconst 0, 1) := by decide +kernel
theorem dX1_order_19 : decode cX1_order 19 = .ok (.istore 9, 2) := by decide +kernel
theorem dX1_order_21 : decode cX1_order 21 = .ok (.iload_n 2, 1) := by decide +kernel
theorem dX1_order_22 : decode cX1_order 22 = .ok (.invokestatic 42, 3) := by decide +kernel
theorem dX1_order_25 : decode cX1_order 25 = .ok (.ifCond .eq 28, 3) := by decide +kernel
theorem dX1_order_28 : decode cX1_order 28 = .ok (.iload_n 3, 1) := by decide +kernel
theorem dX1_order_29 : decode cX1_order 29 = .ok (.iconst (-1), 1) := by decide +kernel
theorem dX1_order_30 : decode cX1_order 30 = .ok (.if_icmp .eq 10, 3) := by decide +kernel
theorem dX1_order_33 : decode cX1_order 33 = .ok (.iload_n 3, 1) := by decide +kernel
theorem dX1_order_34 : decode cX1_order 34 = .ok (.invokestatic 45, 3) := by decide +kernel
theorem dX1_order_37 : decode cX1_order 37 = .ok (.ifCond .eq 16, 3) := by decide +kernel
theorem dX1_order_40 : decode cX1_order 40 = .ok (.iload 9, 2) := by decide +kernel
theorem dX1_order_42 : decode cX1_order 42 = .ok (.ifCond .eq 14, 3) := by decide +kernel
theorem dX1_order_45 : decode cX1_order 45 = .ok (.iload 4, 2) := by decide +kernel
theorem dX1_order_47 : decode cX1_order 47 = .ok (.invokestatic 42, 3) := by decide +kernel
theorem dX1_order_50 : decode cX1_order 50 = .ok (.ifCond .ne 6, 3) := by decide +kernel
theorem dX1_order_53 : decode cX1_order 53 = .ok (.bipush (-101), 2) := by decide +kernel
theorem dX1_order_55 : decode cX1_order 55 = .ok (.ireturn, 1) := by decide +kernel
theorem dX1_order_56 : decode cX1_order 56 = .ok (.iload_n 1, 1) := by decide +kernel
theorem dX1_order_57 : decode cX1_order 57 = .ok (.invokestatic 34, 3) := by decide +kernel
theorem dX1_order_60 : decode cX1_order 60 = .ok (.ifCond .eq 38, 3) := by decide +kernel
theorem dX1_order_63 : decode cX1_order 63 = .ok (.lload 5, 2) := by decide +kernel
theorem dX1_order_65 : decode cX1_order 65 = .ok (.invokestatic 48, 3) := by decide +kernel
theorem dX1_order_68 : decode cX1_order 68 = .ok (.ifCond .eq 30, 3) := by decide +kernel
theorem dX1_order_71 : decode cX1_order 71 = .ok (.lload 7, 2) := by decide +kernel
theorem dX1_order_73 : decode cX1_order 73 = .ok (.invokestatic 48, 3) := by decide +kernel
theorem dX1_order_76 : decode cX1_order 76 = .ok (.ifCond .eq 22, 3) := by decide +kernel
theorem dX1_order_79 : decode cX1_order 79 = .ok (.lload 7, 2) := by decide +kernel
theorem dX1_order_81 : decode cX1_order 81 = .ok (.lload 5, 2) := by decide +kernel
theorem dX1_order_83 : decode cX1_order 83 = .ok (.lcmp, 1) := by decide +kernel
theorem dX1_order_84 : decode cX1_order 84 = .ok (.ifCond .lt 14, 3) := by decide +kernel
theorem dX1_order_87 : decode cX1_order 87 = .ok (.iload 9, 2) := by decide +kernel
theorem dX1_order_89 : decode cX1_order 89 = .ok (.ifCond .eq 12, 3) := by decide +kernel
theorem dX1_order_92 : decode cX1_order 92 = .ok (.iload 4, 2) := by decide +kernel
theorem dX1_order_94 : decode cX1_order 94 = .ok (.iload_n 2, 1) := by decide +kernel
theorem dX1_order_95 : decode cX1_order 95 = .ok (.if_icmp .ne 6, 3) := by decide +kernel
theorem dX1_order_98 : decode cX1_order 98 = .ok (.bipush (-102), 2) := by decide +kernel
theorem dX1_order_100 : decode cX1_order 100 = .ok (.ireturn, 1) := by decide +kernel
theorem dX1_order_101 : decode cX1_order 101 = .ok (.aload_n 0, 1) := by decide +kernel
theorem dX1_order_102 : decode cX1_order 102 = .ok (.getfield 10, 3) := by decide +kernel
theorem dX1_order_105 : decode cX1_order 105 = .ok (.invokevirtual 52, 3) := by decide +kernel
theorem dX1_order_108 : decode cX1_order 108 = .ok (.sipush 200, 3) := by decide +kernel
theorem dX1_order_111 : decode cX1_order 111 = .ok (.if_icmp .lt 6, 3) := by decide +kernel
theorem dX1_order_114 : decode cX1_order 114 = .ok (.bipush (-104), 2) := by decide +kernel
theorem dX1_order_116 : decode cX1_order 116 = .ok (.ireturn, 1) := by decide +kernel
theorem dX1_order_117 : decode cX1_order 117 = .ok (.aload_n 0, 1) := by decide +kernel
theorem dX1_order_118 : decode cX1_order 118 = .ok (.getfield 10, 3) := by decide +kernel
theorem dX1_order_121 : decode cX1_order 121 = .ok (.new 56, 3) := by decide +kernel
theorem dX1_order_124 : decode cX1_order 124 = .ok (.dup, 1) := by decide +kernel
theorem dX1_order_125 : decode cX1_order 125 = .ok (.iload_n 1, 1) := by decide +kernel
theorem dX1_order_126 : decode cX1_order 126 = .ok (.iload_n 2, 1) := by decide +kernel
theorem dX1_order_127 : decode cX1_order 127 = .ok (.iload_n 3, 1) := by decide +kernel
theorem dX1_order_128 : decode cX1_order 128 = .ok (.iload 4, 2) := by decide +kernel
theorem dX1_order_130 : decode cX1_order 130 = .ok (.lload 5, 2) := by decide +kernel
theorem dX1_order_132 : decode cX1_order 132 = .ok (.lload 7, 2) := by decide +kernel
theorem dX1_order_134 : decode cX1_order 134 = .ok (.aload_n 0, 1) := by decide +kernel
theorem dX1_order_135 : decode cX1_order 135 = .ok (.getfield 30, 3) := by decide +kernel
theorem dX1_order_138 : decode cX1_order 138 = .ok (.invokespecial 58, 3) := by decide +kernel
theorem dX1_order_141 : decode cX1_order 141 = .ok (.invokevirtual 61, 3) := by decide +kernel
theorem dX1_order_144 : decode cX1_order 144 = .ok (.pop, 1) := by decide +kernel
theorem dX1_order_145 : decode cX1_order 145 = .ok (.aload_n 0, 1) := by decide +kernel
theorem dX1_order_146 : decode cX1_order 146 = .ok (.getfield 10, 3) := by decide +kernel
theorem dX1_order_149 : decode cX1_order 149 = .ok (.invokevirtual 52, 3) := by decide +kernel
theorem dX1_order_152 : decode cX1_order 152 = .ok (.ireturn, 1) := by decide +kernel
set_option maxRecDepth 20000 in
theorem ggX1_proof_X1_find : GoodIn wsX1_proof wsX1_find := goodIn_r _ [8, 9, 10, 11, 12, 13, 14, 15, 16, 17, 18, 19, 20, 21, 22, 23, 24, 25, 26, 27, 28, 29, 30, 31, 32, 33, 70, 71, 72, 73, 74, 75, 76, 77, 78] (by decide +kernel) (by decide +kernel)
set_option maxRecDepth 20000 in
theorem gX1_proof_X1_find : GoodIn wsX1_proof (wsV RX1 65 RX1 yX1_find wsX1_find) := goodIn_app (goodIn_of _ (by decide +kernel)) ggX1_proof_X1_find
set_option maxRecDepth 20000 in
theorem ggX1_proof_X1_canBeClock : GoodIn wsX1_proof wsX1_canBeClock := goodIn_r _ [37, 2, 38, 39, 7, 40, 41, 70, 71, 72, 73, 74, 75] (by decide +kernel) (by decide +kernel)
set_option maxRecDepth 20000 in
theorem gX1_proof_X1_canBeClock : GoodIn wsX1_proof (wsV RX1 69 RX1 yX1_canBeClock wsX1_canBeClock) := goodIn_app (goodIn_of _ (by decide +kernel)) ggX1_proof_X1_canBeClock
set_option maxRecDepth 20000 in
theorem ggX1_proof_X1_moveClock : GoodIn wsX1_proof wsX1_moveClock := goodIn_r _ [45, 2, 9, 10, 11, 12, 13, 14, 15, 16, 17, 18, 19, 20, 21, 22, 23, 24, 25, 26, 27, 28, 29, 30, 31, 32, 33, 46, 47, 48, 49, 50, 51, 52, 53, 54, 55, 56, 57, 58, 59, 70, 71, 72, 73, 74, 75, 76, 77, 78, 61, 62, 63, 64, 65, 66, 67, 68, 69] (by decide +kernel) (by decide +kernel)
set_option maxRecDepth 20000 in
theorem gX1_proof_X1_moveClock : GoodIn wsX1_proof (wsV RX1 72 RX1 yX1_moveClock wsX1_moveClock) := goodIn_app (goodIn_of _ (by decide +kernel)) ggX1_proof_X1_moveClock
set_option maxRecDepth 20000 in
theorem ggX1_proof_X0_isOver : GoodIn wsX1_proof wsX0_isOver := goodIn_r _ [58, 54, 59, 61, 62, 63, 64, 65, 66, 67, 68, 69] (by decide +kernel) (by decide +kernel)
set_option maxRecDepth 20000 in
theorem gX1_proof_X0_isOver : GoodIn wsX1_proof (wsV RX1 76 RX0 yX0_isOver wsX0_isOver) := goodIn_app (goodIn_of _ (by decide +kernel)) ggX1_proof_X0_isOver
theorem dX1_proof_0 : decode cX1_proof 0 = .ok (.aload_n 0, 1) := by decide +kernel
theorem dX1_proof_1 : decode cX1_proof 1 = .ok (.iload_n 1, 1) := by decide +kernel
theorem dX1_proof_2 : decode cX1_proof 2 = .ok (.invokevirtual 65, 3) := by decide +kernel
theorem dX1_proof_5 : decode cX1_proof 5 = .ok (.astore 5, 2) := by decide +kernel
theorem dX1_proof_7 : decode cX1_proof 7 = .ok (.aload 5, 2) := by decide +kernel
theorem dX1_proof_9 : decode cX1_proof 9 = .ok (.ifnonnull 6, 3) := by decide +kernel
theorem dX1_proof_12 : decode cX1_proof 12 = .ok (.bipush (-101), 2) := by decide +kernel
theorem dX1_proof_14 : decode cX1_proof 14 = .ok (.ireturn, 1) := by decide +kernel
theorem dX1_proof_15 : decode cX1_proof 15 = .ok (.aload_n 0, 1) := by decide +kernel
theorem dX1_proof_16 : decode cX1_proof 16 = .ok (.lload_n 3, 1) := by decide +kernel
theorem dX1_proof_17 : decode cX1_proof 17 = .ok (.invokevirtual 69, 3) := by decide +kernel
theorem dX1_proof_20 : decode cX1_proof 20 = .ok (.ifCond .ne 6, 3) := by decide +kernel
theorem dX1_proof_23 : decode cX1_proof 23 = .ok (.bipush (-102), 2) := by decide +kernel
theorem dX1_proof_25 : decode cX1_proof 25 = .ok (.ireturn, 1) := by decide +kernel
theorem dX1_proof_26 : decode cX1_proof 26 = .ok (.aload_n 0, 1) := by decide +kernel
theorem dX1_proof_27 : decode cX1_proof 27 = .ok (.lload_n 3, 1) := by decide +kernel
theorem dX1_proof_28 : decode cX1_proof 28 = .ok (.invokevirtual 72, 3) := by decide +kernel
theorem dX1_proof_31 : decode cX1_proof 31 = .ok (.pop, 1) := by decide +kernel
theorem dX1_proof_32 : decode cX1_proof 32 = .ok (.aload 5, 2) := by decide +kernel
theorem dX1_proof_34 : decode cX1_proof 34 = .ok (.invokevirtual 76, 3) := by decide +kernel
theorem dX1_proof_37 : decode cX1_proof 37 = .ok (.ifCond .ne 11, 3) := by decide +kernel
theorem dX1_proof_40 : decode cX1_proof 40 = .ok (.aload 5, 2) := by decide +kernel
theorem dX1_proof_42 : decode cX1_proof 42 = .ok (.getfield 80, 3) := by decide +kernel
theorem dX1_proof_45 : decode cX1_proof 45 = .ok (.ifCond .eq 6, 3) := by decide +kernel
theorem dX1_proof_48 : decode cX1_proof 48 = .ok (.bipush (-103), 2) := by decide +kernel
theorem dX1_proof_50 : decode cX1_proof 50 = .ok (.ireturn, 1) := by decide +kernel
theorem dX1_proof_51 : decode cX1_proof 51 = .ok (.iload_n 2, 1) := by decide +kernel
theorem dX1_proof_52 : decode cX1_proof 52 = .ok (.ifCond .ne 14, 3) := by decide +kernel
theorem dX1_proof_55 : decode cX1_proof 55 = .ok (.aload 5, 2) := by decide +kernel
theorem dX1_proof_57 : decode cX1_proof 57 = .ok (.aload_n 0, 1) := by decide +kernel
theorem dX1_proof_58 : decode cX1_proof 58 = .ok (.getfield 30, 3) := by decide +kernel
theorem dX1_proof_61 : decode cX1_proof 61 = .ok (.putfield 84, 3) := by decide +kernel
theorem dX1_proof_64 : decode cX1_proof 64 = .ok (.iconst 0, 1) := by decide +kernel
theorem dX1_proof_65 : decode cX1_proof 65 = .ok (.ireturn, 1) := by decide +kernel
theorem dX1_proof_66 : decode cX1_proof 66 = .ok (.aload 5, 2) := by decide +kernel
theorem dX1_proof_68 : decode cX1_proof 68 = .ok (.iconst 1, 1) := by decide +kernel
theorem dX1_proof_69 : decode cX1_proof 69 = .ok (.putfield 80, 3) := by decide +kernel
theorem dX1_proof_72 : decode cX1_proof 72 = .ok (.iconst 1, 1) := by decide +kernel
theorem dX1_proof_73 : decode cX1_proof 73 = .ok (.ireturn, 1) := by decide +kernel
set_option maxRecDepth 20000 in
theorem ggX1_withdraw_X1_find : GoodIn wsX1_withdraw wsX1_find := goodIn_r _ [7, 8, 9, 10, 11, 12, 13, 14, 15, 16, 17, 18, 19, 20, 21, 22, 23, 24, 25, 26, 27, 28, 29, 30, 31, 32, 70, 71, 72, 73, 74, 75, 85, 86, 87] (by decide +kernel) (by decide +kernel)
set_option maxRecDepth 20000 in
theorem gX1_withdraw_X1_find : GoodIn wsX1_withdraw (wsV RX1 65 RX1 yX1_find wsX1_find) := goodIn_app (goodIn_of _ (by decide +kernel)) ggX1_withdraw_X1_find
set_option maxRecDepth 20000 in
theorem ggX1_withdraw_X1_canBeClock : GoodIn wsX1_withdraw wsX1_canBeClock := goodIn_r _ [36, 1, 37, 38, 6, 39, 40, 70, 71, 72, 73, 74, 75] (by decide +kernel) (by decide +kernel)
set_option maxRecDepth 20000 in
theorem gX1_withdraw_X1_canBeClock : GoodIn wsX1_withdraw (wsV RX1 69 RX1 yX1_canBeClock wsX1_canBeClock) := goodIn_app (goodIn_of _ (by decide +kernel)) ggX1_withdraw_X1_canBeClock
set_option maxRecDepth 20000 in
theorem ggX1_withdraw_X1_moveClock : GoodIn wsX1_withdraw wsX1_moveClock := goodIn_r _ [44, 1, 8, 9, 10, 11, 12, 13, 14, 15, 16, 17, 18, 19, 20, 21, 22, 23, 24, 25, 26, 27, 28, 29, 30, 31, 32, 45, 46, 47, 48, 49, 50, 51, 52, 53, 54, 55, 56, 57, 58, 70, 71, 72, 73, 74, 75, 85, 86, 87, 76, 77, 78, 79, 80, 81, 82, 83, 84] (by decide +kernel) (by decide +kernel)
set_option maxRecDepth 20000 in
theorem gX1_withdraw_X1_moveClock : GoodIn wsX1_withdraw (wsV RX1 72 RX1 yX1_moveClock wsX1_moveClock) := goodIn_app (goodIn_of _ (by decide +kernel)) ggX1_withdraw_X1_moveClock
set_option maxRecDepth 20000 in
theorem ggX1_withdraw_X0_isOver : GoodIn wsX1_withdraw wsX0_isOver := goodIn_r _ [57, 53, 58, 76, 77, 78, 79, 80, 81, 82, 83, 84] (by decide +kernel) (by decide +kernel)
set_option maxRecDepth 20000 in
theorem gX1_withdraw_X0_isOver : GoodIn wsX1_withdraw (wsV RX1 76 RX0 yX0_isOver wsX0_isOver) := goodIn_app (goodIn_of _ (by decide +kernel)) ggX1_withdraw_X0_isOver
set_option maxRecDepth 20000 in
theorem ggX1_withdraw_X0_daysOfSpanFrom : GoodIn wsX1_withdraw wsX0_daysOfSpanFrom := goodIn_r _ [63, 64, 65, 66, 67, 68, 69, 76, 77, 78, 79, 80, 81, 82, 83, 84] (by decide +kernel) (by decide +kernel)
set_option maxRecDepth 20000 in
theorem gX1_withdraw_X0_daysOfSpanFrom : GoodIn wsX1_withdraw (wsV RX1 87 RX0 yX0_daysOfSpanFrom wsX0_daysOfSpanFrom) := goodIn_app (goodIn_of _ (by decide +kernel)) ggX1_withdraw_X0_daysOfSpanFrom
theorem dX1_withdraw_0 : decode cX1_withdraw 0 = .ok (.aload_n 0, 1) := by decide +kernel
theorem dX1_withdraw_1 : decode cX1_withdraw 1 = .ok (.iload_n 1, 1) := by decide +kernel
theorem dX1_withdraw_2 : decode cX1_withdraw 2 = .ok (.invokevirtual 65, 3) := by decide +kernel
theorem dX1_withdraw_5 : decode cX1_withdraw 5 = .ok (.astore 4, 2) := by decide +kernel
theorem dX1_withdraw_7 : decode cX1_withdraw 7 = .ok (.aload 4, 2) := by decide +kernel
theorem dX1_withdraw_9 : decode cX1_withdraw 9 = .ok (.ifnonnull 6, 3) := by decide +kernel
theorem dX1_withdraw_12 : decode cX1_withdraw 12 = .ok (.bipush (-101), 2) := by decide +kernel
theorem dX1_withdraw_14 : decode cX1_withdraw 14 = .ok (.ireturn, 1) := by decide +kernel
theorem dX1_withdraw_15 : decode cX1_withdraw 15 = .ok (.aload_n 0, 1) := by decide +kernel
theorem dX1_withdraw_16 : decode cX1_withdraw 16 = .ok (.lload_n 2, 1) := by decide +kernel
theorem dX1_withdraw_17 : decode cX1_withdraw 17 = .ok (.invokevirtual 69, 3) := by decide +kernel
theorem dX1_withdraw_20 : decode cX1_withdraw 20 = .ok (.ifCond .ne 6, 3) := by decide +kernel
theorem dX1_withdraw_23 : decode cX1_withdraw 23 = .ok (.bipush (-102), 2) := by decide +kernel
theorem dX1_withdraw_25 : decode cX1_withdraw 25 = .ok (.ireturn, 1) := by decide +kernel
theorem dX1_withdraw_26 : decode cX1_withdraw 26 = .ok (.aload_n 0, 1) := by decide +kernel
theorem dX1_withdraw_27 : decode cX1_withdraw 27 = .ok (.lload_n 2, 1) := by decide +kernel
theorem dX1_withdraw_28 : decode cX1_withdraw 28 = .ok (.invokevirtual 72, 3) := by decide +kernel
theorem dX1_withdraw_31 : decode cX1_withdraw 31 = .ok (.pop, 1) := by decide +kernel
theorem dX1_withdraw_32 : decode cX1_withdraw 32 = .ok (.aload 4, 2) := by decide +kernel
theorem dX1_withdraw_34 : decode cX1_withdraw 34 = .ok (.invokevirtual 76, 3) := by decide +kernel
theorem dX1_withdraw_37 : decode cX1_withdraw 37 = .ok (.ifCond .eq 6, 3) := by decide +kernel
theorem dX1_withdraw_40 : decode cX1_withdraw 40 = .ok (.bipush (-103), 2) := by decide +kernel
theorem dX1_withdraw_42 : decode cX1_withdraw 42 = .ok (.ireturn, 1) := by decide +kernel
theorem dX1_withdraw_43 : decode cX1_withdraw 43 = .ok (.aload 4, 2) := by decide +kernel
theorem dX1_withdraw_45 : decode cX1_withdraw 45 = .ok (.aload_n 0, 1) := by decide +kernel
theorem dX1_withdraw_46 : decode cX1_withdraw 46 = .ok (.getfield 30, 3) := by decide +kernel
theorem dX1_withdraw_49 : decode cX1_withdraw 49 = .ok (.putfield 84, 3) := by decide +kernel
theorem dX1_withdraw_52 : decode cX1_withdraw 52 = .ok (.aload 4, 2) := by decide +kernel
theorem dX1_withdraw_54 : decode cX1_withdraw 54 = .ok (.aload_n 0, 1) := by decide +kernel
theorem dX1_withdraw_55 : decode cX1_withdraw 55 = .ok (.getfield 30, 3) := by decide +kernel
theorem dX1_withdraw_58 : decode cX1_withdraw 58 = .ok (.invokevirtual 87, 3) := by decide +kernel
theorem dX1_withdraw_61 : decode cX1_withdraw 61 = .ok (.ireturn, 1) := by decide +kernel
set_option maxRecDepth 20000 in
theorem ggX1_effective_X1_isAddress : GoodIn wsX1_effective wsX1_isAddress := goodIn_r _ [7] (by decide +kernel) (by decide +kernel)
set_option maxRecDepth 20000 in
theorem gX1_effective_X1_isAddress : GoodIn wsX1_effective (va_wsS RX1 42 yX1_isAddress wsX1_isAddress) := goodIn_app (goodIn_of _ (by decide +kernel)) ggX1_effective_X1_isAddress
set_option maxRecDepth 20000 in
theorem ggX1_effective_X1_isPerson : GoodIn wsX1_effective wsX1_isPerson := goodIn_r _ [10] (by decide +kernel) (by decide +kernel)
set_option maxRecDepth 20000 in
theorem gX1_effective_X1_isPerson : GoodIn wsX1_effective (va_wsS RX1 45 yX1_isPerson wsX1_isPerson) := goodIn_app (goodIn_of _ (by decide +kernel)) ggX1_effective_X1_isPerson
set_option maxRecDepth 20000 in
theorem ggX1_effective_X1_isDay : GoodIn wsX1_effective wsX1_isDay := goodIn_r _ [13, 14] (by decide +kernel) (by decide +kernel)
set_option maxRecDepth 20000 in
theorem gX1_effective_X1_isDay : GoodIn wsX1_effective (va_wsS RX1 48 yX1_isDay wsX1_isDay) := goodIn_app (goodIn_of _ (by decide +kernel)) ggX1_effective_X1_isDay
set_option maxRecDepth 20000 in
theorem ggX1_effective_X1_stepAt : GoodIn wsX1_effective wsX1_stepAt := goodIn_r _ [18, 1, 77, 78, 79, 80, 81, 82] (by decide +kernel) (by decide +kernel)
set_option maxRecDepth 20000 in
theorem gX1_effective_X1_stepAt : GoodIn wsX1_effective (wsV RX1 90 RX1 yX1_stepAt wsX1_stepAt) := goodIn_app (goodIn_of _ (by decide +kernel)) ggX1_effective_X1_stepAt
set_option maxRecDepth 20000 in
theorem ggX1_effective_X1_tellRing : GoodIn wsX1_effective wsX1_tellRing := goodIn_r _ [22, 23, 1, 24, 77, 78, 79, 80, 81, 82] (by decide +kernel) (by decide +kernel)
set_option maxRecDepth 20000 in
theorem gX1_effective_X1_tellRing : GoodIn wsX1_effective (wsV RX1 94 RX1 yX1_tellRing wsX1_tellRing) := goodIn_app (goodIn_of _ (by decide +kernel)) ggX1_effective_X1_tellRing
set_option maxRecDepth 20000 in
theorem ggX1_effective_X1_strongest : GoodIn wsX1_effective wsX1_strongest := goodIn_r _ [28, 29, 30, 31, 2, 32, 33, 34, 35, 36, 37, 38, 39, 40, 41, 42, 43, 44, 45, 46, 47, 48, 49, 50, 51, 52, 53, 54, 55, 56, 57, 58, 59, 60, 61, 62, 63, 64, 65, 66, 67, 68, 69, 77, 78, 79, 80, 81, 82, 83, 84, 85, 86, 87, 88, 89, 90, 91, 92, 93, 94] (by decide +kernel) (by decide +kernel)
set_option maxRecDepth 20000 in
theorem gX1_effective_X1_strongest : GoodIn wsX1_effective (wsV RX1 98 RX1 yX1_strongest wsX1_strongest) := goodIn_app (goodIn_of _ (by decide +kernel)) ggX1_effective_X1_strongest
set_option maxRecDepth 20000 in
theorem ggX1_effective_X0_sendsOn : GoodIn wsX1_effective wsX0_sendsOn := goodIn_r _ [73, 62, 74, 6, 75, 83, 84, 85, 86, 87, 88, 89, 90, 91] (by decide +kernel) (by decide +kernel)
set_option maxRecDepth 20000 in
theorem gX1_effective_X0_sendsOn : GoodIn wsX1_effective (wsV RX1 102 RX0 yX0_sendsOn wsX0_sendsOn) := goodIn_app (goodIn_of _ (by decide +kernel)) ggX1_effective_X0_sendsOn
set_option maxRecDepth 20000 in
theorem ggX1_effective_X1_doneBy : GoodIn wsX1_effective wsX1_doneBy := goodIn_r _ [75] (by decide +kernel) (by decide +kernel)
set_option maxRecDepth 20000 in
theorem gX1_effective_X1_doneBy : GoodIn wsX1_effective (va_wsS RX1 38 yX1_doneBy wsX1_doneBy) := goodIn_app (goodIn_of _ (by decide +kernel)) ggX1_effective_X1_doneBy
theorem dX1_effective_0 : decode cX1_effective 0 = .ok (.iload_n 1, 1) := by decide +kernel
theorem dX1_effective_1 : decode cX1_effective 1 = .ok (.invokestatic 42, 3) := by decide +kernel
theorem dX1_effective_4 : decode cX1_effective 4 = .ok (.ifCond .eq 10, 3) := by decide +kernel
theorem dX1_effective_7 : decode cX1_effective 7 = .ok (.iload_n 2, 1) := by decide +kernel
theorem dX1_effective_8 : decode cX1_effective 8 = .ok (.invokestatic 45, 3) := by decide +kernel
theorem dX1_effective_11 : decode cX1_effective 11 = .ok (.ifCond .ne 6, 3) := by decide +kernel
theorem dX1_effective_14 : decode cX1_effective 14 = .ok (.bipush (-101), 2) := by decide +kernel
theorem dX1_effective_16 : decode cX1_effective 16 = .ok (.ireturn, 1) := by decide +kernel
theorem dX1_effective_17 : decode cX1_effective 17 = .ok (.iload_n 3, 1) := by decide +kernel
theorem dX1_effective_18 : decode cX1_effective 18 = .ok (.ifCond .lt 16, 3) := by decide +kernel
theorem dX1_effective_21 : decode cX1_effective 21 = .ok (.iload_n 3, 1) := by decide +kernel
theorem dX1_effective_22 : decode cX1_effective 22 = .ok (.iconst 3, 1) := by decide +kernel
theorem dX1_effective_23 : decode cX1_effective 23 = .ok (.if_icmp .ge 11, 3) := by decide +kernel
theorem dX1_effective_26 : decode cX1_effective 26 = .ok (.lload 4, 2) := by decide +kernel
theorem dX1_effective_28 : decode cX1_effective 28 = .ok (.invokestatic 48, 3) := by decide +kernel
theorem dX1_effective_31 : decode cX1_effective 31 = .ok (.ifCond .ne 6, 3) := by decide +kernel
theorem dX1_effective_34 : decode cX1_effective 34 = .ok (.bipush (-102), 2) := by decide +kernel
theorem dX1_effective_36 : decode cX1_effective 36 = .ok (.ireturn, 1) := by decide +kernel
theorem dX1_effective_37 : decode cX1_effective 37 = .ok (.iload_n 1, 1) := by decide +kernel
theorem dX1_effective_38 : decode cX1_effective 38 = .ok (.istore 6, 2) := by decide +kernel
theorem dX1_effective_40 : decode cX1_effective 40 = .ok (.iconst 0, 1) := by decide +kernel
theorem dX1_effective_41 : decode cX1_effective 41 = .ok (.istore 7, 2) := by decide +kernel
theorem dX1_effective_43 : decode cX1_effective 43 = .ok (.iload 7, 2) := by decide +kernel
theorem dX1_effective_45 : decode cX1_effective 45 = .ok (.aload_n 0, 1) := by decide +kernel
theorem dX1_effective_46 : decode cX1_effective 46 = .ok (.getfield 20, 3) := by decide +kernel
theorem dX1_effective_49 : decode cX1_effective 49 = .ok (.arraylength, 1) := by decide +kernel
theorem dX1_effective_50 : decode cX1_effective 50 = .ok (.if_icmp .ge 99, 3) := by decide +kernel
theorem dX1_effective_53 : decode cX1_effective 53 = .ok (.aload_n 0, 1) := by decide +kernel
theorem dX1_effective_54 : decode cX1_effective 54 = .ok (.iload 6, 2) := by decide +kernel
theorem dX1_effective_56 : decode cX1_effective 56 = .ok (.iload 7, 2) := by decide +kernel
theorem dX1_effective_58 : decode cX1_effective 58 = .ok (.invokevirtual 90, 3) := by decide +kernel
theorem dX1_effective_61 : decode cX1_effective 61 = .ok (.istore 8, 2) := by decide +kernel
theorem dX1_effective_63 : decode cX1_effective 63 = .ok (.iload 8, 2) := by decide +kernel
theorem dX1_effective_65 : decode cX1_effective 65 = .ok (.iload 7, 2) := by decide +kernel
theorem dX1_effective_67 : decode cX1_effective 67 = .ok (.if_icmp .ge 13, 3) := by decide +kernel
theorem dX1_effective_70 : decode cX1_effective 70 = .ok (.aload_n 0, 1) := by decide +kernel
theorem dX1_effective_71 : decode cX1_effective 71 = .ok (.iload 8, 2) := by decide +kernel
theorem dX1_effective_73 : decode cX1_effective 73 = .ok (.iload 7, 2) := by decide +kernel
theorem dX1_effective_75 : decode cX1_effective 75 = .ok (.invokevirtual 94, 3) := by decide +kernel
theorem dX1_effective_78 : decode cX1_effective 78 = .ok (.iconst (-1), 1) := by decide +kernel
theorem dX1_effective_79 : decode cX1_effective 79 = .ok (.ireturn, 1) := by decide +kernel
theorem dX1_effective_80 : decode cX1_effective 80 = .ok (.aload_n 0, 1) := by decide +kernel
theorem dX1_effective_81 : decode cX1_effective 81 = .ok (.getfield 20, 3) := by decide +kernel
theorem dX1_effective_84 : decode cX1_effective 84 = .ok (.iload 7, 2) := by decide +kernel
theorem dX1_effective_86 : decode cX1_effective 86 = .ok (.iload 6, 2) := by decide +kernel
theorem dX1_effective_88 : decode cX1_effective 88 = .ok (.iastore, 1) := by decide +kernel
theorem dX1_effective_89 : decode cX1_effective 89 = .ok (.aload_n 0, 1) := by decide +kernel
theorem dX1_effective_90 : decode cX1_effective 90 = .ok (.iload 6, 2) := by decide +kernel
theorem dX1_effective_92 : decode cX1_effective 92 = .ok (.iload_n 2, 1) := by decide +kernel
theorem dX1_effective_93 : decode cX1_effective 93 = .ok (.iload_n 3, 1) := by decide +kernel
theorem dX1_effective_94 : decode cX1_effective 94 = .ok (.lload 4, 2) := by decide +kernel
theorem dX1_effective_96 : decode cX1_effective 96 = .ok (.invokevirtual 98, 3) := by decide +kernel
theorem dX1_effective_99 : decode cX1_effective 99 = .ok (.astore 9, 2) := by decide +kernel
theorem dX1_effective_101 : decode cX1_effective 101 = .ok (.aload 9, 2) := by decide +kernel
theorem dX1_effective_103 : decode cX1_effective 103 = .ok (.ifnonnull 6, 3) := by decide +kernel
theorem dX1_effective_106 : decode cX1_effective 106 = .ok (.iload 6, 2) := by decide +kernel
theorem dX1_effective_108 : decode cX1_effective 108 = .ok (.ireturn, 1) := by decide +kernel
theorem dX1_effective_109 : decode cX1_effective 109 = .ok (.aload 9, 2) := by decide +kernel
theorem dX1_effective_111 : decode cX1_effective 111 = .ok (.invokevirtual 102, 3) := by decide +kernel
theorem dX1_effective_114 : decode cX1_effective 114 = .ok (.ifCond .ne 22, 3) := by decide +kernel
theorem dX1_effective_117 : decode cX1_effective 117 = .ok (.aload 9, 2) := by decide +kernel
theorem dX1_effective_119 : decode cX1_effective 119 = .ok (.getfield 105, 3) := by decide +kernel
theorem dX1_effective_122 : decode cX1_effective 122 = .ok (.invokestatic 38, 3) := by decide +kernel
theorem dX1_effective_125 : decode cX1_effective 125 = .ok (.iconst 1, 1) := by decide +kernel
theorem dX1_effective_126 : decode cX1_effective 126 = .ok (.if_icmp .ne 7, 3) := by decide +kernel
theorem dX1_effective_129 : decode cX1_effective 129 = .ok (.iconst 0, 1) := by decide +kernel
theorem dX1_effective_130 : decode cX1_effective 130 = .ok (.goto 5, 3) := by decide +kernel
theorem dX1_effective_133 : decode cX1_effective 133 = .ok (.bipush (-2), 2) := by decide +kernel
theorem dX1_effective_135 : decode cX1_effective 135 = .ok (.ireturn, 1) := by decide +kernel
theorem dX1_effective_136 : decode cX1_effective 136 = .ok (.aload 9, 2) := by decide +kernel
theorem dX1_effective_138 : decode cX1_effective 138 = .ok (.getfield 108, 3) := by decide +kernel
theorem dX1_effective_141 : decode cX1_effective 141 = .ok (.istore 6, 2) := by decide +kernel
theorem dX1_effective_143 : decode cX1_effective 143 = .ok (.iinc 7 1, 3) := by decide +kernel
theorem dX1_effective_146 : decode cX1_effective 146 = .ok (.goto (-103), 3) := by decide +kernel
theorem dX1_effective_149 : decode cX1_effective 149 = .ok (.iconst (-1), 1) := by decide +kernel
theorem dX1_effective_150 : decode cX1_effective 150 = .ok (.ireturn, 1) := by decide +kernel
theorem dX1_ring_0 : decode cX1_ring 0 = .ok (.iload_n 1, 1) := by decide +kernel
theorem dX1_ring_1 : decode cX1_ring 1 = .ok (.ifCond .lt 11, 3) := by decide +kernel
theorem dX1_ring_4 : decode cX1_ring 4 = .ok (.iload_n 1, 1) := by decide +kernel
theorem dX1_ring_5 : decode cX1_ring 5 = .ok (.aload_n 0, 1) := by decide +kernel
theorem dX1_ring_6 : decode cX1_ring 6 = .ok (.getfield 26, 3) := by decide +kernel
theorem dX1_ring_9 : decode cX1_ring 9 = .ok (.if_icmp .lt 7, 3) := by decide +kernel
theorem dX1_ring_12 : decode cX1_ring 12 = .ok (.iconst 0, 1) := by decide +kernel
theorem dX1_ring_13 : decode cX1_ring 13 = .ok (.goto 9, 3) := by decide +kernel
theorem dX1_ring_16 : decode cX1_ring 16 = .ok (.aload_n 0, 1) := by decide +kernel
theorem dX1_ring_17 : decode cX1_ring 17 = .ok (.getfield 23, 3) := by decide +kernel
theorem dX1_ring_20 : decode cX1_ring 20 = .ok (.iload_n 1, 1) := by decide +kernel
theorem dX1_ring_21 : decode cX1_ring 21 = .ok (.iaload, 1) := by decide +kernel
theorem dX1_ring_22 : decode cX1_ring 22 = .ok (.ireturn, 1) := by decide +kernel
set_option maxRecDepth 20000 in
theorem ggX1_rank_X1_isKind : GoodIn wsX1_rank wsX1_isKind := goodIn_r _ [5] (by decide +kernel) (by decide +kernel)
set_option maxRecDepth 20000 in
theorem gX1_rank_X1_isKind : GoodIn wsX1_rank (va_wsS RX1 34 yX1_isKind wsX1_isKind) := goodIn_app (goodIn_of _ (by decide +kernel)) ggX1_rank_X1_isKind
theorem dX1_rank_0 : decode cX1_rank 0 = .ok (.iload_n 1, 1) := by decide +kernel
theorem dX1_rank_1 : decode cX1_rank 1 = .ok (.invokestatic 34, 3) := by decide +kernel
theorem dX1_rank_4 : decode cX1_rank 4 = .ok (.ifCond .eq 13, 3) := by decide +kernel
theorem dX1_rank_7 : decode cX1_rank 7 = .ok (.iload_n 2, 1) := by decide +kernel
theorem dX1_rank_8 : decode cX1_rank 8 = .ok (.ifCond .lt 9, 3) := by decide +kernel
theorem dX1_rank_11 : decode cX1_rank 11 = .ok (.iload_n 2, 1) := by decide +kernel
theorem dX1_rank_12 : decode cX1_rank 12 = .ok (.bipush 100, 2) := by decide +kernel
theorem dX1_rank_14 : decode cX1_rank 14 = .ok (.if_icmp .le 6, 3) := by decide +kernel
theorem dX1_rank_17 : decode cX1_rank 17 = .ok (.bipush (-102), 2) := by decide +kernel
theorem dX1_rank_19 : decode cX1_rank 19 = .ok (.ireturn, 1) := by decide +kernel
theorem dX1_rank_20 : decode cX1_rank 20 = .ok (.aload_n 0, 1) := by decide +kernel
theorem dX1_rank_21 : decode cX1_rank 21 = .ok (.getfield 16, 3) := by decide +kernel
theorem dX1_rank_24 : decode cX1_rank 24 = .ok (.iload_n 1, 1) := by decide +kernel
theorem dX1_rank_25 : decode cX1_rank 25 = .ok (.iaload, 1) := by decide +kernel
theorem dX1_rank_26 : decode cX1_rank 26 = .ok (.istore_n 3, 1) := by decide +kernel
theorem dX1_rank_27 : decode cX1_rank 27 = .ok (.aload_n 0, 1) := by decide +kernel
theorem dX1_rank_28 : decode cX1_rank 28 = .ok (.getfield 16, 3) := by decide +kernel
theorem dX1_rank_31 : decode cX1_rank 31 = .ok (.iload_n 1, 1) := by decide +kernel
theorem dX1_rank_32 : decode cX1_rank 32 = .ok (.iload_n 2, 1) := by decide +kernel
theorem dX1_rank_33 : decode cX1_rank 33 = .ok (.iastore, 1) := by decide +kernel
theorem dX1_rank_34 : decode cX1_rank 34 = .ok (.iload_n 3, 1) := by decide +kernel
theorem dX1_rank_35 : decode cX1_rank 35 = .ok (.ireturn, 1) := by decide +kernel
set_option maxRecDepth 20000 in
theorem ggX1_tick_X1_canBeClock : GoodIn wsX1_tick wsX1_canBeClock := goodIn_r _ [5, 6, 7, 8, 4, 9, 10, 54, 55, 56, 57, 58, 59] (by decide +kernel) (by decide +kernel)
set_option maxRecDepth 20000 in
theorem gX1_tick_X1_canBeClock : GoodIn wsX1_tick (wsV RX1 69 RX1 yX1_canBeClock wsX1_canBeClock) := goodIn_app (goodIn_of _ (by decide +kernel)) ggX1_tick_X1_canBeClock
set_option maxRecDepth 20000 in
theorem ggX1_tick_X1_moveClock : GoodIn wsX1_tick wsX1_moveClock := goodIn_r _ [14, 6, 15, 16, 17, 18, 19, 20, 21, 22, 23, 24, 25, 26, 27, 28, 29, 30, 31, 32, 33, 34, 35, 36, 37, 38, 39, 40, 41, 42, 43, 44, 45, 46, 47, 48, 49, 50, 51, 52, 53, 54, 55, 56, 57, 58, 59, 60, 61, 62, 63, 64, 65, 66, 67, 68, 69, 70, 71] (by decide +kernel) (by decide +kernel)
set_option maxRecDepth 20000 in
theorem gX1_tick_X1_moveClock : GoodIn wsX1_tick (wsV RX1 72 RX1 yX1_moveClock wsX1_moveClock) := goodIn_app (goodIn_of _ (by decide +kernel)) ggX1_tick_X1_moveClock
theorem dX1_tick_0 : decode cX1_tick 0 = .ok (.aload_n 0, 1) := by decide +kernel
theorem dX1_tick_1 : decode cX1_tick 1 = .ok (.lload_n 1, 1) := by decide +kernel
theorem dX1_tick_2 : decode cX1_tick 2 = .ok (.invokevirtual 69, 3) := by decide +kernel
theorem dX1_tick_5 : decode cX1_tick 5 = .ok (.ifCond .eq 11, 3) := by decide +kernel
theorem dX1_tick_8 : decode cX1_tick 8 = .ok (.aload_n 0, 1) := by decide +kernel
theorem dX1_tick_9 : decode cX1_tick 9 = .ok (.lload_n 1, 1) := by decide +kernel
theorem dX1_tick_10 : decode cX1_tick 10 = .ok (.invokevirtual 72, 3) := by decide +kernel
theorem dX1_tick_13 : decode cX1_tick 13 = .ok (.goto 5, 3) := by decide +kernel
theorem dX1_tick_16 : decode cX1_tick 16 = .ok (.bipush (-102), 2) := by decide +kernel
theorem dX1_tick_18 : decode cX1_tick 18 = .ok (.ireturn, 1) := by decide +kernel
set_option maxRecDepth 20000 in
theorem ggX1_extend_X1_find : GoodIn wsX1_extend wsX1_find := goodIn_r _ [6, 7, 8, 9, 10, 11, 12, 13, 14, 15, 16, 17, 18, 19, 20, 21, 22, 23, 24, 25, 26, 27, 28, 29, 30, 31, 52, 53, 54, 55, 56, 57, 58, 59, 60] (by decide +kernel) (by decide +kernel)
set_option maxRecDepth 20000 in
theorem gX1_extend_X1_find : GoodIn wsX1_extend (wsV RX1 65 RX1 yX1_find wsX1_find) := goodIn_app (goodIn_of _ (by decide +kernel)) ggX1_extend_X1_find
set_option maxRecDepth 20000 in
theorem ggX1_extend_X1_isDay : GoodIn wsX1_extend wsX1_isDay := goodIn_r _ [34, 35] (by decide +kernel) (by decide +kernel)
set_option maxRecDepth 20000 in
theorem gX1_extend_X1_isDay : GoodIn wsX1_extend (va_wsS RX1 48 yX1_isDay wsX1_isDay) := goodIn_app (goodIn_of _ (by decide +kernel)) ggX1_extend_X1_isDay
set_option maxRecDepth 20000 in
theorem ggX1_extend_X0_isOver : GoodIn wsX1_extend wsX0_isOver := goodIn_r _ [40, 41, 42, 43, 44, 45, 46, 47, 48, 49, 50, 51] (by decide +kernel) (by decide +kernel)
set_option maxRecDepth 20000 in
theorem gX1_extend_X0_isOver : GoodIn wsX1_extend (wsV RX1 76 RX0 yX0_isOver wsX0_isOver) := goodIn_app (goodIn_of _ (by decide +kernel)) ggX1_extend_X0_isOver
theorem dX1_extend_0 : decode cX1_extend 0 = .ok (.aload_n 0, 1) := by decide +kernel
theorem dX1_extend_1 : decode cX1_extend 1 = .ok (.iload_n 1, 1) := by decide +kernel
theorem dX1_extend_2 : decode cX1_extend 2 = .ok (.invokevirtual 65, 3) := by decide +kernel
theorem dX1_extend_5 : decode cX1_extend 5 = .ok (.astore 4, 2) := by decide +kernel
theorem dX1_extend_7 : decode cX1_extend 7 = .ok (.aload 4, 2) := by decide +kernel
theorem dX1_extend_9 : decode cX1_extend 9 = .ok (.ifnonnull 6, 3) := by decide +kernel
theorem dX1_extend_12 : decode cX1_extend 12 = .ok (.bipush (-101), 2) := by decide +kernel
theorem dX1_extend_14 : decode cX1_extend 14 = .ok (.ireturn, 1) := by decide +kernel
theorem dX1_extend_15 : decode cX1_extend 15 = .ok (.lload_n 2, 1) := by decide +kernel
theorem dX1_extend_16 : decode cX1_extend 16 = .ok (.invokestatic 48, 3) := by decide +kernel
theorem dX1_extend_19 : decode cX1_extend 19 = .ok (.ifCond .ne 6, 3) := by decide +kernel
theorem dX1_extend_22 : decode cX1_extend 22 = .ok (.bipush (-102), 2) := by decide +kernel
theorem dX1_extend_24 : decode cX1_extend 24 = .ok (.ireturn, 1) := by decide +kernel
theorem dX1_extend_25 : decode cX1_extend 25 = .ok (.aload 4, 2) := by decide +kernel
theorem dX1_extend_27 : decode cX1_extend 27 = .ok (.invokevirtual 76, 3) := by decide +kernel
theorem dX1_extend_30 : decode cX1_extend 30 = .ok (.ifCond .eq 6, 3) := by decide +kernel
theorem dX1_extend_33 : decode cX1_extend 33 = .ok (.bipush (-103), 2) := by decide +kernel
theorem dX1_extend_35 : decode cX1_extend 35 = .ok (.ireturn, 1) := by decide +kernel
theorem dX1_extend_36 : decode cX1_extend 36 = .ok (.lload_n 2, 1) := by decide +kernel
theorem dX1_extend_37 : decode cX1_extend 37 = .ok (.aload 4, 2) := by decide +kernel
theorem dX1_extend_39 : decode cX1_extend 39 = .ok (.getfield 111, 3) := by decide +kernel
theorem dX1_extend_42 : decode cX1_extend 42 = .ok (.lcmp, 1) := by decide +kernel
theorem dX1_extend_43 : decode cX1_extend 43 = .ok (.ifCond .gt 5, 3) := by decide +kernel
theorem dX1_extend_46 : decode cX1_extend 46 = .ok (.iconst 0, 1) := by decide +kernel
theorem dX1_extend_47 : decode cX1_extend 47 = .ok (.ireturn, 1) := by decide +kernel
theorem dX1_extend_48 : decode cX1_extend 48 = .ok (.aload 4, 2) := by decide +kernel
theorem dX1_extend_50 : decode cX1_extend 50 = .ok (.lload_n 2, 1) := by decide +kernel
theorem dX1_extend_51 : decode cX1_extend 51 = .ok (.putfield 111, 3) := by decide +kernel
theorem dX1_extend_54 : decode cX1_extend 54 = .ok (.iconst 1, 1) := by decide +kernel
theorem dX1_extend_55 : decode cX1_extend 55 = .ok (.ireturn, 1) := by decide +kernel
set_option maxRecDepth 20000 in
theorem ggX1_told_X1_isPerson : GoodIn wsX1_told wsX1_isPerson := goodIn_r _ [9] (by decide +kernel) (by decide +kernel)
set_option maxRecDepth 20000 in
theorem gX1_told_X1_isPerson : GoodIn wsX1_told (va_wsS RX1 45 yX1_isPerson wsX1_isPerson) := goodIn_app (goodIn_of _ (by decide +kernel)) ggX1_told_X1_isPerson
set_option maxRecDepth 20000 in
theorem ggX1_told_Jx4a65c_size_8abf5 : GoodIn wsX1_told wsJx4a65c_size_8abf5 := goodIn_r _ [14, 15, 63, 64, 65] (by decide +kernel) (by decide +kernel)
set_option maxRecDepth 20000 in
theorem gX1_told_Jx4a65c_size_8abf5 : GoodIn wsX1_told (wsV RX1 52 RJx4a65c yJx4a65c_size_8abf5 wsJx4a65c_size_8abf5) := goodIn_app (goodIn_of _ (by decide +kernel)) ggX1_told_Jx4a65c_size_8abf5
set_option maxRecDepth 20000 in
theorem ggX1_told_Jx4a65c_get_915e3 : GoodIn wsX1_told wsJx4a65c_get_915e3 := goodIn_r _ [19, 15, 20, 21, 22, 23, 24, 25, 26, 27, 28, 29, 30, 13, 31, 32, 63, 64, 65] (by decide +kernel) (by decide +kernel)
set_option maxRecDepth 20000 in
theorem gX1_told_Jx4a65c_get_915e3 : GoodIn wsX1_told (wsV RX1 114 RJx4a65c yJx4a65c_get_915e3 wsJx4a65c_get_915e3) := goodIn_app (goodIn_of _ (by decide +kernel)) ggX1_told_Jx4a65c_get_915e3
set_option maxRecDepth 20000 in
theorem ggX1_told_X0_sendsOn : GoodIn wsX1_told wsX0_sendsOn := goodIn_r _ [37, 38, 39, 8, 40, 54, 55, 56, 57, 58, 59, 60, 61, 62] (by decide +kernel) (by decide +kernel)
set_option maxRecDepth 20000 in
theorem gX1_told_X0_sendsOn : GoodIn wsX1_told (wsV RX1 102 RX0 yX0_sendsOn wsX0_sendsOn) := goodIn_app (goodIn_of _ (by decide +kernel)) ggX1_told_X0_sendsOn
set_option maxRecDepth 20000 in
theorem ggX1_told_X0_isInForce : GoodIn wsX1_told wsX0_isInForce := goodIn_r _ [44, 45, 46, 47, 54, 55, 56, 57, 58, 59, 60, 61, 62] (by decide +kernel) (by decide +kernel)
set_option maxRecDepth 20000 in
theorem gX1_told_X0_isInForce : GoodIn wsX1_told (wsV RX1 121 RX0 yX0_isInForce wsX0_isInForce) := goodIn_app (goodIn_of _ (by decide +kernel)) ggX1_told_X0_isInForce
theorem dX1_told_0 : decode cX1_told 0 = .ok (.iload_n 1, 1) := by decide +kernel
theorem dX1_told_1 : decode cX1_told 1 = .ok (.invokestatic 45, 3) := by decide +kernel
theorem dX1_told_4 : decode cX1_told 4 = .ok (.ifCond .ne 6, 3) := by decide +kernel
theorem dX1_told_7 : decode cX1_told 7 = .ok (.bipush (-101), 2) := by decide +kernel
theorem dX1_told_9 : decode cX1_told 9 = .ok (.ireturn, 1) := by decide +kernel
theorem dX1_told_10 : decode cX1_told 10 = .ok (.iconst 0, 1) := by decide +kernel
theorem dX1_told_11 : decode cX1_told 11 = .ok (.istore_n 3, 1) := by decide +kernel
theorem dX1_told_12 : decode cX1_told 12 = .ok (.iconst 0, 1) := by decide +kernel
theorem dX1_told_13 : decode cX1_told 13 = .ok (.istore 4, 2) := by decide +kernel
theorem dX1_told_15 : decode cX1_told 15 = .ok (.iload 4, 2) := by decide +kernel
theorem dX1_told_17 : decode cX1_told 17 = .ok (.aload_n 0, 1) := by decide +kernel
theorem dX1_told_18 : decode cX1_told 18 = .ok (.getfield 10, 3) := by decide +kernel
theorem dX1_told_21 : decode cX1_told 21 = .ok (.invokevirtual 52, 3) := by decide +kernel
theorem dX1_told_24 : decode cX1_told 24 = .ok (.if_icmp .ge 73, 3) := by decide +kernel
theorem dX1_told_27 : decode cX1_told 27 = .ok (.aload_n 0, 1) := by decide +kernel
theorem dX1_told_28 : decode cX1_told 28 = .ok (.getfield 10, 3) := by decide +kernel
theorem dX1_told_31 : decode cX1_told 31 = .ok (.iload 4, 2) := by decide +kernel
theorem dX1_told_33 : decode cX1_told 33 = .ok (.invokevirtual 114, 3) := by decide +kernel
theorem dX1_told_36 : decode cX1_told 36 = .ok (.checkcast 56, 3) := by decide +kernel
theorem dX1_told_39 : decode cX1_told 39 = .ok (.astore 5, 2) := by decide +kernel
theorem dX1_told_41 : decode cX1_told 41 = .ok (.aload 5, 2) := by decide +kernel
theorem dX1_told_43 : decode cX1_told 43 = .ok (.getfield 118, 3) := by decide +kernel
theorem dX1_told_46 : decode cX1_told 46 = .ok (.iload_n 1, 1) := by decide +kernel
theorem dX1_told_47 : decode cX1_told 47 = .ok (.if_icmp .ne 44, 3) := by decide +kernel
theorem dX1_told_50 : decode cX1_told 50 = .ok (.aload 5, 2) := by decide +kernel
theorem dX1_told_52 : decode cX1_told 52 = .ok (.getfield 80, 3) := by decide +kernel
theorem dX1_told_55 : decode cX1_told 55 = .ok (.ifCond .eq 36, 3) := by decide +kernel
theorem dX1_told_58 : decode cX1_told 58 = .ok (.aload 5, 2) := by decide +kernel
theorem dX1_told_60 : decode cX1_told 60 = .ok (.invokevirtual 102, 3) := by decide +kernel
theorem dX1_told_63 : decode cX1_told 63 = .ok (.ifCond .eq 28, 3) := by decide +kernel
theorem dX1_told_66 : decode cX1_told 66 = .ok (.aload 5, 2) := by decide +kernel
theorem dX1_told_68 : decode cX1_told 68 = .ok (.aload_n 0, 1) := by decide +kernel
theorem dX1_told_69 : decode cX1_told 69 = .ok (.getfield 30, 3) := by decide +kernel
theorem dX1_told_72 : decode cX1_told 72 = .ok (.invokevirtual 121, 3) := by decide +kernel
theorem dX1_told_75 : decode cX1_told 75 = .ok (.ifCond .eq 16, 3) := by decide +kernel
theorem dX1_told_78 : decode cX1_told 78 = .ok (.iload_n 3, 1) := by decide +kernel
theorem dX1_told_79 : decode cX1_told 79 = .ok (.iload_n 2, 1) := by decide +kernel
theorem dX1_told_80 : decode cX1_told 80 = .ok (.if_icmp .ne 8, 3) := by decide +kernel
theorem dX1_told_83 : decode cX1_told 83 = .ok (.iload 4, 2) := by decide +kernel
theorem dX1_told_85 : decode cX1_told 85 = .ok (.iconst 1, 1) := by decide +kernel
theorem dX1_told_86 : decode cX1_told 86 = .ok (.iadd, 1) := by decide +kernel
theorem dX1_told_87 : decode cX1_told 87 = .ok (.ireturn, 1) := by decide +kernel
theorem dX1_told_88 : decode cX1_told 88 = .ok (.iinc 3 1, 3) := by decide +kernel
theorem dX1_told_91 : decode cX1_told 91 = .ok (.iinc 4 1, 3) := by decide +kernel
theorem dX1_told_94 : decode cX1_told 94 = .ok (.goto (-79), 3) := by decide +kernel
theorem dX1_told_97 : decode cX1_told 97 = .ok (.iconst 0, 1) := by decide +kernel
theorem dX1_told_98 : decode cX1_told 98 = .ok (.ireturn, 1) := by decide +kernel
theorem dX1_isAddress_0 : decode cX1_isAddress 0 = .ok (.iload_n 0, 1) := by decide +kernel
theorem dX1_isAddress_1 : decode cX1_isAddress 1 = .ok (.iconst 1, 1) := by decide +kernel
theorem dX1_isAddress_2 : decode cX1_isAddress 2 = .ok (.if_icmp .lt 13, 3) := by decide +kernel
theorem dX1_isAddress_5 : decode cX1_isAddress 5 = .ok (.iload_n 0, 1) := by decide +kernel
theorem dX1_isAddress_6 : decode cX1_isAddress 6 = .ok (.bipush 99, 2) := by decide +kernel
theorem dX1_isAddress_8 : decode cX1_isAddress 8 = .ok (.if_icmp .gt 7, 3) := by decide +kernel
theorem dX1_isAddress_11 : decode cX1_isAddress 11 = .ok (.iconst 1, 1) := by decide +kernel
theorem dX1_isAddress_12 : decode cX1_isAddress 12 = .ok (.goto 4, 3) := by decide +kernel
theorem dX1_isAddress_15 : decode cX1_isAddress 15 = .ok (.iconst 0, 1) := by decide +kernel
theorem dX1_isAddress_16 : decode cX1_isAddress 16 = .ok (.ireturn, 1) := by decide +kernel
theorem dX1_isPerson_0 : decode cX1_isPerson 0 = .ok (.iload_n 0, 1) := by decide +kernel
theorem dX1_isPerson_1 : decode cX1_isPerson 1 = .ok (.ifCond .lt 13, 3) := by decide +kernel
theorem dX1_isPerson_4 : decode cX1_isPerson 4 = .ok (.iload_n 0, 1) := by decide +kernel
theorem dX1_isPerson_5 : decode cX1_isPerson 5 = .ok (.bipush 49, 2) := by decide +kernel
theorem dX1_isPerson_7 : decode cX1_isPerson 7 = .ok (.if_icmp .gt 7, 3) := by decide +kernel
theorem dX1_isPerson_10 : decode cX1_isPerson 10 = .ok (.iconst 1, 1) := by decide +kernel
theorem dX1_isPerson_11 : decode cX1_isPerson 11 = .ok (.goto 4, 3) := by decide +kernel
theorem dX1_isPerson_14 : decode cX1_isPerson 14 = .ok (.iconst 0, 1) := by decide +kernel
theorem dX1_isPerson_15 : decode cX1_isPerson 15 = .ok (.ireturn, 1) := by decide +kernel
theorem dX1_isKind_0 : decode cX1_isKind 0 = .ok (.iload_n 0, 1) := by decide +kernel
theorem dX1_isKind_1 : decode cX1_isKind 1 = .ok (.ifCond .lt 13, 3) := by decide +kernel
theorem dX1_isKind_4 : decode cX1_isKind 4 = .ok (.iload_n 0, 1) := by decide +kernel
theorem dX1_isKind_5 : decode cX1_isKind 5 = .ok (.bipush 9, 2) := by decide +kernel
theorem dX1_isKind_7 : decode cX1_isKind 7 = .ok (.if_icmp .ge 7, 3) := by decide +kernel
theorem dX1_isKind_10 : decode cX1_isKind 10 = .ok (.iconst 1, 1) := by decide +kernel
theorem dX1_isKind_11 : decode cX1_isKind 11 = .ok (.goto 4, 3) := by decide +kernel
theorem dX1_isKind_14 : decode cX1_isKind 14 = .ok (.iconst 0, 1) := by decide +kernel
theorem dX1_isKind_15 : decode cX1_isKind 15 = .ok (.ireturn, 1) := by decide +kernel
theorem dX1_isDay_0 : decode cX1_isDay 0 = .ok (.lload_n 0, 1) := by decide +kernel
theorem dX1_isDay_1 : decode cX1_isDay 1 = .ok (.lconst 0, 1) := by decide +kernel
theorem dX1_isDay_2 : decode cX1_isDay 2 = .ok (.lcmp, 1) := by decide +kernel
theorem dX1_isDay_3 : decode cX1_isDay 3 = .ok (.ifCond .lt 15, 3) := by decide +kernel
theorem dX1_isDay_6 : decode cX1_isDay 6 = .ok (.lload_n 0, 1) := by decide +kernel
theorem dX1_isDay_7 : decode cX1_isDay 7 = .ok (.ldc2_w 124, 3) := by decide +kernel
theorem dX1_isDay_10 : decode cX1_isDay 10 = .ok (.lcmp, 1) := by decide +kernel
theorem dX1_isDay_11 : decode cX1_isDay 11 = .ok (.ifCond .gt 7, 3) := by decide +kernel
theorem dX1_isDay_14 : decode cX1_isDay 14 = .ok (.iconst 1, 1) := by decide +kernel
theorem dX1_isDay_15 : decode cX1_isDay 15 = .ok (.goto 4, 3) := by decide +kernel
theorem dX1_isDay_18 : decode cX1_isDay 18 = .ok (.iconst 0, 1) := by decide +kernel
theorem dX1_isDay_19 : decode cX1_isDay 19 = .ok (.ireturn, 1) := by decide +kernel
theorem dX1_doneBy_0 : decode cX1_doneBy 0 = .ok (.iload_n 0, 1) := by decide +kernel
theorem dX1_doneBy_1 : decode cX1_doneBy 1 = .ok (.iconst 3, 1) := by decide +kernel
theorem dX1_doneBy_2 : decode cX1_doneBy 2 = .ok (.idiv, 1) := by decide +kernel
theorem dX1_doneBy_3 : decode cX1_doneBy 3 = .ok (.ireturn, 1) := by decide +kernel
set_option maxRecDepth 20000 in
theorem ggX1_canBeClock_X1_isDay : GoodIn wsX1_canBeClock wsX1_isDay := goodIn_r _ [5, 6] (by decide +kernel) (by decide +kernel)
set_option maxRecDepth 20000 in
theorem gX1_canBeClock_X1_isDay : GoodIn wsX1_canBeClock (va_wsS RX1 48 yX1_isDay wsX1_isDay) := goodIn_app (goodIn_of _ (by decide +kernel)) ggX1_canBeClock_X1_isDay
theorem dX1_canBeClock_0 : decode cX1_canBeClock 0 = .ok (.lload_n 1, 1) := by decide +kernel
theorem dX1_canBeClock_1 : decode cX1_canBeClock 1 = .ok (.invokestatic 48, 3) := by decide +kernel
theorem dX1_canBeClock_4 : decode cX1_canBeClock 4 = .ok (.ifCond .eq 16, 3) := by decide +kernel
theorem dX1_canBeClock_7 : decode cX1_canBeClock 7 = .ok (.lload_n 1, 1) := by decide +kernel
theorem dX1_canBeClock_8 : decode cX1_canBeClock 8 = .ok (.aload_n 0, 1) := by decide +kernel
theorem dX1_canBeClock_9 : decode cX1_canBeClock 9 = .ok (.getfield 30, 3) := by decide +kernel
theorem dX1_canBeClock_12 : decode cX1_canBeClock 12 = .ok (.lcmp, 1) := by decide +kernel
theorem dX1_canBeClock_13 : decode cX1_canBeClock 13 = .ok (.ifCond .lt 7, 3) := by decide +kernel
theorem dX1_canBeClock_16 : decode cX1_canBeClock 16 = .ok (.iconst 1, 1) := by decide +kernel
theorem dX1_canBeClock_17 : decode cX1_canBeClock 17 = .ok (.goto 4, 3) := by decide +kernel
theorem dX1_canBeClock_20 : decode cX1_canBeClock 20 = .ok (.iconst 0, 1) := by decide +kernel
theorem dX1_canBeClock_21 : decode cX1_canBeClock 21 = .ok (.ireturn, 1) := by decide +kernel
set_option maxRecDepth 20000 in
theorem ggX1_find_Jx4a65c_size_8abf5 : GoodIn wsX1_find wsJx4a65c_size_8abf5 := goodIn_r _ [7, 8, 32, 33, 34] (by decide +kernel) (by decide +kernel)
set_option maxRecDepth 20000 in
theorem gX1_find_Jx4a65c_size_8abf5 : GoodIn wsX1_find (wsV RX1 52 RJx4a65c yJx4a65c_size_8abf5 wsJx4a65c_size_8abf5) := goodIn_app (goodIn_of _ (by decide +kernel)) ggX1_find_Jx4a65c_size_8abf5
set_option maxRecDepth 20000 in
theorem ggX1_find_Jx4a65c_get_915e3 : GoodIn wsX1_find wsJx4a65c_get_915e3 := goodIn_r _ [12, 8, 13, 14, 15, 16, 17, 18, 19, 20, 21, 22, 23, 6, 24, 25, 32, 33, 34] (by decide +kernel) (by decide +kernel)
set_option maxRecDepth 20000 in
theorem gX1_find_Jx4a65c_get_915e3 : GoodIn wsX1_find (wsV RX1 114 RJx4a65c yJx4a65c_get_915e3 wsJx4a65c_get_915e3) := goodIn_app (goodIn_of _ (by decide +kernel)) ggX1_find_Jx4a65c_get_915e3
theorem dX1_find_0 : decode cX1_find 0 = .ok (.iload_n 1, 1) := by decide +kernel
theorem dX1_find_1 : decode cX1_find 1 = .ok (.iconst 1, 1) := by decide +kernel
theorem dX1_find_2 : decode cX1_find 2 = .ok (.if_icmp .lt 14, 3) := by decide +kernel
theorem dX1_find_5 : decode cX1_find 5 = .ok (.iload_n 1, 1) := by decide +kernel
theorem dX1_find_6 : decode cX1_find 6 = .ok (.aload_n 0, 1) := by decide +kernel
theorem dX1_find_7 : decode cX1_find 7 = .ok (.getfield 10, 3) := by decide +kernel
theorem dX1_find_10 : decode cX1_find 10 = .ok (.invokevirtual 52, 3) := by decide +kernel
theorem dX1_find_13 : decode cX1_find 13 = .ok (.if_icmp .le 7, 3) := by decide +kernel
theorem dX1_find_16 : decode cX1_find 16 = .ok (.aconst_null, 1) := by decide +kernel
theorem dX1_find_17 : decode cX1_find 17 = .ok (.goto 16, 3) := by decide +kernel
theorem dX1_find_20 : decode cX1_find 20 = .ok (.aload_n 0, 1) := by decide +kernel
theorem dX1_find_21 : decode cX1_find 21 = .ok (.getfield 10, 3) := by decide +kernel
theorem dX1_find_24 : decode cX1_find 24 = .ok (.iload_n 1, 1) := by decide +kernel
theorem dX1_find_25 : decode cX1_find 25 = .ok (.iconst 1, 1) := by decide +kernel
theorem dX1_find_26 : decode cX1_find 26 = .ok (.isub, 1) := by decide +kernel
theorem dX1_find_27 : decode cX1_find 27 = .ok (.invokevirtual 114, 3) := by decide +kernel
theorem dX1_find_30 : decode cX1_find 30 = .ok (.checkcast 56, 3) := by decide +kernel
theorem dX1_find_33 : decode cX1_find 33 = .ok (.areturn, 1) := by decide +kernel
set_option maxRecDepth 20000 in
theorem ggX1_moveClock_Jx4a65c_size_8abf5 : GoodIn wsX1_moveClock wsJx4a65c_size_8abf5 := goodIn_r _ [8, 9, 47, 48, 49] (by decide +kernel) (by decide +kernel)
set_option maxRecDepth 20000 in
theorem gX1_moveClock_Jx4a65c_size_8abf5 : GoodIn wsX1_moveClock (wsV RX1 52 RJx4a65c yJx4a65c_size_8abf5 wsJx4a65c_size_8abf5) := goodIn_app (goodIn_of _ (by decide +kernel)) ggX1_moveClock_Jx4a65c_size_8abf5
set_option maxRecDepth 20000 in
theorem ggX1_moveClock_Jx4a65c_get_915e3 : GoodIn wsX1_moveClock wsJx4a65c_get_915e3 := goodIn_r _ [13, 9, 14, 15, 16, 17, 18, 19, 20, 21, 22, 23, 24, 7, 25, 26, 47, 48, 49] (by decide +kernel) (by decide +kernel)
set_option maxRecDepth 20000 in
theorem gX1_moveClock_Jx4a65c_get_915e3 : GoodIn wsX1_moveClock (wsV RX1 114 RJx4a65c yJx4a65c_get_915e3 wsJx4a65c_get_915e3) := goodIn_app (goodIn_of _ (by decide +kernel)) ggX1_moveClock_Jx4a65c_get_915e3
set_option maxRecDepth 20000 in
theorem ggX1_moveClock_X0_lapseIfDue : GoodIn wsX1_moveClock wsX0_lapseIfDue := goodIn_r _ [31, 32, 33, 34, 35, 36, 37, 38, 30, 39, 40, 50, 51, 52, 53, 54, 55, 56, 57, 58] (by decide +kernel) (by decide +kernel)
set_option maxRecDepth 20000 in
theorem gX1_moveClock_X0_lapseIfDue : GoodIn wsX1_moveClock (wsV RX1 126 RX0 yX0_lapseIfDue wsX0_lapseIfDue) := goodIn_app (goodIn_of _ (by decide +kernel)) ggX1_moveClock_X0_lapseIfDue
theorem dX1_moveClock_0 : decode cX1_moveClock 0 = .ok (.aload_n 0, 1) := by decide +kernel
theorem dX1_moveClock_1 : decode cX1_moveClock 1 = .ok (.lload_n 1, 1) := by decide +kernel
theorem dX1_moveClock_2 : decode cX1_moveClock 2 = .ok (.putfield 30, 3) := by decide +kernel
theorem dX1_moveClock_5 : decode cX1_moveClock 5 = .ok (.iconst 0, 1) := by decide +kernel
theorem dX1_moveClock_6 : decode cX1_moveClock 6 = .ok (.istore_n 3, 1) := by decide +kernel
theorem dX1_moveClock_7 : decode cX1_moveClock 7 = .ok (.iconst 0, 1) := by decide +kernel
theorem dX1_moveClock_8 : decode cX1_moveClock 8 = .ok (.istore 4, 2) := by decide +kernel
theorem dX1_moveClock_10 : decode cX1_moveClock 10 = .ok (.iload 4, 2) := by decide +kernel
theorem dX1_moveClock_12 : decode cX1_moveClock 12 = .ok (.aload_n 0, 1) := by decide +kernel
theorem dX1_moveClock_13 : decode cX1_moveClock 13 = .ok (.getfield 10, 3) := by decide +kernel
theorem dX1_moveClock_16 : decode cX1_moveClock 16 = .ok (.invokevirtual 52, 3) := by decide +kernel
theorem dX1_moveClock_19 : decode cX1_moveClock 19 = .ok (.if_icmp .ge 34, 3) := by decide +kernel
theorem dX1_moveClock_22 : decode cX1_moveClock 22 = .ok (.aload_n 0, 1) := by decide +kernel
theorem dX1_moveClock_23 : decode cX1_moveClock 23 = .ok (.getfield 10, 3) := by decide +kernel
theorem dX1_moveClock_26 : decode cX1_moveClock 26 = .ok (.iload 4, 2) := by decide +kernel
theorem dX1_moveClock_28 : decode cX1_moveClock 28 = .ok (.invokevirtual 114, 3) := by decide +kernel
theorem dX1_moveClock_31 : decode cX1_moveClock 31 = .ok (.checkcast 56, 3) := by decide +kernel
theorem dX1_moveClock_34 : decode cX1_moveClock 34 = .ok (.aload_n 0, 1) := by decide +kernel
theorem dX1_moveClock_35 : decode cX1_moveClock 35 = .ok (.getfield 30, 3) := by decide +kernel
theorem dX1_moveClock_38 : decode cX1_moveClock 38 = .ok (.invokevirtual 126, 3) := by decide +kernel
theorem dX1_moveClock_41 : decode cX1_moveClock 41 = .ok (.ifCond .eq 6, 3) := by decide +kernel
theorem dX1_moveClock_44 : decode cX1_moveClock 44 = .ok (.iinc 3 1, 3) := by decide +kernel
theorem dX1_moveClock_47 : decode cX1_moveClock 47 = .ok (.iinc 4 1, 3) := by decide +kernel
theorem dX1_moveClock_50 : decode cX1_moveClock 50 = .ok (.goto (-40), 3) := by decide +kernel
theorem dX1_moveClock_53 : decode cX1_moveClock 53 = .ok (.iload_n 3, 1) := by decide +kernel
theorem dX1_moveClock_54 : decode cX1_moveClock 54 = .ok (.ireturn, 1) := by decide +kernel
set_option maxRecDepth 20000 in
theorem ggX1_strongest_Jx4a65c_size_8abf5 : GoodIn wsX1_strongest wsJx4a65c_size_8abf5 := goodIn_r _ [9, 10, 58, 59, 60] (by decide +kernel) (by decide +kernel)
set_option maxRecDepth 20000 in
theorem gX1_strongest_Jx4a65c_size_8abf5 : GoodIn wsX1_strongest (wsV RX1 52 RJx4a65c yJx4a65c_size_8abf5 wsJx4a65c_size_8abf5) := goodIn_app (goodIn_of _ (by decide +kernel)) ggX1_strongest_Jx4a65c_size_8abf5
set_option maxRecDepth 20000 in
theorem ggX1_strongest_Jx4a65c_get_915e3 : GoodIn wsX1_strongest wsJx4a65c_get_915e3 := goodIn_r _ [14, 10, 15, 16, 17, 18, 19, 20, 21, 22, 23, 24, 25, 8, 26, 27, 58, 59, 60] (by decide +kernel) (by decide +kernel)
set_option maxRecDepth 20000 in
theorem gX1_strongest_Jx4a65c_get_915e3 : GoodIn wsX1_strongest (wsV RX1 114 RJx4a65c yJx4a65c_get_915e3 wsJx4a65c_get_915e3) := goodIn_app (goodIn_of _ (by decide +kernel)) ggX1_strongest_Jx4a65c_get_915e3
set_option maxRecDepth 20000 in
theorem ggX1_strongest_X0_concerns : GoodIn wsX1_strongest wsX0_concerns := goodIn_r _ [32, 33, 34, 35, 49, 50, 51, 52, 53, 54, 55, 56, 57] (by decide +kernel) (by decide +kernel)
set_option maxRecDepth 20000 in
theorem gX1_strongest_X0_concerns : GoodIn wsX1_strongest (wsV RX1 129 RX0 yX0_concerns wsX0_concerns) := goodIn_app (goodIn_of _ (by decide +kernel)) ggX1_strongest_X0_concerns
set_option maxRecDepth 20000 in
theorem ggX1_strongest_X0_isInForce : GoodIn wsX1_strongest wsX0_isInForce := goodIn_r _ [39, 40, 41, 42, 49, 50, 51, 52, 53, 54, 55, 56, 57] (by decide +kernel) (by decide +kernel)
set_option maxRecDepth 20000 in
theorem gX1_strongest_X0_isInForce : GoodIn wsX1_strongest (wsV RX1 121 RX0 yX0_isInForce wsX0_isInForce) := goodIn_app (goodIn_of _ (by decide +kernel)) ggX1_strongest_X0_isInForce
theorem dX1_strongest_0 : decode cX1_strongest 0 = .ok (.aconst_null, 1) := by decide +kernel
theorem dX1_strongest_1 : decode cX1_strongest 1 = .ok (.astore 6, 2) := by decide +kernel
theorem dX1_strongest_3 : decode cX1_strongest 3 = .ok (.iconst 0, 1) := by decide +kernel
theorem dX1_strongest_4 : decode cX1_strongest 4 = .ok (.istore 7, 2) := by decide +kernel
theorem dX1_strongest_6 : decode cX1_strongest 6 = .ok (.iload 7, 2) := by decide +kernel
theorem dX1_strongest_8 : decode cX1_strongest 8 = .ok (.aload_n 0, 1) := by decide +kernel
theorem dX1_strongest_9 : decode cX1_strongest 9 = .ok (.getfield 10, 3) := by decide +kernel
theorem dX1_strongest_12 : decode cX1_strongest 12 = .ok (.invokevirtual 52, 3) := by decide +kernel
theorem dX1_strongest_15 : decode cX1_strongest 15 = .ok (.if_icmp .ge 76, 3) := by decide +kernel
theorem dX1_strongest_18 : decode cX1_strongest 18 = .ok (.aload_n 0, 1) := by decide +kernel
theorem dX1_strongest_19 : decode cX1_strongest 19 = .ok (.getfield 10, 3) := by decide +kernel
theorem dX1_strongest_22 : decode cX1_strongest 22 = .ok (.iload 7, 2) := by decide +kernel
theorem dX1_strongest_24 : decode cX1_strongest 24 = .ok (.invokevirtual 114, 3) := by decide +kernel
theorem dX1_strongest_27 : decode cX1_strongest 27 = .ok (.checkcast 56, 3) := by decide +kernel
theorem dX1_strongest_30 : decode cX1_strongest 30 = .ok (.astore 8, 2) := by decide +kernel
theorem dX1_strongest_32 : decode cX1_strongest 32 = .ok (.aload 8, 2) := by decide +kernel
theorem dX1_strongest_34 : decode cX1_strongest 34 = .ok (.iload_n 1, 1) := by decide +kernel
theorem dX1_strongest_35 : decode cX1_strongest 35 = .ok (.iload_n 2, 1) := by decide +kernel
theorem dX1_strongest_36 : decode cX1_strongest 36 = .ok (.iload_n 3, 1) := by decide +kernel
theorem dX1_strongest_37 : decode cX1_strongest 37 = .ok (.invokevirtual 129, 3) := by decide +kernel
theorem dX1_strongest_40 : decode cX1_strongest 40 = .ok (.ifCond .eq 45, 3) := by decide +kernel
theorem dX1_strongest_43 : decode cX1_strongest 43 = .ok (.aload 8, 2) := by decide +kernel
theorem dX1_strongest_45 : decode cX1_strongest 45 = .ok (.lload 4, 2) := by decide +kernel
theorem dX1_strongest_47 : decode cX1_strongest 47 = .ok (.invokevirtual 121, 3) := by decide +kernel
theorem dX1_strongest_50 : decode cX1_strongest 50 = .ok (.ifCond .eq 35, 3) := by decide +kernel
theorem dX1_strongest_53 : decode cX1_strongest 53 = .ok (.aload 6, 2) := by decide +kernel
theorem dX1_strongest_55 : decode cX1_strongest 55 = .ok (.ifnull 26, 3) := by decide +kernel
theorem dX1_strongest_58 : decode cX1_strongest 58 = .ok (.aload_n 0, 1) := by decide +kernel
theorem dX1_strongest_59 : decode cX1_strongest 59 = .ok (.getfield 16, 3) := by decide +kernel
theorem dX1_strongest_62 : decode cX1_strongest 62 = .ok (.aload 8, 2) := by decide +kernel
theorem dX1_strongest_64 : decode cX1_strongest 64 = .ok (.getfield 105, 3) := by decide +kernel
theorem dX1_strongest_67 : decode cX1_strongest 67 = .ok (.iaload, 1) := by decide +kernel
theorem dX1_strongest_68 : decode cX1_strongest 68 = .ok (.aload_n 0, 1) := by decide +kernel
theorem dX1_strongest_69 : decode cX1_strongest 69 = .ok (.getfield 16, 3) := by decide +kernel
theorem dX1_strongest_72 : decode cX1_strongest 72 = .ok (.aload 6, 2) := by decide +kernel
theorem dX1_strongest_74 : decode cX1_strongest 74 = .ok (.getfield 105, 3) := by decide +kernel
theorem dX1_strongest_77 : decode cX1_strongest 77 = .ok (.iaload, 1) := by decide +kernel
theorem dX1_strongest_78 : decode cX1_strongest 78 = .ok (.if_icmp .lt 7, 3) := by decide +kernel
theorem dX1_strongest_81 : decode cX1_strongest 81 = .ok (.aload 8, 2) := by decide +kernel
theorem dX1_strongest_83 : decode cX1_strongest 83 = .ok (.astore 6, 2) := by decide +kernel
theorem dX1_strongest_85 : decode cX1_strongest 85 = .ok (.iinc 7 1, 3) := by decide +kernel
theorem dX1_strongest_88 : decode cX1_strongest 88 = .ok (.goto (-82), 3) := by decide +kernel
theorem dX1_strongest_91 : decode cX1_strongest 91 = .ok (.aload 6, 2) := by decide +kernel
theorem dX1_strongest_93 : decode cX1_strongest 93 = .ok (.areturn, 1) := by decide +kernel
theorem dX1_stepAt_0 : decode cX1_stepAt 0 = .ok (.iconst 0, 1) := by decide +kernel
theorem dX1_stepAt_1 : decode cX1_stepAt 1 = .ok (.istore_n 3, 1) := by decide +kernel
theorem dX1_stepAt_2 : decode cX1_stepAt 2 = .ok (.iload_n 3, 1) := by decide +kernel
theorem dX1_stepAt_3 : decode cX1_stepAt 3 = .ok (.iload_n 2, 1) := by decide +kernel
theorem dX1_stepAt_4 : decode cX1_stepAt 4 = .ok (.if_icmp .ge 21, 3) := by decide +kernel
theorem dX1_stepAt_7 : decode cX1_stepAt 7 = .ok (.aload_n 0, 1) := by decide +kernel
theorem dX1_stepAt_8 : decode cX1_stepAt 8 = .ok (.getfield 20, 3) := by decide +kernel
theorem dX1_stepAt_11 : decode cX1_stepAt 11 = .ok (.iload_n 3, 1) := by decide +kernel
theorem dX1_stepAt_12 : decode cX1_stepAt 12 = .ok (.iaload, 1) := by decide +kernel
theorem dX1_stepAt_13 : decode cX1_stepAt 13 = .ok (.iload_n 1, 1) := by decide +kernel
theorem dX1_stepAt_14 : decode cX1_stepAt 14 = .ok (.if_icmp .ne 5, 3) := by decide +kernel
theorem dX1_stepAt_17 : decode cX1_stepAt 17 = .ok (.iload_n 3, 1) := by decide +kernel
theorem dX1_stepAt_18 : decode cX1_stepAt 18 = .ok (.ireturn, 1) := by decide +kernel
theorem dX1_stepAt_19 : decode cX1_stepAt 19 = .ok (.iinc 3 1, 3) := by decide +kernel
theorem dX1_stepAt_22 : decode cX1_stepAt 22 = .ok (.goto (-20), 3) := by decide +kernel
theorem dX1_stepAt_25 : decode cX1_stepAt 25 = .ok (.iload_n 2, 1) := by decide +kernel
theorem dX1_stepAt_26 : decode cX1_stepAt 26 = .ok (.ireturn, 1) := by decide +kernel
theorem dX1_tellRing_0 : decode cX1_tellRing 0 = .ok (.iload_n 1, 1) := by decide +kernel
theorem dX1_tellRing_1 : decode cX1_tellRing 1 = .ok (.istore_n 3, 1) := by decide +kernel
theorem dX1_tellRing_2 : decode cX1_tellRing 2 = .ok (.iload_n 3, 1) := by decide +kernel
theorem dX1_tellRing_3 : decode cX1_tellRing 3 = .ok (.iload_n 2, 1) := by decide +kernel
theorem dX1_tellRing_4 : decode cX1_tellRing 4 = .ok (.if_icmp .ge 23, 3) := by decide +kernel
theorem dX1_tellRing_7 : decode cX1_tellRing 7 = .ok (.aload_n 0, 1) := by decide +kernel
theorem dX1_tellRing_8 : decode cX1_tellRing 8 = .ok (.getfield 23, 3) := by decide +kernel
theorem dX1_tellRing_11 : decode cX1_tellRing 11 = .ok (.iload_n 3, 1) := by decide +kernel
theorem dX1_tellRing_12 : decode cX1_tellRing 12 = .ok (.iload_n 1, 1) := by decide +kernel
theorem dX1_tellRing_13 : decode cX1_tellRing 13 = .ok (.isub, 1) := by decide +kernel
theorem dX1_tellRing_14 : decode cX1_tellRing 14 = .ok (.aload_n 0, 1) := by decide +kernel
theorem dX1_tellRing_15 : decode cX1_tellRing 15 = .ok (.getfield 20, 3) := by decide +kernel
theorem dX1_tellRing_18 : decode cX1_tellRing 18 = .ok (.iload_n 3, 1) := by decide +kernel
theorem dX1_tellRing_19 : decode cX1_tellRing 19 = .ok (.iaload, 1) := by decide +kernel
theorem dX1_tellRing_20 : decode cX1_tellRing 20 = .ok (.iastore, 1) := by decide +kernel
theorem dX1_tellRing_21 : decode cX1_tellRing 21 = .ok (.iinc 3 1, 3) := by decide +kernel
theorem dX1_tellRing_24 : decode cX1_tellRing 24 = .ok (.goto (-22), 3) := by decide +kernel
theorem dX1_tellRing_27 : decode cX1_tellRing 27 = .ok (.aload_n 0, 1) := by decide +kernel
theorem dX1_tellRing_28 : decode cX1_tellRing 28 = .ok (.iload_n 2, 1) := by decide +kernel
theorem dX1_tellRing_29 : decode cX1_tellRing 29 = .ok (.iload_n 1, 1) := by decide +kernel
theorem dX1_tellRing_30 : decode cX1_tellRing 30 = .ok (.isub, 1) := by decide +kernel
theorem dX1_tellRing_31 : decode cX1_tellRing 31 = .ok (.putfield 26, 3) := by decide +kernel
theorem dX1_tellRing_34 : decode cX1_tellRing 34 = .ok (.return_, 1) := by decide +kernel
theorem dX2_init_0 : decode cX2_init 0 = .ok (.aload_n 0, 1) := by decide +kernel
theorem dX2_init_1 : decode cX2_init 1 = .ok (.invokespecial 1, 3) := by decide +kernel
theorem dX2_init_4 : decode cX2_init 4 = .ok (.aload_n 0, 1) := by decide +kernel
theorem dX2_init_5 : decode cX2_init 5 = .ok (.sipush 201, 3) := by decide +kernel
theorem dX2_init_8 : decode cX2_init 8 = .ok (.newarray .int, 2) := by decide +kernel
theorem dX2_init_10 : decode cX2_init 10 = .ok (.putfield 7, 3) := by decide +kernel
theorem dX2_init_13 : decode cX2_init 13 = .ok (.aload_n 0, 1) := by decide +kernel
theorem dX2_init_14 : decode cX2_init 14 = .ok (.sipush 201, 3) := by decide +kernel
theorem dX2_init_17 : decode cX2_init 17 = .ok (.newarray .int, 2) := by decide +kernel
theorem dX2_init_19 : decode cX2_init 19 = .ok (.putfield 13, 3) := by decide +kernel
theorem dX2_init_22 : decode cX2_init 22 = .ok (.aload_n 0, 1) := by decide +kernel
theorem dX2_init_23 : decode cX2_init 23 = .ok (.sipush 201, 3) := by decide +kernel
theorem dX2_init_26 : decode cX2_init 26 = .ok (.newarray .int, 2) := by decide +kernel
theorem dX2_init_28 : decode cX2_init 28 = .ok (.putfield 16, 3) := by decide +kernel
theorem dX2_init_31 : decode cX2_init 31 = .ok (.aload_n 0, 1) := by decide +kernel
theorem dX2_init_32 : decode cX2_init 32 = .ok (.sipush 201, 3) := by decide +kernel
theorem dX2_init_35 : decode cX2_init 35 = .ok (.newarray .int, 2) := by decide +kernel
theorem dX2_init_37 : decode cX2_init 37 = .ok (.putfield 19, 3) := by decide +kernel
theorem dX2_init_40 : decode cX2_init 40 = .ok (.aload_n 0, 1) := by decide +kernel
theorem dX2_init_41 : decode cX2_init 41 = .ok (.sipush 201, 3) := by decide +kernel
theorem dX2_init_44 : decode cX2_init 44 = .ok (.newarray .long, 2) := by decide +kernel
theorem dX2_init_46 : decode cX2_init 46 = .ok (.putfield 22, 3) := by decide +kernel
theorem dX2_init_49 : decode cX2_init 49 = .ok (.aload_n 0, 1) := by decide +kernel
theorem dX2_init_50 : decode cX2_init 50 = .ok (.sipush 201, 3) := by decide +kernel
theorem dX2_init_53 : decode cX2_init 53 = .ok (.newarray .long, 2) := by decide +kernel
theorem dX2_init_55 : decode cX2_init 55 = .ok (.putfield 26, 3) := by decide +kernel
theorem dX2_init_58 : decode cX2_init 58 = .ok (.aload_n 0, 1) := by decide +kernel
theorem dX2_init_59 : decode cX2_init 59 = .ok (.sipush 201, 3) := by decide +kernel
theorem dX2_init_62 : decode cX2_init 62 = .ok (.newarray .long, 2) := by decide +kernel
theorem dX2_init_64 : decode cX2_init 64 = .ok (.putfield 29, 3) := by decide +kernel
theorem dX2_init_67 : decode cX2_init 67 = .ok (.aload_n 0, 1) := by decide +kernel
theorem dX2_init_68 : decode cX2_init 68 = .ok (.sipush 201, 3) := by decide +kernel
theorem dX2_init_71 : decode cX2_init 71 = .ok (.newarray .boolean, 2) := by decide +kernel
theorem dX2_init_73 : decode cX2_init 73 = .ok (.putfield 32, 3) := by decide +kernel
theorem dX2_init_76 : decode cX2_init 76 = .ok (.aload_n 0, 1) := by decide +kernel
theorem dX2_init_77 : decode cX2_init 77 = .ok (.sipush 201, 3) := by decide +kernel
theorem dX2_init_80 : decode cX2_init 80 = .ok (.newarray .long, 2) := by decide +kernel
theorem dX2_init_82 : decode cX2_init 82 = .ok (.putfield 36, 3) := by decide +kernel
theorem dX2_init_85 : decode cX2_init 85 = .ok (.aload_n 0, 1) := by decide +kernel
theorem dX2_init_86 : decode cX2_init 86 = .ok (.bipush 9, 2) := by decide +kernel
theorem dX2_init_88 : decode cX2_init 88 = .ok (.newarray .int, 2) := by decide +kernel
theorem dX2_init_90 : decode cX2_init 90 = .ok (.putfield 39, 3) := by decide +kernel
theorem dX2_init_93 : decode cX2_init 93 = .ok (.aload_n 0, 1) := by decide +kernel
theorem dX2_init_94 : decode cX2_init 94 = .ok (.bipush 101, 2) := by decide +kernel
theorem dX2_init_96 : decode cX2_init 96 = .ok (.newarray .int, 2) := by decide +kernel
theorem dX2_init_98 : decode cX2_init 98 = .ok (.putfield 42, 3) := by decide +kernel
theorem dX2_init_101 : decode cX2_init 101 = .ok (.aload_n 0, 1) := by decide +kernel
theorem dX2_init_102 : decode cX2_init 102 = .ok (.bipush 100, 2) := by decide +kernel
theorem dX2_init_104 : decode cX2_init 104 = .ok (.newarray .int, 2) := by decide +kernel
theorem dX2_init_106 : decode cX2_init 106 = .ok (.putfield 45, 3) := by decide +kernel
theorem dX2_init_109 : decode cX2_init 109 = .ok (.aload_n 0, 1) := by decide +kernel
theorem dX2_init_110 : decode cX2_init 110 = .ok (.iconst 0, 1) := by decide +kernel
theorem dX2_init_111 : decode cX2_init 111 = .ok (.putfield 48, 3) := by decide +kernel
theorem dX2_init_114 : decode cX2_init 114 = .ok (.return_, 1) := by decide +kernel
theorem dX2_isIn_0 : decode cX2_isIn 0 = .ok (.lload_n 0, 1) := by decide +kernel
theorem dX2_isIn_1 : decode cX2_isIn 1 = .ok (.lload_n 2, 1) := by decide +kernel
theorem dX2_isIn_2 : decode cX2_isIn 2 = .ok (.lcmp, 1) := by decide +kernel
theorem dX2_isIn_3 : decode cX2_isIn 3 = .ok (.ifCond .lt 14, 3) := by decide +kernel
theorem dX2_isIn_6 : decode cX2_isIn 6 = .ok (.lload_n 0, 1) := by decide +kernel
theorem dX2_isIn_7 : decode cX2_isIn 7 = .ok (.lload 4, 2) := by decide +kernel
theorem dX2_isIn_9 : decode cX2_isIn 9 = .ok (.lcmp, 1) := by decide +kernel
theorem dX2_isIn_10 : decode cX2_isIn 10 = .ok (.ifCond .gt 7, 3) := by decide +kernel
theorem dX2_isIn_13 : decode cX2_isIn 13 = .ok (.iconst 1, 1) := by decide +kernel
theorem dX2_isIn_14 : decode cX2_isIn 14 = .ok (.goto 4, 3) := by decide +kernel
theorem dX2_isIn_17 : decode cX2_isIn 17 = .ok (.iconst 0, 1) := by decide +kernel
theorem dX2_isIn_18 : decode cX2_isIn 18 = .ok (.ireturn, 1) := by decide +kernel
set_option maxRecDepth 20000 in
theorem ggX2_isOrder_X2_isIn : GoodIn wsX2_isOrder wsX2_isIn := goodIn_r _ [5] (by decide +kernel) (by decide +kernel)
set_option maxRecDepth 20000 in
theorem gX2_isOrder_X2_isIn : GoodIn wsX2_isOrder (va_wsS RX2 58 yX2_isIn wsX2_isIn) := goodIn_app (goodIn_of _ (by decide +kernel)) ggX2_isOrder_X2_isIn
theorem dX2_isOrder_0 : decode cX2_isOrder 0 = .ok (.iload_n 1, 1) := by decide +kernel
theorem dX2_isOrder_1 : decode cX2_isOrder 1 = .ok (.i2l, 1) := by decide +kernel
theorem dX2_isOrder_2 : decode cX2_isOrder 2 = .ok (.lconst 1, 1) := by decide +kernel
theorem dX2_isOrder_3 : decode cX2_isOrder 3 = .ok (.aload_n 0, 1) := by decide +kernel
theorem dX2_isOrder_4 : decode cX2_isOrder 4 = .ok (.getfield 55, 3) := by decide +kernel
theorem dX2_isOrder_7 : decode cX2_isOrder 7 = .ok (.i2l, 1) := by decide +kernel
theorem dX2_isOrder_8 : decode cX2_isOrder 8 = .ok (.invokestatic 58, 3) := by decide +kernel
theorem dX2_isOrder_11 : decode cX2_isOrder 11 = .ok (.ireturn, 1) := by decide +kernel
set_option maxRecDepth 20000 in
theorem ggX2_isDay_X2_isIn : GoodIn wsX2_isDay wsX2_isIn := goodIn_r _ [6] (by decide +kernel) (by decide +kernel)
set_option maxRecDepth 20000 in
theorem gX2_isDay_X2_isIn : GoodIn wsX2_isDay (va_wsS RX2 58 yX2_isIn wsX2_isIn) := goodIn_app (goodIn_of _ (by decide +kernel)) ggX2_isDay_X2_isIn
theorem dX2_isDay_0 : decode cX2_isDay 0 = .ok (.lload_n 1, 1) := by decide +kernel
theorem dX2_isDay_1 : decode cX2_isDay 1 = .ok (.aload_n 0, 1) := by decide +kernel
theorem dX2_isDay_2 : decode cX2_isDay 2 = .ok (.getfield 62, 3) := by decide +kernel
theorem dX2_isDay_5 : decode cX2_isDay 5 = .ok (.ldc2_w 66, 3) := by decide +kernel
theorem dX2_isDay_8 : decode cX2_isDay 8 = .ok (.invokestatic 58, 3) := by decide +kernel
theorem dX2_isDay_11 : decode cX2_isDay 11 = .ok (.ireturn, 1) := by decide +kernel
set_option maxRecDepth 20000 in
theorem ggX2_order_X2_isIn : GoodIn wsX2_order wsX2_isIn := goodIn_r _ [20] (by decide +kernel) (by decide +kernel)
set_option maxRecDepth 20000 in
theorem gX2_order_X2_isIn : GoodIn wsX2_order (va_wsS RX2 58 yX2_isIn wsX2_isIn) := goodIn_app (goodIn_of _ (by decide +kernel)) ggX2_order_X2_isIn
theorem dX2_order_0 : decode cX2_order 0 = .ok (.aload_n 0, 1) := by decide +kernel
theorem dX2_order_1 : decode cX2_order 1 = .ok (.iconst 0, 1) := by decide +kernel
theorem dX2_order_2 : decode cX2_order 2 = .ok (.putfield 52, 3) := by decide +kernel
theorem dX2_order_5 : decode cX2_order 5 = .ok (.iload_n 1, 1) := by decide +kernel
theorem dX2_order_6 : decode cX2_order 6 = .ok (.ifCond .lt 12, 3) := by decide +kernel
theorem dX2_order_9 : decode cX2_order 9 = .ok (.iload_n 1, 1) := by decide +kernel
theorem dX2_order_10 : decode cX2_order 10 = .ok (.iconst 3, 1) := by decide +kernel
theorem dX2_order_11 : decode cX2_order 11 = .ok (.if_icmp .ge 7, 3) := by decide +kernel
theorem dX2_order_14 : decode cX2_order 14 = .ok (.iconst 1, 1) := by decide +kernel
theorem dX2_order_15 : decode cX2_order 15 = .ok (.goto 4, 3) := by decide +kernel
theorem dX2_order_18 : decode cX2_order 18 = .ok (.iconst 0, 1) := by decide +kernel
theorem dX2_order_19 : decode cX2_order 19 = .ok (.istore 9, 2) := by decide +kernel
theorem dX2_order_21 : decode cX2_order 21 = .ok (.iload_n 2, 1) := by decide +kernel
theorem dX2_order_22 : decode cX2_order 22 = .ok (.i2l, 1) := by decide +kernel
theorem dX2_order_23 : decode cX2_order 23 = .ok (.lconst 1, 1) := by decide +kernel
theorem dX2_order_24 : decode cX2_order 24 = .ok (.ldc2_w 68, 3) := by decide +kernel
theorem dX2_order_27 : decode cX2_order 27 = .ok (.invokestatic 58, 3) := by decide +kernel
theorem dX2_order_30 : decode cX2_order 30 = .ok (.ifCond .eq 35, 3) := by decide +kernel
theorem dX2_order_33 : decode cX2_order 33 = .ok (.iload_n 3, 1) := by decide +kernel
theorem dX2_order_34 : decode cX2_order 34 = .ok (.i2l, 1) := by decide +kernel
theorem dX2_order_35 : decode cX2_order 35 = .ok (.ldc2_w 70, 3) := by decide +kernel
theorem dX2_order_38 : decode cX2_order 38 = .ok (.ldc2_w 72, 3) := by decide +kernel
theorem dX2_order_41 : decode cX2_order 41 = .ok (.invokestatic 58, 3) := by decide +kernel
theorem dX2_order_44 : decode cX2_order 44 = .ok (.ifCond .eq 21, 3) := by decide +kernel
theorem dX2_order_47 : decode cX2_order 47 = .ok (.iload 9, 2) := by decide +kernel
theorem dX2_order_49 : decode cX2_order 49 = .ok (.ifCond .eq 19, 3) := by decide +kernel
theorem dX2_order_52 : decode cX2_order 52 = .ok (.iload 4, 2) := by decide +kernel
theorem dX2_order_54 : decode cX2_order 54 = .ok (.i2l, 1) := by decide +kernel
theorem dX2_order_55 : decode cX2_order 55 = .ok (.lconst 1, 1) := by decide +kernel
theorem dX2_order_56 : decode cX2_order 56 = .ok (.ldc2_w 68, 3) := by decide +kernel
theorem dX2_order_59 : decode cX2_order 59 = .ok (.invokestatic 58, 3) := by decide +kernel
theorem dX2_order_62 : decode cX2_order 62 = .ok (.ifCond .ne 6, 3) := by decide +kernel
theorem dX2_order_65 : decode cX2_order 65 = .ok (.bipush (-101), 2) := by decide +kernel
theorem dX2_order_67 : decode cX2_order 67 = .ok (.ireturn, 1) := by decide +kernel
theorem dX2_order_68 : decode cX2_order 68 = .ok (.iload_n 1, 1) := by decide +kernel
theorem dX2_order_69 : decode cX2_order 69 = .ok (.i2l, 1) := by decide +kernel
theorem dX2_order_70 : decode cX2_order 70 = .ok (.lconst 0, 1) := by decide +kernel
theorem dX2_order_71 : decode cX2_order 71 = .ok (.ldc2_w 74, 3) := by decide +kernel
theorem dX2_order_74 : decode cX2_order 74 = .ok (.invokestatic 58, 3) := by decide +kernel
theorem dX2_order_77 : decode cX2_order 77 = .ok (.ifCond .eq 38, 3) := by decide +kernel
theorem dX2_order_80 : decode cX2_order 80 = .ok (.lload 5, 2) := by decide +kernel
theorem dX2_order_82 : decode cX2_order 82 = .ok (.lconst 0, 1) := by decide +kernel
theorem dX2_order_83 : decode cX2_order 83 = .ok (.lcmp, 1) := by decide +kernel
theorem dX2_order_84 : decode cX2_order 84 = .ok (.ifCond .lt 31, 3) := by decide +kernel
theorem dX2_order_87 : decode cX2_order 87 = .ok (.lload 5, 2) := by decide +kernel
theorem dX2_order_89 : decode cX2_order 89 = .ok (.lload 7, 2) := by decide +kernel
theorem dX2_order_91 : decode cX2_order 91 = .ok (.lcmp, 1) := by decide +kernel
theorem dX2_order_92 : decode cX2_order 92 = .ok (.ifCond .gt 23, 3) := by decide +kernel
theorem dX2_order_95 : decode cX2_order 95 = .ok (.lload 7, 2) := by decide +kernel
theorem dX2_order_97 : decode cX2_order 97 = .ok (.ldc2_w 66, 3) := by decide +kernel
theorem dX2_order_100 : decode cX2_order 100 = .ok (.lcmp, 1) := by decide +kernel
theorem dX2_order_101 : decode cX2_order 101 = .ok (.ifCond .gt 14, 3) := by decide +kernel
theorem dX2_order_104 : decode cX2_order 104 = .ok (.iload 9, 2) := by decide +kernel
theorem dX2_order_106 : decode cX2_order 106 = .ok (.ifCond .eq 12, 3) := by decide +kernel
theorem dX2_order_109 : decode cX2_order 109 = .ok (.iload 4, 2) := by decide +kernel
theorem dX2_order_111 : decode cX2_order 111 = .ok (.iload_n 2, 1) := by decide +kernel
theorem dX2_order_112 : decode cX2_order 112 = .ok (.if_icmp .ne 6, 3) := by decide +kernel
theorem dX2_order_115 : decode cX2_order 115 = .ok (.bipush (-102), 2) := by decide +kernel
theorem dX2_order_117 : decode cX2_order 117 = .ok (.ireturn, 1) := by decide +kernel
theorem dX2_order_118 : decode cX2_order 118 = .ok (.aload_n 0, 1) := by decide +kernel
theorem dX2_order_119 : decode cX2_order 119 = .ok (.getfield 55, 3) := by decide +kernel
theorem dX2_order_122 : decode cX2_order 122 = .ok (.sipush 200, 3) := by decide +kernel
theorem dX2_order_125 : decode cX2_order 125 = .ok (.if_icmp .ne 6, 3) := by decide +kernel
theorem dX2_order_128 : decode cX2_order 128 = .ok (.bipush (-104), 2) := by decide +kernel
theorem dX2_order_130 : decode cX2_order 130 = .ok (.ireturn, 1) := by decide +kernel
theorem dX2_order_131 : decode cX2_order 131 = .ok (.aload_n 0, 1) := by decide +kernel
theorem dX2_order_132 : decode cX2_order 132 = .ok (.dup, 1) := by decide +kernel
theorem dX2_order_133 : decode cX2_order 133 = .ok (.getfield 55, 3) := by decide +kernel
theorem dX2_order_136 : decode cX2_order 136 = .ok (.iconst 1, 1) := by decide +kernel
theorem dX2_order_137 : decode cX2_order 137 = .ok (.iadd, 1) := by decide +kernel
theorem dX2_order_138 : decode cX2_order 138 = .ok (.putfield 55, 3) := by decide +kernel
theorem dX2_order_141 : decode cX2_order 141 = .ok (.aload_n 0, 1) := by decide +kernel
theorem dX2_order_142 : decode cX2_order 142 = .ok (.getfield 7, 3) := by decide +kernel
theorem dX2_order_145 : decode cX2_order 145 = .ok (.aload_n 0, 1) := by decide +kernel
theorem dX2_order_146 : decode cX2_order 146 = .ok (.getfield 55, 3) := by decide +kernel
theorem dX2_order_149 : decode cX2_order 149 = .ok (.iload_n 1, 1) := by decide +kernel
theorem dX2_order_150 : decode cX2_order 150 = .ok (.iastore, 1) := by decide +kernel
theorem dX2_order_151 : decode cX2_order 151 = .ok (.aload_n 0, 1) := by decide +kernel
theorem dX2_order_152 : decode cX2_order 152 = .ok (.getfield 13, 3) := by decide +kernel
theorem dX2_order_155 : decode cX2_order 155 = .ok (.aload_n 0, 1) := by decide +kernel
theorem dX2_order_156 : decode cX2_order 156 = .ok (.getfield 55, 3) := by decide +kernel
theorem dX2_order_159 : decode cX2_order 159 = .ok (.iload_n 2, 1) := by decide +kernel
theorem dX2_order_160 : decode cX2_order 160 = .ok (.iastore, 1) := by decide +kernel
theorem dX2_order_161 : decode cX2_order 161 = .ok (.aload_n 0, 1) := by decide +kernel
theorem dX2_order_162 : decode cX2_order 162 = .ok (.getfield 16, 3) := by decide +kernel
theorem dX2_order_165 : decode cX2_order 165 = .ok (.aload_n 0, 1) := by decide +kernel
theorem dX2_order_166 : decode cX2_order 166 = .ok (.getfield 55, 3) := by decide +kernel
theorem dX2_order_169 : decode cX2_order 169 = .ok (.iload_n 3, 1) := by decide +kernel
theorem dX2_order_170 : decode cX2_order 170 = .ok (.iastore, 1) := by decide +kernel
theorem dX2_order_171 : decode cX2_order 171 = .ok (.aload_n 0, 1) := by decide +kernel
theorem dX2_order_172 : decode cX2_order 172 = .ok (.getfield 19, 3) := by decide +kernel
theorem dX2_order_175 : decode cX2_order 175 = .ok (.aload_n 0, 1) := by decide +kernel
theorem dX2_order_176 : decode cX2_order 176 = .ok (.getfield 55, 3) := by decide +kernel
theorem dX2_order_179 : decode cX2_order 179 = .ok (.iload 9, 2) := by decide +kernel
theorem dX2_order_181 : decode cX2_order 181 = .ok (.ifCond .eq 8, 3) := by decide +kernel
theorem dX2_order_184 : decode cX2_order 184 = .ok (.iload 4, 2) := by decide +kernel
theorem dX2_order_186 : decode cX2_order 186 = .ok (.goto 4, 3) := by decide +kernel
theorem dX2_order_189 : decode cX2_order 189 = .ok (.iconst 0, 1) := by decide +kernel
theorem dX2_order_190 : decode cX2_order 190 = .ok (.iastore, 1) := by decide +kernel
theorem dX2_order_191 : decode cX2_order 191 = .ok (.aload_n 0, 1) := by decide +kernel
theorem dX2_order_192 : decode cX2_order 192 = .ok (.getfield 22, 3) := by decide +kernel
theorem dX2_order_195 : decode cX2_order 195 = .ok (.aload_n 0, 1) := by decide +kernel
theorem dX2_order_196 : decode cX2_order 196 = .ok (.getfield 55, 3) := by decide +kernel
theorem dX2_order_199 : decode cX2_order 199 = .ok (.lload 5, 2) := by decide +kernel
theorem dX2_order_201 : decode cX2_order 201 = .ok (.lastore, 1) := by decide +kernel
theorem dX2_order_202 : decode cX2_order 202 = .ok (.aload_n 0, 1) := by decide +kernel
theorem dX2_order_203 : decode cX2_order 203 = .ok (.getfield 26, 3) := by decide +kernel
theorem dX2_order_206 : decode cX2_order 206 = .ok (.aload_n 0, 1) := by decide +kernel
theorem dX2_order_207 : decode cX2_order 207 = .ok (.getfield 55, 3) := by decide +kernel
theorem dX2_order_210 : decode cX2_order 210 = .ok (.lload 7, 2) := by decide +kernel
theorem dX2_order_212 : decode cX2_order 212 = .ok (.lastore, 1) := by decide +kernel
theorem dX2_order_213 : decode cX2_order 213 = .ok (.aload_n 0, 1) := by decide +kernel
theorem dX2_order_214 : decode cX2_order 214 = .ok (.getfield 29, 3) := by decide +kernel
theorem dX2_order_217 : decode cX2_order 217 = .ok (.aload_n 0, 1) := by decide +kernel
theorem dX2_order_218 : decode cX2_order 218 = .ok (.getfield 55, 3) := by decide +kernel
theorem dX2_order_221 : decode cX2_order 221 = .ok (.aload_n 0, 1) := by decide +kernel
theorem dX2_order_222 : decode cX2_order 222 = .ok (.getfield 62, 3) := by decide +kernel
theorem dX2_order_225 : decode cX2_order 225 = .ok (.lastore, 1) := by decide +kernel
theorem dX2_order_226 : decode cX2_order 226 = .ok (.aload_n 0, 1) := by decide +kernel
theorem dX2_order_227 : decode cX2_order 227 = .ok (.getfield 36, 3) := by decide +kernel
theorem dX2_order_230 : decode cX2_order 230 = .ok (.aload_n 0, 1) := by decide +kernel
theorem dX2_order_231 : decode cX2_order 231 = .ok (.getfield 55, 3) := by decide +kernel
theorem dX2_order_234 : decode cX2_order 234 = .ok (.ldc2_w 70, 3) := by decide +kernel
theorem dX2_order_237 : decode cX2_order 237 = .ok (.lastore, 1) := by decide +kernel
theorem dX2_order_238 : decode cX2_order 238 = .ok (.aload_n 0, 1) := by decide +kernel
theorem dX2_order_239 : decode cX2_order 239 = .ok (.getfield 55, 3) := by decide +kernel
theorem dX2_order_242 : decode cX2_order 242 = .ok (.ireturn, 1) := by decide +kernel
theorem dX2_set_0 : decode cX2_set 0 = .ok (.aload_n 0, 1) := by decide +kernel
theorem dX2_set_1 : decode cX2_set 1 = .ok (.lload_n 1, 1) := by decide +kernel
theorem dX2_set_2 : decode cX2_set 2 = .ok (.putfield 62, 3) := by decide +kernel
theorem dX2_set_5 : decode cX2_set 5 = .ok (.iconst 0, 1) := by decide +kernel
theorem dX2_set_6 : decode cX2_set 6 = .ok (.istore_n 3, 1) := by decide +kernel
theorem dX2_set_7 : decode cX2_set 7 = .ok (.iconst 1, 1) := by decide +kernel
theorem dX2_set_8 : decode cX2_set 8 = .ok (.istore 4, 2) := by decide +kernel
theorem dX2_set_10 : decode cX2_set 10 = .ok (.iload 4, 2) := by decide +kernel
theorem dX2_set_12 : decode cX2_set 12 = .ok (.aload_n 0, 1) := by decide +kernel
theorem dX2_set_13 : decode cX2_set 13 = .ok (.getfield 55, 3) := by decide +kernel
theorem dX2_set_16 : decode cX2_set 16 = .ok (.if_icmp .gt 68, 3) := by decide +kernel
theorem dX2_set_19 : decode cX2_set 19 = .ok (.aload_n 0, 1) := by decide +kernel
theorem dX2_set_20 : decode cX2_set 20 = .ok (.getfield 32, 3) := by decide +kernel
theorem dX2_set_23 : decode cX2_set 23 = .ok (.iload 4, 2) := by decide +kernel
theorem dX2_set_25 : decode cX2_set 25 = .ok (.baload, 1) := by decide +kernel
theorem dX2_set_26 : decode cX2_set 26 = .ok (.ifCond .ne 52, 3) := by decide +kernel
theorem dX2_set_29 : decode cX2_set 29 = .ok (.aload_n 0, 1) := by decide +kernel
theorem dX2_set_30 : decode cX2_set 30 = .ok (.getfield 36, 3) := by decide +kernel
theorem dX2_set_33 : decode cX2_set 33 = .ok (.iload 4, 2) := by decide +kernel
theorem dX2_set_35 : decode cX2_set 35 = .ok (.laload, 1) := by decide +kernel
theorem dX2_set_36 : decode cX2_set 36 = .ok (.lconst 0, 1) := by decide +kernel
theorem dX2_set_37 : decode cX2_set 37 = .ok (.lcmp, 1) := by decide +kernel
theorem dX2_set_38 : decode cX2_set 38 = .ok (.ifCond .ge 40, 3) := by decide +kernel
theorem dX2_set_41 : decode cX2_set 41 = .ok (.lload_n 1, 1) := by decide +kernel
theorem dX2_set_42 : decode cX2_set 42 = .ok (.aload_n 0, 1) := by decide +kernel
theorem dX2_set_43 : decode cX2_set 43 = .ok (.getfield 29, 3) := by decide +kernel
theorem dX2_set_46 : decode cX2_set 46 = .ok (.iload 4, 2) := by decide +kernel
theorem dX2_set_48 : decode cX2_set 48 = .ok (.laload, 1) := by decide +kernel
theorem dX2_set_49 : decode cX2_set 49 = .ok (.lsub, 1) := by decide +kernel
theorem dX2_set_50 : decode cX2_set 50 = .ok (.ldc2_w 76, 3) := by decide +kernel
theorem dX2_set_53 : decode cX2_set 53 = .ok (.lcmp, 1) := by decide +kernel
theorem dX2_set_54 : decode cX2_set 54 = .ok (.ifCond .le 24, 3) := by decide +kernel
theorem dX2_set_57 : decode cX2_set 57 = .ok (.aload_n 0, 1) := by decide +kernel
theorem dX2_set_58 : decode cX2_set 58 = .ok (.getfield 36, 3) := by decide +kernel
theorem dX2_set_61 : decode cX2_set 61 = .ok (.iload 4, 2) := by decide +kernel
theorem dX2_set_63 : decode cX2_set 63 = .ok (.aload_n 0, 1) := by decide +kernel
theorem dX2_set_64 : decode cX2_set 64 = .ok (.getfield 29, 3) := by decide +kernel
theorem dX2_set_67 : decode cX2_set 67 = .ok (.iload 4, 2) := by decide +kernel
theorem dX2_set_69 : decode cX2_set 69 = .ok (.laload, 1) := by decide +kernel
theorem dX2_set_70 : decode cX2_set 70 = .ok (.ldc2_w 78, 3) := by decide +kernel
theorem dX2_set_73 : decode cX2_set 73 = .ok (.ladd, 1) := by decide +kernel
theorem dX2_set_74 : decode cX2_set 74 = .ok (.lastore, 1) := by decide +kernel
theorem dX2_set_75 : decode cX2_set 75 = .ok (.iinc 3 1, 3) := by decide +kernel
theorem dX2_set_78 : decode cX2_set 78 = .ok (.iinc 4 1, 3) := by decide +kernel
theorem dX2_set_81 : decode cX2_set 81 = .ok (.goto (-71), 3) := by decide +kernel
theorem dX2_set_84 : decode cX2_set 84 = .ok (.iload_n 3, 1) := by decide +kernel
theorem dX2_set_85 : decode cX2_set 85 = .ok (.ireturn, 1) := by decide +kernel
set_option maxRecDepth 20000 in
theorem ggX2_proof_X2_isOrder : GoodIn wsX2_proof wsX2_isOrder := goodIn_r _ [9, 10, 11, 12, 8, 13, 27, 28, 29, 30, 31, 32, 33, 34, 35, 36, 37, 38, 39, 40, 41, 42, 43] (by decide +kernel) (by decide +kernel)
set_option maxRecDepth 20000 in
theorem gX2_proof_X2_isOrder : GoodIn wsX2_proof (wsV RX2 80 RX2 yX2_isOrder wsX2_isOrder) := goodIn_app (goodIn_of _ (by decide +kernel)) ggX2_proof_X2_isOrder
set_option maxRecDepth 20000 in
theorem ggX2_proof_X2_isDay : GoodIn wsX2_proof wsX2_isDay := goodIn_r _ [17, 18, 19, 11, 12, 8, 13, 27, 28, 29, 30, 31, 32, 33, 34, 35, 36, 37, 38, 39, 40, 41, 42, 43] (by decide +kernel) (by decide +kernel)
set_option maxRecDepth 20000 in
theorem gX2_proof_X2_isDay : GoodIn wsX2_proof (wsV RX2 84 RX2 yX2_isDay wsX2_isDay) := goodIn_app (goodIn_of _ (by decide +kernel)) ggX2_proof_X2_isDay
set_option maxRecDepth 20000 in
theorem ggX2_proof_X2_set : GoodIn wsX2_proof wsX2_set := goodIn_r _ [23, 18, 10, 3, 2, 24, 25, 26, 27, 28, 29, 30, 31, 32, 33, 34, 35, 36, 37, 38, 39, 40, 41, 42, 43] (by decide +kernel) (by decide +kernel)
set_option maxRecDepth 20000 in
theorem gX2_proof_X2_set : GoodIn wsX2_proof (wsV RX2 88 RX2 yX2_set wsX2_set) := goodIn_app (goodIn_of _ (by decide +kernel)) ggX2_proof_X2_set
theorem dX2_proof_0 : decode cX2_proof 0 = .ok (.aload_n 0, 1) := by decide +kernel
theorem dX2_proof_1 : decode cX2_proof 1 = .ok (.iconst 0, 1) := by decide +kernel
theorem dX2_proof_2 : decode cX2_proof 2 = .ok (.putfield 52, 3) := by decide +kernel
theorem dX2_proof_5 : decode cX2_proof 5 = .ok (.aload_n 0, 1) := by decide +kernel
theorem dX2_proof_6 : decode cX2_proof 6 = .ok (.iload_n 1, 1) := by decide +kernel
theorem dX2_proof_7 : decode cX2_proof 7 = .ok (.invokevirtual 80, 3) := by decide +kernel
theorem dX2_proof_10 : decode cX2_proof 10 = .ok (.ifCond .ne 6, 3) := by decide +kernel
theorem dX2_proof_13 : decode cX2_proof 13 = .ok (.bipush (-101), 2) := by decide +kernel
theorem dX2_proof_15 : decode cX2_proof 15 = .ok (.ireturn, 1) := by decide +kernel
theorem dX2_proof_16 : decode cX2_proof 16 = .ok (.aload_n 0, 1) := by decide +kernel
theorem dX2_proof_17 : decode cX2_proof 17 = .ok (.lload_n 3, 1) := by decide +kernel
theorem dX2_proof_18 : decode cX2_proof 18 = .ok (.invokevirtual 84, 3) := by decide +kernel
theorem dX2_proof_21 : decode cX2_proof 21 = .ok (.ifCond .ne 6, 3) := by decide +kernel
theorem dX2_proof_24 : decode cX2_proof 24 = .ok (.bipush (-102), 2) := by decide +kernel
theorem dX2_proof_26 : decode cX2_proof 26 = .ok (.ireturn, 1) := by decide +kernel
theorem dX2_proof_27 : decode cX2_proof 27 = .ok (.aload_n 0, 1) := by decide +kernel
theorem dX2_proof_28 : decode cX2_proof 28 = .ok (.lload_n 3, 1) := by decide +kernel
theorem dX2_proof_29 : decode cX2_proof 29 = .ok (.invokevirtual 88, 3) := by decide +kernel
theorem dX2_proof_32 : decode cX2_proof 32 = .ok (.istore 5, 2) := by decide +kernel
theorem dX2_proof_34 : decode cX2_proof 34 = .ok (.aload_n 0, 1) := by decide +kernel
theorem dX2_proof_35 : decode cX2_proof 35 = .ok (.getfield 36, 3) := by decide +kernel
theorem dX2_proof_38 : decode cX2_proof 38 = .ok (.iload_n 1, 1) := by decide +kernel
theorem dX2_proof_39 : decode cX2_proof 39 = .ok (.laload, 1) := by decide +kernel
theorem dX2_proof_40 : decode cX2_proof 40 = .ok (.lconst 0, 1) := by decide +kernel
theorem dX2_proof_41 : decode cX2_proof 41 = .ok (.lcmp, 1) := by decide +kernel
theorem dX2_proof_42 : decode cX2_proof 42 = .ok (.ifCond .ge 12, 3) := by decide +kernel
theorem dX2_proof_45 : decode cX2_proof 45 = .ok (.aload_n 0, 1) := by decide +kernel
theorem dX2_proof_46 : decode cX2_proof 46 = .ok (.getfield 32, 3) := by decide +kernel
theorem dX2_proof_49 : decode cX2_proof 49 = .ok (.iload_n 1, 1) := by decide +kernel
theorem dX2_proof_50 : decode cX2_proof 50 = .ok (.baload, 1) := by decide +kernel
theorem dX2_proof_51 : decode cX2_proof 51 = .ok (.ifCond .eq 6, 3) := by decide +kernel
theorem dX2_proof_54 : decode cX2_proof 54 = .ok (.bipush (-103), 2) := by decide +kernel
theorem dX2_proof_56 : decode cX2_proof 56 = .ok (.ireturn, 1) := by decide +kernel
theorem dX2_proof_57 : decode cX2_proof 57 = .ok (.aload_n 0, 1) := by decide +kernel
theorem dX2_proof_58 : decode cX2_proof 58 = .ok (.getfield 32, 3) := by decide +kernel
theorem dX2_proof_61 : decode cX2_proof 61 = .ok (.iload_n 1, 1) := by decide +kernel
theorem dX2_proof_62 : decode cX2_proof 62 = .ok (.iload_n 2, 1) := by decide +kernel
theorem dX2_proof_63 : decode cX2_proof 63 = .ok (.bastore, 1) := by decide +kernel
theorem dX2_proof_64 : decode cX2_proof 64 = .ok (.aload_n 0, 1) := by decide +kernel
theorem dX2_proof_65 : decode cX2_proof 65 = .ok (.getfield 36, 3) := by decide +kernel
theorem dX2_proof_68 : decode cX2_proof 68 = .ok (.iload_n 1, 1) := by decide +kernel
theorem dX2_proof_69 : decode cX2_proof 69 = .ok (.iload_n 2, 1) := by decide +kernel
theorem dX2_proof_70 : decode cX2_proof 70 = .ok (.ifCond .eq 9, 3) := by decide +kernel
theorem dX2_proof_73 : decode cX2_proof 73 = .ok (.ldc2_w 70, 3) := by decide +kernel
theorem dX2_proof_76 : decode cX2_proof 76 = .ok (.goto 4, 3) := by decide +kernel
theorem dX2_proof_79 : decode cX2_proof 79 = .ok (.lload_n 3, 1) := by decide +kernel
theorem dX2_proof_80 : decode cX2_proof 80 = .ok (.lastore, 1) := by decide +kernel
theorem dX2_proof_81 : decode cX2_proof 81 = .ok (.iload_n 2, 1) := by decide +kernel
theorem dX2_proof_82 : decode cX2_proof 82 = .ok (.ifCond .eq 7, 3) := by decide +kernel
theorem dX2_proof_85 : decode cX2_proof 85 = .ok (.iconst 1, 1) := by decide +kernel
theorem dX2_proof_86 : decode cX2_proof 86 = .ok (.goto 4, 3) := by decide +kernel
theorem dX2_proof_89 : decode cX2_proof 89 = .ok (.iconst 0, 1) := by decide +kernel
theorem dX2_proof_90 : decode cX2_proof 90 = .ok (.ireturn, 1) := by decide +kernel
set_option maxRecDepth 20000 in
theorem ggX2_withdraw_X2_isOrder : GoodIn wsX2_withdraw wsX2_isOrder := goodIn_r _ [9, 10, 11, 12, 8, 13, 28, 29, 30, 31, 32, 33, 34, 35, 36, 37, 38, 39, 40, 41, 42, 43, 44] (by decide +kernel) (by decide +kernel)
set_option maxRecDepth 20000 in
theorem gX2_withdraw_X2_isOrder : GoodIn wsX2_withdraw (wsV RX2 80 RX2 yX2_isOrder wsX2_isOrder) := goodIn_app (goodIn_of _ (by decide +kernel)) ggX2_withdraw_X2_isOrder
set_option maxRecDepth 20000 in
theorem ggX2_withdraw_X2_isDay : GoodIn wsX2_withdraw wsX2_isDay := goodIn_r _ [17, 18, 19, 11, 12, 8, 13, 28, 29, 30, 31, 32, 33, 34, 35, 36, 37, 38, 39, 40, 41, 42, 43, 44] (by decide +kernel) (by decide +kernel)
set_option maxRecDepth 20000 in
theorem gX2_withdraw_X2_isDay : GoodIn wsX2_withdraw (wsV RX2 84 RX2 yX2_isDay wsX2_isDay) := goodIn_app (goodIn_of _ (by decide +kernel)) ggX2_withdraw_X2_isDay
set_option maxRecDepth 20000 in
theorem ggX2_withdraw_X2_set : GoodIn wsX2_withdraw wsX2_set := goodIn_r _ [23, 18, 10, 24, 2, 25, 26, 27, 28, 29, 30, 31, 32, 33, 34, 35, 36, 37, 38, 39, 40, 41, 42, 43, 44] (by decide +kernel) (by decide +kernel)
set_option maxRecDepth 20000 in
theorem gX2_withdraw_X2_set : GoodIn wsX2_withdraw (wsV RX2 88 RX2 yX2_set wsX2_set) := goodIn_app (goodIn_of _ (by decide +kernel)) ggX2_withdraw_X2_set
theorem dX2_withdraw_0 : decode cX2_withdraw 0 = .ok (.aload_n 0, 1) := by decide +kernel
theorem dX2_withdraw_1 : decode cX2_withdraw 1 = .ok (.iconst 0, 1) := by decide +kernel
theorem dX2_withdraw_2 : decode cX2_withdraw 2 = .ok (.putfield 52, 3) := by decide +kernel
theorem dX2_withdraw_5 : decode cX2_withdraw 5 = .ok (.aload_n 0, 1) := by decide +kernel
theorem dX2_withdraw_6 : decode cX2_withdraw 6 = .ok (.iload_n 1, 1) := by decide +kernel
theorem dX2_withdraw_7 : decode cX2_withdraw 7 = .ok (.invokevirtual 80, 3) := by decide +kernel
theorem dX2_withdraw_10 : decode cX2_withdraw 10 = .ok (.ifCond .ne 6, 3) := by decide +kernel
theorem dX2_withdraw_13 : decode cX2_withdraw 13 = .ok (.bipush (-101), 2) := by decide +kernel
theorem dX2_withdraw_15 : decode cX2_withdraw 15 = .ok (.ireturn, 1) := by decide +kernel
theorem dX2_withdraw_16 : decode cX2_withdraw 16 = .ok (.aload_n 0, 1) := by decide +kernel
theorem dX2_withdraw_17 : decode cX2_withdraw 17 = .ok (.lload_n 2, 1) := by decide +kernel
theorem dX2_withdraw_18 : decode cX2_withdraw 18 = .ok (.invokevirtual 84, 3) := by decide +kernel
theorem dX2_withdraw_21 : decode cX2_withdraw 21 = .ok (.ifCond .ne 6, 3) := by decide +kernel
theorem dX2_withdraw_24 : decode cX2_withdraw 24 = .ok (.bipush (-102), 2) := by decide +kernel
theorem dX2_withdraw_26 : decode cX2_withdraw 26 = .ok (.ireturn, 1) := by decide +kernel
theorem dX2_withdraw_27 : decode cX2_withdraw 27 = .ok (.aload_n 0, 1) := by decide +kernel
theorem dX2_withdraw_28 : decode cX2_withdraw 28 = .ok (.lload_n 2, 1) := by decide +kernel
theorem dX2_withdraw_29 : decode cX2_withdraw 29 = .ok (.invokevirtual 88, 3) := by decide +kernel
theorem dX2_withdraw_32 : decode cX2_withdraw 32 = .ok (.istore 4, 2) := by decide +kernel
theorem dX2_withdraw_34 : decode cX2_withdraw 34 = .ok (.aload_n 0, 1) := by decide +kernel
theorem dX2_withdraw_35 : decode cX2_withdraw 35 = .ok (.getfield 36, 3) := by decide +kernel
theorem dX2_withdraw_38 : decode cX2_withdraw 38 = .ok (.iload_n 1, 1) := by decide +kernel
theorem dX2_withdraw_39 : decode cX2_withdraw 39 = .ok (.laload, 1) := by decide +kernel
theorem dX2_withdraw_40 : decode cX2_withdraw 40 = .ok (.lconst 0, 1) := by decide +kernel
theorem dX2_withdraw_41 : decode cX2_withdraw 41 = .ok (.lcmp, 1) := by decide +kernel
theorem dX2_withdraw_42 : decode cX2_withdraw 42 = .ok (.ifCond .lt 6, 3) := by decide +kernel
theorem dX2_withdraw_45 : decode cX2_withdraw 45 = .ok (.bipush (-103), 2) := by decide +kernel
theorem dX2_withdraw_47 : decode cX2_withdraw 47 = .ok (.ireturn, 1) := by decide +kernel
theorem dX2_withdraw_48 : decode cX2_withdraw 48 = .ok (.iconst 0, 1) := by decide +kernel
theorem dX2_withdraw_49 : decode cX2_withdraw 49 = .ok (.istore 5, 2) := by decide +kernel
theorem dX2_withdraw_51 : decode cX2_withdraw 51 = .ok (.aload_n 0, 1) := by decide +kernel
theorem dX2_withdraw_52 : decode cX2_withdraw 52 = .ok (.getfield 22, 3) := by decide +kernel
theorem dX2_withdraw_55 : decode cX2_withdraw 55 = .ok (.iload_n 1, 1) := by decide +kernel
theorem dX2_withdraw_56 : decode cX2_withdraw 56 = .ok (.laload, 1) := by decide +kernel
theorem dX2_withdraw_57 : decode cX2_withdraw 57 = .ok (.lstore 6, 2) := by decide +kernel
theorem dX2_withdraw_59 : decode cX2_withdraw 59 = .ok (.lload 6, 2) := by decide +kernel
theorem dX2_withdraw_61 : decode cX2_withdraw 61 = .ok (.aload_n 0, 1) := by decide +kernel
theorem dX2_withdraw_62 : decode cX2_withdraw 62 = .ok (.getfield 26, 3) := by decide +kernel
theorem dX2_withdraw_65 : decode cX2_withdraw 65 = .ok (.iload_n 1, 1) := by decide +kernel
theorem dX2_withdraw_66 : decode cX2_withdraw 66 = .ok (.laload, 1) := by decide +kernel
theorem dX2_withdraw_67 : decode cX2_withdraw 67 = .ok (.lcmp, 1) := by decide +kernel
theorem dX2_withdraw_68 : decode cX2_withdraw 68 = .ok (.ifCond .gt 30, 3) := by decide +kernel
theorem dX2_withdraw_71 : decode cX2_withdraw 71 = .ok (.lload 6, 2) := by decide +kernel
theorem dX2_withdraw_73 : decode cX2_withdraw 73 = .ok (.lload_n 2, 1) := by decide +kernel
theorem dX2_withdraw_74 : decode cX2_withdraw 74 = .ok (.lcmp, 1) := by decide +kernel
theorem dX2_withdraw_75 : decode cX2_withdraw 75 = .ok (.ifCond .lt 10, 3) := by decide +kernel
theorem dX2_withdraw_78 : decode cX2_withdraw 78 = .ok (.iload 5, 2) := by decide +kernel
theorem dX2_withdraw_80 : decode cX2_withdraw 80 = .ok (.iconst 1, 1) := by decide +kernel
theorem dX2_withdraw_81 : decode cX2_withdraw 81 = .ok (.iadd, 1) := by decide +kernel
theorem dX2_withdraw_82 : decode cX2_withdraw 82 = .ok (.goto 5, 3) := by decide +kernel
theorem dX2_withdraw_85 : decode cX2_withdraw 85 = .ok (.iload 5, 2) := by decide +kernel
theorem dX2_withdraw_87 : decode cX2_withdraw 87 = .ok (.istore 5, 2) := by decide +kernel
theorem dX2_withdraw_89 : decode cX2_withdraw 89 = .ok (.lload 6, 2) := by decide +kernel
theorem dX2_withdraw_91 : decode cX2_withdraw 91 = .ok (.lconst 1, 1) := by decide +kernel
theorem dX2_withdraw_92 : decode cX2_withdraw 92 = .ok (.ladd, 1) := by decide +kernel
theorem dX2_withdraw_93 : decode cX2_withdraw 93 = .ok (.lstore 6, 2) := by decide +kernel
theorem dX2_withdraw_95 : decode cX2_withdraw 95 = .ok (.goto (-36), 3) := by decide +kernel
theorem dX2_withdraw_98 : decode cX2_withdraw 98 = .ok (.aload_n 0, 1) := by decide +kernel
theorem dX2_withdraw_99 : decode cX2_withdraw 99 = .ok (.getfield 36, 3) := by decide +kernel
theorem dX2_withdraw_102 : decode cX2_withdraw 102 = .ok (.iload_n 1, 1) := by decide +kernel
theorem dX2_withdraw_103 : decode cX2_withdraw 103 = .ok (.lload_n 2, 1) := by decide +kernel
theorem dX2_withdraw_104 : decode cX2_withdraw 104 = .ok (.lastore, 1) := by decide +kernel
theorem dX2_withdraw_105 : decode cX2_withdraw 105 = .ok (.iload 5, 2) := by decide +kernel
theorem dX2_withdraw_107 : decode cX2_withdraw 107 = .ok (.ireturn, 1) := by decide +kernel
set_option maxRecDepth 20000 in
theorem ggX2_isForce_X2_isIn : GoodIn wsX2_isForce wsX2_isIn := goodIn_r _ [7] (by decide +kernel) (by decide +kernel)
set_option maxRecDepth 20000 in
theorem gX2_isForce_X2_isIn : GoodIn wsX2_isForce (va_wsS RX2 58 yX2_isIn wsX2_isIn) := goodIn_app (goodIn_of _ (by decide +kernel)) ggX2_isForce_X2_isIn
theorem dX2_isForce_0 : decode cX2_isForce 0 = .ok (.lload_n 2, 1) := by decide +kernel
theorem dX2_isForce_1 : decode cX2_isForce 1 = .ok (.aload_n 0, 1) := by decide +kernel
theorem dX2_isForce_2 : decode cX2_isForce 2 = .ok (.getfield 22, 3) := by decide +kernel
theorem dX2_isForce_5 : decode cX2_isForce 5 = .ok (.iload_n 1, 1) := by decide +kernel
theorem dX2_isForce_6 : decode cX2_isForce 6 = .ok (.laload, 1) := by decide +kernel
theorem dX2_isForce_7 : decode cX2_isForce 7 = .ok (.aload_n 0, 1) := by decide +kernel
theorem dX2_isForce_8 : decode cX2_isForce 8 = .ok (.getfield 26, 3) := by decide +kernel
theorem dX2_isForce_11 : decode cX2_isForce 11 = .ok (.iload_n 1, 1) := by decide +kernel
theorem dX2_isForce_12 : decode cX2_isForce 12 = .ok (.laload, 1) := by decide +kernel
theorem dX2_isForce_13 : decode cX2_isForce 13 = .ok (.invokestatic 58, 3) := by decide +kernel
theorem dX2_isForce_16 : decode cX2_isForce 16 = .ok (.ifCond .eq 29, 3) := by decide +kernel
theorem dX2_isForce_19 : decode cX2_isForce 19 = .ok (.aload_n 0, 1) := by decide +kernel
theorem dX2_isForce_20 : decode cX2_isForce 20 = .ok (.getfield 36, 3) := by decide +kernel
theorem dX2_isForce_23 : decode cX2_isForce 23 = .ok (.iload_n 1, 1) := by decide +kernel
theorem dX2_isForce_24 : decode cX2_isForce 24 = .ok (.laload, 1) := by decide +kernel
theorem dX2_isForce_25 : decode cX2_isForce 25 = .ok (.lconst 0, 1) := by decide +kernel
theorem dX2_isForce_26 : decode cX2_isForce 26 = .ok (.lcmp, 1) := by decide +kernel
theorem dX2_isForce_27 : decode cX2_isForce 27 = .ok (.ifCond .lt 14, 3) := by decide +kernel
theorem dX2_isForce_30 : decode cX2_isForce 30 = .ok (.lload_n 2, 1) := by decide +kernel
theorem dX2_isForce_31 : decode cX2_isForce 31 = .ok (.aload_n 0, 1) := by decide +kernel
theorem dX2_isForce_32 : decode cX2_isForce 32 = .ok (.getfield 36, 3) := by decide +kernel
theorem dX2_isForce_35 : decode cX2_isForce 35 = .ok (.iload_n 1, 1) := by decide +kernel
theorem dX2_isForce_36 : decode cX2_isForce 36 = .ok (.laload, 1) := by decide +kernel
theorem dX2_isForce_37 : decode cX2_isForce 37 = .ok (.lcmp, 1) := by decide +kernel
theorem dX2_isForce_38 : decode cX2_isForce 38 = .ok (.ifCond .ge 7, 3) := by decide +kernel
theorem dX2_isForce_41 : decode cX2_isForce 41 = .ok (.iconst 1, 1) := by decide +kernel
theorem dX2_isForce_42 : decode cX2_isForce 42 = .ok (.goto 4, 3) := by decide +kernel
theorem dX2_isForce_45 : decode cX2_isForce 45 = .ok (.iconst 0, 1) := by decide +kernel
theorem dX2_isForce_46 : decode cX2_isForce 46 = .ok (.ireturn, 1) := by decide +kernel
set_option maxRecDepth 20000 in
theorem ggX2_find_X2_isForce : GoodIn wsX2_find wsX2_isForce := goodIn_r _ [10, 11, 12, 13, 14, 15, 9, 16, 17, 18, 19, 20, 21, 22, 23, 24, 25, 26, 27, 28, 29, 30, 31, 32, 33] (by decide +kernel) (by decide +kernel)
set_option maxRecDepth 20000 in
theorem gX2_find_X2_isForce : GoodIn wsX2_find (wsV RX2 92 RX2 yX2_isForce wsX2_isForce) := goodIn_app (goodIn_of _ (by decide +kernel)) ggX2_find_X2_isForce
theorem dX2_find_0 : decode cX2_find 0 = .ok (.iconst 0, 1) := by decide +kernel
theorem dX2_find_1 : decode cX2_find 1 = .ok (.istore 6, 2) := by decide +kernel
theorem dX2_find_3 : decode cX2_find 3 = .ok (.aload_n 0, 1) := by decide +kernel
theorem dX2_find_4 : decode cX2_find 4 = .ok (.getfield 55, 3) := by decide +kernel
theorem dX2_find_7 : decode cX2_find 7 = .ok (.istore 7, 2) := by decide +kernel
theorem dX2_find_9 : decode cX2_find 9 = .ok (.iload 7, 2) := by decide +kernel
theorem dX2_find_11 : decode cX2_find 11 = .ok (.ifCond .le 118, 3) := by decide +kernel
theorem dX2_find_14 : decode cX2_find 14 = .ok (.aload_n 0, 1) := by decide +kernel
theorem dX2_find_15 : decode cX2_find 15 = .ok (.getfield 13, 3) := by decide +kernel
theorem dX2_find_18 : decode cX2_find 18 = .ok (.iload 7, 2) := by decide +kernel
theorem dX2_find_20 : decode cX2_find 20 = .ok (.iaload, 1) := by decide +kernel
theorem dX2_find_21 : decode cX2_find 21 = .ok (.iload_n 1, 1) := by decide +kernel
theorem dX2_find_22 : decode cX2_find 22 = .ok (.if_icmp .ne 52, 3) := by decide +kernel
theorem dX2_find_25 : decode cX2_find 25 = .ok (.aload_n 0, 1) := by decide +kernel
theorem dX2_find_26 : decode cX2_find 26 = .ok (.getfield 16, 3) := by decide +kernel
theorem dX2_find_29 : decode cX2_find 29 = .ok (.iload 7, 2) := by decide +kernel
theorem dX2_find_31 : decode cX2_find 31 = .ok (.iaload, 1) := by decide +kernel
theorem dX2_find_32 : decode cX2_find 32 = .ok (.ifCond .lt 14, 3) := by decide +kernel
theorem dX2_find_35 : decode cX2_find 35 = .ok (.aload_n 0, 1) := by decide +kernel
theorem dX2_find_36 : decode cX2_find 36 = .ok (.getfield 16, 3) := by decide +kernel
theorem dX2_find_39 : decode cX2_find 39 = .ok (.iload 7, 2) := by decide +kernel
theorem dX2_find_41 : decode cX2_find 41 = .ok (.iaload, 1) := by decide +kernel
theorem dX2_find_42 : decode cX2_find 42 = .ok (.iload_n 2, 1) := by decide +kernel
theorem dX2_find_43 : decode cX2_find 43 = .ok (.if_icmp .ne 31, 3) := by decide +kernel
theorem dX2_find_46 : decode cX2_find 46 = .ok (.aload_n 0, 1) := by decide +kernel
theorem dX2_find_47 : decode cX2_find 47 = .ok (.getfield 7, 3) := by decide +kernel
theorem dX2_find_50 : decode cX2_find 50 = .ok (.iload 7, 2) := by decide +kernel
theorem dX2_find_52 : decode cX2_find 52 = .ok (.iaload, 1) := by decide +kernel
theorem dX2_find_53 : decode cX2_find 53 = .ok (.iconst 3, 1) := by decide +kernel
theorem dX2_find_54 : decode cX2_find 54 = .ok (.irem, 1) := by decide +kernel
theorem dX2_find_55 : decode cX2_find 55 = .ok (.iload_n 3, 1) := by decide +kernel
theorem dX2_find_56 : decode cX2_find 56 = .ok (.if_icmp .ne 18, 3) := by decide +kernel
theorem dX2_find_59 : decode cX2_find 59 = .ok (.aload_n 0, 1) := by decide +kernel
theorem dX2_find_60 : decode cX2_find 60 = .ok (.iload 7, 2) := by decide +kernel
theorem dX2_find_62 : decode cX2_find 62 = .ok (.lload 4, 2) := by decide +kernel
theorem dX2_find_64 : decode cX2_find 64 = .ok (.invokevirtual 92, 3) := by decide +kernel
theorem dX2_find_67 : decode cX2_find 67 = .ok (.ifCond .eq 7, 3) := by decide +kernel
theorem dX2_find_70 : decode cX2_find 70 = .ok (.iconst 1, 1) := by decide +kernel
theorem dX2_find_71 : decode cX2_find 71 = .ok (.goto 4, 3) := by decide +kernel
theorem dX2_find_74 : decode cX2_find 74 = .ok (.iconst 0, 1) := by decide +kernel
theorem dX2_find_75 : decode cX2_find 75 = .ok (.istore 8, 2) := by decide +kernel
theorem dX2_find_77 : decode cX2_find 77 = .ok (.iload 8, 2) := by decide +kernel
theorem dX2_find_79 : decode cX2_find 79 = .ok (.ifCond .eq 40, 3) := by decide +kernel
theorem dX2_find_82 : decode cX2_find 82 = .ok (.iload 6, 2) := by decide +kernel
theorem dX2_find_84 : decode cX2_find 84 = .ok (.ifCond .eq 30, 3) := by decide +kernel
theorem dX2_find_87 : decode cX2_find 87 = .ok (.aload_n 0, 1) := by decide +kernel
theorem dX2_find_88 : decode cX2_find 88 = .ok (.getfield 39, 3) := by decide +kernel
theorem dX2_find_91 : decode cX2_find 91 = .ok (.aload_n 0, 1) := by decide +kernel
theorem dX2_find_92 : decode cX2_find 92 = .ok (.getfield 7, 3) := by decide +kernel
theorem dX2_find_95 : decode cX2_find 95 = .ok (.iload 7, 2) := by decide +kernel
theorem dX2_find_97 : decode cX2_find 97 = .ok (.iaload, 1) := by decide +kernel
theorem dX2_find_98 : decode cX2_find 98 = .ok (.iaload, 1) := by decide +kernel
theorem dX2_find_99 : decode cX2_find 99 = .ok (.aload_n 0, 1) := by decide +kernel
theorem dX2_find_100 : decode cX2_find 100 = .ok (.getfield 39, 3) := by decide +kernel
theorem dX2_find_103 : decode cX2_find 103 = .ok (.aload_n 0, 1) := by decide +kernel
theorem dX2_find_104 : decode cX2_find 104 = .ok (.getfield 7, 3) := by decide +kernel
theorem dX2_find_107 : decode cX2_find 107 = .ok (.iload 6, 2) := by decide +kernel
theorem dX2_find_109 : decode cX2_find 109 = .ok (.iaload, 1) := by decide +kernel
theorem dX2_find_110 : decode cX2_find 110 = .ok (.iaload, 1) := by decide +kernel
theorem dX2_find_111 : decode cX2_find 111 = .ok (.if_icmp .le 8, 3) := by decide +kernel
theorem dX2_find_114 : decode cX2_find 114 = .ok (.iload 7, 2) := by decide +kernel
theorem dX2_find_116 : decode cX2_find 116 = .ok (.goto 5, 3) := by decide +kernel
theorem dX2_find_119 : decode cX2_find 119 = .ok (.iload 6, 2) := by decide +kernel
theorem dX2_find_121 : decode cX2_find 121 = .ok (.istore 6, 2) := by decide +kernel
theorem dX2_find_123 : decode cX2_find 123 = .ok (.iinc 7 (-1), 3) := by decide +kernel
theorem dX2_find_126 : decode cX2_find 126 = .ok (.goto (-117), 3) := by decide +kernel
theorem dX2_find_129 : decode cX2_find 129 = .ok (.iload 6, 2) := by decide +kernel
theorem dX2_find_131 : decode cX2_find 131 = .ok (.ireturn, 1) := by decide +kernel
set_option maxRecDepth 20000 in
theorem ggX2_effective_X2_isIn : GoodIn wsX2_effective wsX2_isIn := goodIn_r _ [14] (by decide +kernel) (by decide +kernel)
set_option maxRecDepth 20000 in
theorem gX2_effective_X2_isIn : GoodIn wsX2_effective (va_wsS RX2 58 yX2_isIn wsX2_isIn) := goodIn_app (goodIn_of _ (by decide +kernel)) ggX2_effective_X2_isIn
set_option maxRecDepth 20000 in
theorem ggX2_effective_X2_find : GoodIn wsX2_effective wsX2_find := goodIn_r _ [18, 19, 20, 21, 7, 22, 23, 24, 25, 13, 26, 27, 28, 29, 11, 12, 14, 30, 31, 32, 33, 34, 35, 36, 37, 38, 39, 40, 41, 42, 43, 44, 45, 46] (by decide +kernel) (by decide +kernel)
set_option maxRecDepth 20000 in
theorem gX2_effective_X2_find : GoodIn wsX2_effective (wsV RX2 98 RX2 yX2_find wsX2_find) := goodIn_app (goodIn_of _ (by decide +kernel)) ggX2_effective_X2_find
theorem dX2_effective_0 : decode cX2_effective 0 = .ok (.aload_n 0, 1) := by decide +kernel
theorem dX2_effective_1 : decode cX2_effective 1 = .ok (.iconst 0, 1) := by decide +kernel
theorem dX2_effective_2 : decode cX2_effective 2 = .ok (.putfield 52, 3) := by decide +kernel
theorem dX2_effective_5 : decode cX2_effective 5 = .ok (.iload_n 1, 1) := by decide +kernel
theorem dX2_effective_6 : decode cX2_effective 6 = .ok (.i2l, 1) := by decide +kernel
theorem dX2_effective_7 : decode cX2_effective 7 = .ok (.lconst 1, 1) := by decide +kernel
theorem dX2_effective_8 : decode cX2_effective 8 = .ok (.ldc2_w 68, 3) := by decide +kernel
theorem dX2_effective_11 : decode cX2_effective 11 = .ok (.invokestatic 58, 3) := by decide +kernel
theorem dX2_effective_14 : decode cX2_effective 14 = .ok (.ifCond .eq 15, 3) := by decide +kernel
theorem dX2_effective_17 : decode cX2_effective 17 = .ok (.iload_n 2, 1) := by decide +kernel
theorem dX2_effective_18 : decode cX2_effective 18 = .ok (.i2l, 1) := by decide +kernel
theorem dX2_effective_19 : decode cX2_effective 19 = .ok (.lconst 0, 1) := by decide +kernel
theorem dX2_effective_20 : decode cX2_effective 20 = .ok (.ldc2_w 72, 3) := by decide +kernel
theorem dX2_effective_23 : decode cX2_effective 23 = .ok (.invokestatic 58, 3) := by decide +kernel
theorem dX2_effective_26 : decode cX2_effective 26 = .ok (.ifCond .ne 6, 3) := by decide +kernel
theorem dX2_effective_29 : decode cX2_effective 29 = .ok (.bipush (-101), 2) := by decide +kernel
theorem dX2_effective_31 : decode cX2_effective 31 = .ok (.ireturn, 1) := by decide +kernel
theorem dX2_effective_32 : decode cX2_effective 32 = .ok (.iload_n 3, 1) := by decide +kernel
theorem dX2_effective_33 : decode cX2_effective 33 = .ok (.i2l, 1) := by decide +kernel
theorem dX2_effective_34 : decode cX2_effective 34 = .ok (.lconst 0, 1) := by decide +kernel
theorem dX2_effective_35 : decode cX2_effective 35 = .ok (.ldc2_w 96, 3) := by decide +kernel
theorem dX2_effective_38 : decode cX2_effective 38 = .ok (.invokestatic 58, 3) := by decide +kernel
theorem dX2_effective_41 : decode cX2_effective 41 = .ok (.ifCond .eq 15, 3) := by decide +kernel
theorem dX2_effective_44 : decode cX2_effective 44 = .ok (.lload 4, 2) := by decide +kernel
theorem dX2_effective_46 : decode cX2_effective 46 = .ok (.lconst 0, 1) := by decide +kernel
theorem dX2_effective_47 : decode cX2_effective 47 = .ok (.ldc2_w 66, 3) := by decide +kernel
theorem dX2_effective_50 : decode cX2_effective 50 = .ok (.invokestatic 58, 3) := by decide +kernel
theorem dX2_effective_53 : decode cX2_effective 53 = .ok (.ifCond .ne 6, 3) := by decide +kernel
theorem dX2_effective_56 : decode cX2_effective 56 = .ok (.bipush (-102), 2) := by decide +kernel
theorem dX2_effective_58 : decode cX2_effective 58 = .ok (.ireturn, 1) := by decide +kernel
theorem dX2_effective_59 : decode cX2_effective 59 = .ok (.aload_n 0, 1) := by decide +kernel
theorem dX2_effective_60 : decode cX2_effective 60 = .ok (.getfield 42, 3) := by decide +kernel
theorem dX2_effective_63 : decode cX2_effective 63 = .ok (.iconst 0, 1) := by decide +kernel
theorem dX2_effective_64 : decode cX2_effective 64 = .ok (.iload_n 1, 1) := by decide +kernel
theorem dX2_effective_65 : decode cX2_effective 65 = .ok (.iastore, 1) := by decide +kernel
theorem dX2_effective_66 : decode cX2_effective 66 = .ok (.iconst 1, 1) := by decide +kernel
theorem dX2_effective_67 : decode cX2_effective 67 = .ok (.istore 6, 2) := by decide +kernel
theorem dX2_effective_69 : decode cX2_effective 69 = .ok (.iload 6, 2) := by decide +kernel
theorem dX2_effective_71 : decode cX2_effective 71 = .ok (.bipush 101, 2) := by decide +kernel
theorem dX2_effective_73 : decode cX2_effective 73 = .ok (.if_icmp .ge 173, 3) := by decide +kernel
theorem dX2_effective_76 : decode cX2_effective 76 = .ok (.aload_n 0, 1) := by decide +kernel
theorem dX2_effective_77 : decode cX2_effective 77 = .ok (.aload_n 0, 1) := by decide +kernel
theorem dX2_effective_78 : decode cX2_effective 78 = .ok (.getfield 42, 3) := by decide +kernel
theorem dX2_effective_81 : decode cX2_effective 81 = .ok (.iload 6, 2) := by decide +kernel
theorem dX2_effective_83 : decode cX2_effective 83 = .ok (.iconst 1, 1) := by decide +kernel
theorem dX2_effective_84 : decode cX2_effective 84 = .ok (.isub, 1) := by decide +kernel
theorem dX2_effective_85 : decode cX2_effective 85 = .ok (.iaload, 1) := by decide +kernel
theorem dX2_effective_86 : decode cX2_effective 86 = .ok (.iload_n 2, 1) := by decide +kernel
theorem dX2_effective_87 : decode cX2_effective 87 = .ok (.iload_n 3, 1) := by decide +kernel
theorem dX2_effective_88 : decode cX2_effective 88 = .ok (.lload 4, 2) := by decide +kernel
theorem dX2_effective_90 : decode cX2_effective 90 = .ok (.invokevirtual 98, 3) := by decide +kernel
theorem dX2_effective_93 : decode cX2_effective 93 = .ok (.istore 7, 2) := by decide +kernel
theorem dX2_effective_95 : decode cX2_effective 95 = .ok (.iload 7, 2) := by decide +kernel
theorem dX2_effective_97 : decode cX2_effective 97 = .ok (.ifCond .eq 14, 3) := by decide +kernel
theorem dX2_effective_100 : decode cX2_effective 100 = .ok (.aload_n 0, 1) := by decide +kernel
theorem dX2_effective_101 : decode cX2_effective 101 = .ok (.getfield 7, 3) := by decide +kernel
theorem dX2_effective_104 : decode cX2_effective 104 = .ok (.iload 7, 2) := by decide +kernel
theorem dX2_effective_106 : decode cX2_effective 106 = .ok (.iaload, 1) := by decide +kernel
theorem dX2_effective_107 : decode cX2_effective 107 = .ok (.iconst 2, 1) := by decide +kernel
theorem dX2_effective_108 : decode cX2_effective 108 = .ok (.if_icmp .le 39, 3) := by decide +kernel
theorem dX2_effective_111 : decode cX2_effective 111 = .ok (.iload 7, 2) := by decide +kernel
theorem dX2_effective_113 : decode cX2_effective 113 = .ok (.ifCond .ne 15, 3) := by decide +kernel
theorem dX2_effective_116 : decode cX2_effective 116 = .ok (.aload_n 0, 1) := by decide +kernel
theorem dX2_effective_117 : decode cX2_effective 117 = .ok (.getfield 42, 3) := by decide +kernel
theorem dX2_effective_120 : decode cX2_effective 120 = .ok (.iload 6, 2) := by decide +kernel
theorem dX2_effective_122 : decode cX2_effective 122 = .ok (.iconst 1, 1) := by decide +kernel
theorem dX2_effective_123 : decode cX2_effective 123 = .ok (.isub, 1) := by decide +kernel
theorem dX2_effective_124 : decode cX2_effective 124 = .ok (.iaload, 1) := by decide +kernel
theorem dX2_effective_125 : decode cX2_effective 125 = .ok (.goto 21, 3) := by decide +kernel
theorem dX2_effective_128 : decode cX2_effective 128 = .ok (.aload_n 0, 1) := by decide +kernel
theorem dX2_effective_129 : decode cX2_effective 129 = .ok (.getfield 7, 3) := by decide +kernel
theorem dX2_effective_132 : decode cX2_effective 132 = .ok (.iload 7, 2) := by decide +kernel
theorem dX2_effective_134 : decode cX2_effective 134 = .ok (.iaload, 1) := by decide +kernel
theorem dX2_effective_135 : decode cX2_effective 135 = .ok (.bipush 6, 2) := by decide +kernel
theorem dX2_effective_137 : decode cX2_effective 137 = .ok (.if_icmp .ge 7, 3) := by decide +kernel
theorem dX2_effective_140 : decode cX2_effective 140 = .ok (.iconst 0, 1) := by decide +kernel
theorem dX2_effective_141 : decode cX2_effective 141 = .ok (.goto 5, 3) := by decide +kernel
theorem dX2_effective_144 : decode cX2_effective 144 = .ok (.bipush (-2), 2) := by decide +kernel
theorem dX2_effective_146 : decode cX2_effective 146 = .ok (.ireturn, 1) := by decide +kernel
theorem dX2_effective_147 : decode cX2_effective 147 = .ok (.aload_n 0, 1) := by decide +kernel
theorem dX2_effective_148 : decode cX2_effective 148 = .ok (.getfield 42, 3) := by decide +kernel
theorem dX2_effective_151 : decode cX2_effective 151 = .ok (.iload 6, 2) := by decide +kernel
theorem dX2_effective_153 : decode cX2_effective 153 = .ok (.aload_n 0, 1) := by decide +kernel
theorem dX2_effective_154 : decode cX2_effective 154 = .ok (.getfield 19, 3) := by decide +kernel
theorem dX2_effective_157 : decode cX2_effective 157 = .ok (.iload 7, 2) := by decide +kernel
theorem dX2_effective_159 : decode cX2_effective 159 = .ok (.iaload, 1) := by decide +kernel
theorem dX2_effective_160 : decode cX2_effective 160 = .ok (.iastore, 1) := by decide +kernel
theorem dX2_effective_161 : decode cX2_effective 161 = .ok (.iconst 0, 1) := by decide +kernel
theorem dX2_effective_162 : decode cX2_effective 162 = .ok (.istore 8, 2) := by decide +kernel
theorem dX2_effective_164 : decode cX2_effective 164 = .ok (.aload_n 0, 1) := by decide +kernel
theorem dX2_effective_165 : decode cX2_effective 165 = .ok (.getfield 42, 3) := by decide +kernel
theorem dX2_effective_168 : decode cX2_effective 168 = .ok (.iload 8, 2) := by decide +kernel
theorem dX2_effective_170 : decode cX2_effective 170 = .ok (.iaload, 1) := by decide +kernel
theorem dX2_effective_171 : decode cX2_effective 171 = .ok (.aload_n 0, 1) := by decide +kernel
theorem dX2_effective_172 : decode cX2_effective 172 = .ok (.getfield 42, 3) := by decide +kernel
theorem dX2_effective_175 : decode cX2_effective 175 = .ok (.iload 6, 2) := by decide +kernel
theorem dX2_effective_177 : decode cX2_effective 177 = .ok (.iaload, 1) := by decide +kernel
theorem dX2_effective_178 : decode cX2_effective 178 = .ok (.if_icmp .eq 9, 3) := by decide +kernel
theorem dX2_effective_181 : decode cX2_effective 181 = .ok (.iinc 8 1, 3) := by decide +kernel
theorem dX2_effective_184 : decode cX2_effective 184 = .ok (.goto (-20), 3) := by decide +kernel
theorem dX2_effective_187 : decode cX2_effective 187 = .ok (.iload 8, 2) := by decide +kernel
theorem dX2_effective_189 : decode cX2_effective 189 = .ok (.iload 6, 2) := by decide +kernel
theorem dX2_effective_191 : decode cX2_effective 191 = .ok (.if_icmp .ge 49, 3) := by decide +kernel
theorem dX2_effective_194 : decode cX2_effective 194 = .ok (.aload_n 0, 1) := by decide +kernel
theorem dX2_effective_195 : decode cX2_effective 195 = .ok (.iload 6, 2) := by decide +kernel
theorem dX2_effective_197 : decode cX2_effective 197 = .ok (.iload 8, 2) := by decide +kernel
theorem dX2_effective_199 : decode cX2_effective 199 = .ok (.isub, 1) := by decide +kernel
theorem dX2_effective_200 : decode cX2_effective 200 = .ok (.putfield 48, 3) := by decide +kernel
theorem dX2_effective_203 : decode cX2_effective 203 = .ok (.iconst 0, 1) := by decide +kernel
theorem dX2_effective_204 : decode cX2_effective 204 = .ok (.istore 9, 2) := by decide +kernel
theorem dX2_effective_206 : decode cX2_effective 206 = .ok (.iload 9, 2) := by decide +kernel
theorem dX2_effective_208 : decode cX2_effective 208 = .ok (.aload_n 0, 1) := by decide +kernel
theorem dX2_effective_209 : decode cX2_effective 209 = .ok (.getfield 48, 3) := by decide +kernel
theorem dX2_effective_212 : decode cX2_effective 212 = .ok (.if_icmp .ge 26, 3) := by decide +kernel
theorem dX2_effective_215 : decode cX2_effective 215 = .ok (.aload_n 0, 1) := by decide +kernel
theorem dX2_effective_216 : decode cX2_effective 216 = .ok (.getfield 45, 3) := by decide +kernel
theorem dX2_effective_219 : decode cX2_effective 219 = .ok (.iload 9, 2) := by decide +kernel
theorem dX2_effective_221 : decode cX2_effective 221 = .ok (.aload_n 0, 1) := by decide +kernel
theorem dX2_effective_222 : decode cX2_effective 222 = .ok (.getfield 42, 3) := by decide +kernel
theorem dX2_effective_225 : decode cX2_effective 225 = .ok (.iload 8, 2) := by decide +kernel
theorem dX2_effective_227 : decode cX2_effective 227 = .ok (.iload 9, 2) := by decide +kernel
theorem dX2_effective_229 : decode cX2_effective 229 = .ok (.iadd, 1) := by decide +kernel
theorem dX2_effective_230 : decode cX2_effective 230 = .ok (.iaload, 1) := by decide +kernel
theorem dX2_effective_231 : decode cX2_effective 231 = .ok (.iastore, 1) := by decide +kernel
theorem dX2_effective_232 : decode cX2_effective 232 = .ok (.iinc 9 1, 3) := by decide +kernel
theorem dX2_effective_235 : decode cX2_effective 235 = .ok (.goto (-29), 3) := by decide +kernel
theorem dX2_effective_238 : decode cX2_effective 238 = .ok (.iconst (-1), 1) := by decide +kernel
theorem dX2_effective_239 : decode cX2_effective 239 = .ok (.ireturn, 1) := by decide +kernel
theorem dX2_effective_240 : decode cX2_effective 240 = .ok (.iinc 6 1, 3) := by decide +kernel
theorem dX2_effective_243 : decode cX2_effective 243 = .ok (.goto (-174), 3) := by decide +kernel
theorem dX2_effective_246 : decode cX2_effective 246 = .ok (.iconst (-1), 1) := by decide +kernel
theorem dX2_effective_247 : decode cX2_effective 247 = .ok (.ireturn, 1) := by decide +kernel
theorem dX2_ring_0 : decode cX2_ring 0 = .ok (.aload_n 0, 1) := by decide +kernel
theorem dX2_ring_1 : decode cX2_ring 1 = .ok (.iconst 0, 1) := by decide +kernel
theorem dX2_ring_2 : decode cX2_ring 2 = .ok (.putfield 52, 3) := by decide +kernel
theorem dX2_ring_5 : decode cX2_ring 5 = .ok (.iload_n 1, 1) := by decide +kernel
theorem dX2_ring_6 : decode cX2_ring 6 = .ok (.ifCond .lt 20, 3) := by decide +kernel
theorem dX2_ring_9 : decode cX2_ring 9 = .ok (.iload_n 1, 1) := by decide +kernel
theorem dX2_ring_10 : decode cX2_ring 10 = .ok (.aload_n 0, 1) := by decide +kernel
theorem dX2_ring_11 : decode cX2_ring 11 = .ok (.getfield 48, 3) := by decide +kernel
theorem dX2_ring_14 : decode cX2_ring 14 = .ok (.if_icmp .ge 12, 3) := by decide +kernel
theorem dX2_ring_17 : decode cX2_ring 17 = .ok (.aload_n 0, 1) := by decide +kernel
theorem dX2_ring_18 : decode cX2_ring 18 = .ok (.getfield 45, 3) := by decide +kernel
theorem dX2_ring_21 : decode cX2_ring 21 = .ok (.iload_n 1, 1) := by decide +kernel
theorem dX2_ring_22 : decode cX2_ring 22 = .ok (.iaload, 1) := by decide +kernel
theorem dX2_ring_23 : decode cX2_ring 23 = .ok (.goto 4, 3) := by decide +kernel
theorem dX2_ring_26 : decode cX2_ring 26 = .ok (.iconst 0, 1) := by decide +kernel
theorem dX2_ring_27 : decode cX2_ring 27 = .ok (.ireturn, 1) := by decide +kernel
set_option maxRecDepth 20000 in
theorem ggX2_rank_X2_isIn : GoodIn wsX2_rank wsX2_isIn := goodIn_r _ [8] (by decide +kernel) (by decide +kernel)
set_option maxRecDepth 20000 in
theorem gX2_rank_X2_isIn : GoodIn wsX2_rank (va_wsS RX2 58 yX2_isIn wsX2_isIn) := goodIn_app (goodIn_of _ (by decide +kernel)) ggX2_rank_X2_isIn
theorem dX2_rank_0 : decode cX2_rank 0 = .ok (.aload_n 0, 1) := by decide +kernel
theorem dX2_rank_1 : decode cX2_rank 1 = .ok (.iconst 0, 1) := by decide +kernel
theorem dX2_rank_2 : decode cX2_rank 2 = .ok (.putfield 52, 3) := by decide +kernel
theorem dX2_rank_5 : decode cX2_rank 5 = .ok (.iload_n 1, 1) := by decide +kernel
theorem dX2_rank_6 : decode cX2_rank 6 = .ok (.i2l, 1) := by decide +kernel
theorem dX2_rank_7 : decode cX2_rank 7 = .ok (.lconst 0, 1) := by decide +kernel
theorem dX2_rank_8 : decode cX2_rank 8 = .ok (.ldc2_w 74, 3) := by decide +kernel
theorem dX2_rank_11 : decode cX2_rank 11 = .ok (.invokestatic 58, 3) := by decide +kernel
theorem dX2_rank_14 : decode cX2_rank 14 = .ok (.ifCond .eq 15, 3) := by decide +kernel
theorem dX2_rank_17 : decode cX2_rank 17 = .ok (.iload_n 2, 1) := by decide +kernel
theorem dX2_rank_18 : decode cX2_rank 18 = .ok (.i2l, 1) := by decide +kernel
theorem dX2_rank_19 : decode cX2_rank 19 = .ok (.lconst 0, 1) := by decide +kernel
theorem dX2_rank_20 : decode cX2_rank 20 = .ok (.ldc2_w 102, 3) := by decide +kernel
theorem dX2_rank_23 : decode cX2_rank 23 = .ok (.invokestatic 58, 3) := by decide +kernel
theorem dX2_rank_26 : decode cX2_rank 26 = .ok (.ifCond .ne 6, 3) := by decide +kernel
theorem dX2_rank_29 : decode cX2_rank 29 = .ok (.bipush (-102), 2) := by decide +kernel
theorem dX2_rank_31 : decode cX2_rank 31 = .ok (.ireturn, 1) := by decide +kernel
theorem dX2_rank_32 : decode cX2_rank 32 = .ok (.aload_n 0, 1) := by decide +kernel
theorem dX2_rank_33 : decode cX2_rank 33 = .ok (.getfield 39, 3) := by decide +kernel
theorem dX2_rank_36 : decode cX2_rank 36 = .ok (.iload_n 1, 1) := by decide +kernel
theorem dX2_rank_37 : decode cX2_rank 37 = .ok (.iaload, 1) := by decide +kernel
theorem dX2_rank_38 : decode cX2_rank 38 = .ok (.istore_n 3, 1) := by decide +kernel
theorem dX2_rank_39 : decode cX2_rank 39 = .ok (.aload_n 0, 1) := by decide +kernel
theorem dX2_rank_40 : decode cX2_rank 40 = .ok (.getfield 39, 3) := by decide +kernel
theorem dX2_rank_43 : decode cX2_rank 43 = .ok (.iload_n 1, 1) := by decide +kernel
theorem dX2_rank_44 : decode cX2_rank 44 = .ok (.iload_n 2, 1) := by decide +kernel
theorem dX2_rank_45 : decode cX2_rank 45 = .ok (.iastore, 1) := by decide +kernel
theorem dX2_rank_46 : decode cX2_rank 46 = .ok (.iload_n 3, 1) := by decide +kernel
theorem dX2_rank_47 : decode cX2_rank 47 = .ok (.ireturn, 1) := by decide +kernel
set_option maxRecDepth 20000 in
theorem ggX2_tick_X2_isDay : GoodIn wsX2_tick wsX2_isDay := goodIn_r _ [6, 7, 8, 9, 10, 5, 11, 22, 23, 24, 25, 26, 27, 28, 29, 30, 31, 32, 33, 34, 35, 36, 37, 38] (by decide +kernel) (by decide +kernel)
set_option maxRecDepth 20000 in
theorem gX2_tick_X2_isDay : GoodIn wsX2_tick (wsV RX2 84 RX2 yX2_isDay wsX2_isDay) := goodIn_app (goodIn_of _ (by decide +kernel)) ggX2_tick_X2_isDay
set_option maxRecDepth 20000 in
theorem ggX2_tick_X2_set : GoodIn wsX2_tick wsX2_set := goodIn_r _ [15, 7, 16, 17, 18, 19, 20, 21, 22, 23, 24, 25, 26, 27, 28, 29, 30, 31, 32, 33, 34, 35, 36, 37, 38] (by decide +kernel) (by decide +kernel)
set_option maxRecDepth 20000 in
theorem gX2_tick_X2_set : GoodIn wsX2_tick (wsV RX2 88 RX2 yX2_set wsX2_set) := goodIn_app (goodIn_of _ (by decide +kernel)) ggX2_tick_X2_set
theorem dX2_tick_0 : decode cX2_tick 0 = .ok (.aload_n 0, 1) := by decide +kernel
theorem dX2_tick_1 : decode cX2_tick 1 = .ok (.iconst 0, 1) := by decide +kernel
theorem dX2_tick_2 : decode cX2_tick 2 = .ok (.putfield 52, 3) := by decide +kernel
theorem dX2_tick_5 : decode cX2_tick 5 = .ok (.aload_n 0, 1) := by decide +kernel
theorem dX2_tick_6 : decode cX2_tick 6 = .ok (.lload_n 1, 1) := by decide +kernel
theorem dX2_tick_7 : decode cX2_tick 7 = .ok (.invokevirtual 84, 3) := by decide +kernel
theorem dX2_tick_10 : decode cX2_tick 10 = .ok (.ifCond .eq 11, 3) := by decide +kernel
theorem dX2_tick_13 : decode cX2_tick 13 = .ok (.aload_n 0, 1) := by decide +kernel
theorem dX2_tick_14 : decode cX2_tick 14 = .ok (.lload_n 1, 1) := by decide +kernel
theorem dX2_tick_15 : decode cX2_tick 15 = .ok (.invokevirtual 88, 3) := by decide +kernel
theorem dX2_tick_18 : decode cX2_tick 18 = .ok (.goto 5, 3) := by decide +kernel
theorem dX2_tick_21 : decode cX2_tick 21 = .ok (.bipush (-102), 2) := by decide +kernel
theorem dX2_tick_23 : decode cX2_tick 23 = .ok (.ireturn, 1) := by decide +kernel
set_option maxRecDepth 20000 in
theorem ggX2_extend_X2_isOrder : GoodIn wsX2_extend wsX2_isOrder := goodIn_r _ [9, 10, 11, 12, 8, 13, 14, 15, 16, 17, 18, 19, 20, 21, 22, 23, 24, 25, 26, 27, 28, 29, 30] (by decide +kernel) (by decide +kernel)
set_option maxRecDepth 20000 in
theorem gX2_extend_X2_isOrder : GoodIn wsX2_extend (wsV RX2 80 RX2 yX2_isOrder wsX2_isOrder) := goodIn_app (goodIn_of _ (by decide +kernel)) ggX2_extend_X2_isOrder
set_option maxRecDepth 20000 in
theorem ggX2_extend_X2_isIn : GoodIn wsX2_extend wsX2_isIn := goodIn_r _ [13] (by decide +kernel) (by decide +kernel)
set_option maxRecDepth 20000 in
theorem gX2_extend_X2_isIn : GoodIn wsX2_extend (va_wsS RX2 58 yX2_isIn wsX2_isIn) := goodIn_app (goodIn_of _ (by decide +kernel)) ggX2_extend_X2_isIn
theorem dX2_extend_0 : decode cX2_extend 0 = .ok (.aload_n 0, 1) := by decide +kernel
theorem dX2_extend_1 : decode cX2_extend 1 = .ok (.iconst 0, 1) := by decide +kernel
theorem dX2_extend_2 : decode cX2_extend 2 = .ok (.putfield 52, 3) := by decide +kernel
theorem dX2_extend_5 : decode cX2_extend 5 = .ok (.aload_n 0, 1) := by decide +kernel
theorem dX2_extend_6 : decode cX2_extend 6 = .ok (.iload_n 1, 1) := by decide +kernel
theorem dX2_extend_7 : decode cX2_extend 7 = .ok (.invokevirtual 80, 3) := by decide +kernel
theorem dX2_extend_10 : decode cX2_extend 10 = .ok (.ifCond .ne 6, 3) := by decide +kernel
theorem dX2_extend_13 : decode cX2_extend 13 = .ok (.bipush (-101), 2) := by decide +kernel
theorem dX2_extend_15 : decode cX2_extend 15 = .ok (.ireturn, 1) := by decide +kernel
theorem dX2_extend_16 : decode cX2_extend 16 = .ok (.lload_n 2, 1) := by decide +kernel
theorem dX2_extend_17 : decode cX2_extend 17 = .ok (.lconst 0, 1) := by decide +kernel
theorem dX2_extend_18 : decode cX2_extend 18 = .ok (.ldc2_w 66, 3) := by decide +kernel
theorem dX2_extend_21 : decode cX2_extend 21 = .ok (.invokestatic 58, 3) := by decide +kernel
theorem dX2_extend_24 : decode cX2_extend 24 = .ok (.ifCond .ne 6, 3) := by decide +kernel
theorem dX2_extend_27 : decode cX2_extend 27 = .ok (.bipush (-102), 2) := by decide +kernel
theorem dX2_extend_29 : decode cX2_extend 29 = .ok (.ireturn, 1) := by decide +kernel
theorem dX2_extend_30 : decode cX2_extend 30 = .ok (.aload_n 0, 1) := by decide +kernel
theorem dX2_extend_31 : decode cX2_extend 31 = .ok (.getfield 36, 3) := by decide +kernel
theorem dX2_extend_34 : decode cX2_extend 34 = .ok (.iload_n 1, 1) := by decide +kernel
theorem dX2_extend_35 : decode cX2_extend 35 = .ok (.laload, 1) := by decide +kernel
theorem dX2_extend_36 : decode cX2_extend 36 = .ok (.lconst 0, 1) := by decide +kernel
theorem dX2_extend_37 : decode cX2_extend 37 = .ok (.lcmp, 1) := by decide +kernel
theorem dX2_extend_38 : decode cX2_extend 38 = .ok (.ifCond .lt 6, 3) := by decide +kernel
theorem dX2_extend_41 : decode cX2_extend 41 = .ok (.bipush (-103), 2) := by decide +kernel
theorem dX2_extend_43 : decode cX2_extend 43 = .ok (.ireturn, 1) := by decide +kernel
theorem dX2_extend_44 : decode cX2_extend 44 = .ok (.lload_n 2, 1) := by decide +kernel
theorem dX2_extend_45 : decode cX2_extend 45 = .ok (.aload_n 0, 1) := by decide +kernel
theorem dX2_extend_46 : decode cX2_extend 46 = .ok (.getfield 26, 3) := by decide +kernel
theorem dX2_extend_49 : decode cX2_extend 49 = .ok (.iload_n 1, 1) := by decide +kernel
theorem dX2_extend_50 : decode cX2_extend 50 = .ok (.laload, 1) := by decide +kernel
theorem dX2_extend_51 : decode cX2_extend 51 = .ok (.lcmp, 1) := by decide +kernel
theorem dX2_extend_52 : decode cX2_extend 52 = .ok (.ifCond .le 7, 3) := by decide +kernel
theorem dX2_extend_55 : decode cX2_extend 55 = .ok (.iconst 1, 1) := by decide +kernel
theorem dX2_extend_56 : decode cX2_extend 56 = .ok (.goto 4, 3) := by decide +kernel
theorem dX2_extend_59 : decode cX2_extend 59 = .ok (.iconst 0, 1) := by decide +kernel
theorem dX2_extend_60 : decode cX2_extend 60 = .ok (.istore 4, 2) := by decide +kernel
theorem dX2_extend_62 : decode cX2_extend 62 = .ok (.aload_n 0, 1) := by decide +kernel
theorem dX2_extend_63 : decode cX2_extend 63 = .ok (.getfield 26, 3) := by decide +kernel
theorem dX2_extend_66 : decode cX2_extend 66 = .ok (.iload_n 1, 1) := by decide +kernel
theorem dX2_extend_67 : decode cX2_extend 67 = .ok (.iload 4, 2) := by decide +kernel
theorem dX2_extend_69 : decode cX2_extend 69 = .ok (.ifCond .eq 7, 3) := by decide +kernel
theorem dX2_extend_72 : decode cX2_extend 72 = .ok (.lload_n 2, 1) := by decide +kernel
theorem dX2_extend_73 : decode cX2_extend 73 = .ok (.goto 9, 3) := by decide +kernel
theorem dX2_extend_76 : decode cX2_extend 76 = .ok (.aload_n 0, 1) := by decide +kernel
theorem dX2_extend_77 : decode cX2_extend 77 = .ok (.getfield 26, 3) := by decide +kernel
theorem dX2_extend_80 : decode cX2_extend 80 = .ok (.iload_n 1, 1) := by decide +kernel
theorem dX2_extend_81 : decode cX2_extend 81 = .ok (.laload, 1) := by decide +kernel
theorem dX2_extend_82 : decode cX2_extend 82 = .ok (.lastore, 1) := by decide +kernel
theorem dX2_extend_83 : decode cX2_extend 83 = .ok (.iload 4, 2) := by decide +kernel
theorem dX2_extend_85 : decode cX2_extend 85 = .ok (.ifCond .eq 7, 3) := by decide +kernel
theorem dX2_extend_88 : decode cX2_extend 88 = .ok (.iconst 1, 1) := by decide +kernel
theorem dX2_extend_89 : decode cX2_extend 89 = .ok (.goto 4, 3) := by decide +kernel
theorem dX2_extend_92 : decode cX2_extend 92 = .ok (.iconst 0, 1) := by decide +kernel
theorem dX2_extend_93 : decode cX2_extend 93 = .ok (.ireturn, 1) := by decide +kernel
set_option maxRecDepth 20000 in
theorem ggX2_told_X2_isIn : GoodIn wsX2_told wsX2_isIn := goodIn_r _ [11] (by decide +kernel) (by decide +kernel)
set_option maxRecDepth 20000 in
theorem gX2_told_X2_isIn : GoodIn wsX2_told (va_wsS RX2 58 yX2_isIn wsX2_isIn) := goodIn_app (goodIn_of _ (by decide +kernel)) ggX2_told_X2_isIn
set_option maxRecDepth 20000 in
theorem ggX2_told_X2_isForce : GoodIn wsX2_told wsX2_isForce := goodIn_r _ [15, 16, 17, 18, 8, 9, 10, 11, 19, 20, 21, 22, 23, 24, 25, 26, 27, 28, 29, 30, 31, 32, 33, 34, 35] (by decide +kernel) (by decide +kernel)
set_option maxRecDepth 20000 in
theorem gX2_told_X2_isForce : GoodIn wsX2_told (wsV RX2 92 RX2 yX2_isForce wsX2_isForce) := goodIn_app (goodIn_of _ (by decide +kernel)) ggX2_told_X2_isForce
theorem dX2_told_0 : decode cX2_told 0 = .ok (.aload_n 0, 1) := by decide +kernel
theorem dX2_told_1 : decode cX2_told 1 = .ok (.iconst 0, 1) := by decide +kernel
theorem dX2_told_2 : decode cX2_told 2 = .ok (.putfield 52, 3) := by decide +kernel
theorem dX2_told_5 : decode cX2_told 5 = .ok (.iload_n 1, 1) := by decide +kernel
theorem dX2_told_6 : decode cX2_told 6 = .ok (.i2l, 1) := by decide +kernel
theorem dX2_told_7 : decode cX2_told 7 = .ok (.lconst 0, 1) := by decide +kernel
theorem dX2_told_8 : decode cX2_told 8 = .ok (.ldc2_w 72, 3) := by decide +kernel
theorem dX2_told_11 : decode cX2_told 11 = .ok (.invokestatic 58, 3) := by decide +kernel
theorem dX2_told_14 : decode cX2_told 14 = .ok (.ifCond .ne 6, 3) := by decide +kernel
theorem dX2_told_17 : decode cX2_told 17 = .ok (.bipush (-101), 2) := by decide +kernel
theorem dX2_told_19 : decode cX2_told 19 = .ok (.ireturn, 1) := by decide +kernel
theorem dX2_told_20 : decode cX2_told 20 = .ok (.iconst 0, 1) := by decide +kernel
theorem dX2_told_21 : decode cX2_told 21 = .ok (.istore_n 3, 1) := by decide +kernel
theorem dX2_told_22 : decode cX2_told 22 = .ok (.iconst 1, 1) := by decide +kernel
theorem dX2_told_23 : decode cX2_told 23 = .ok (.istore 4, 2) := by decide +kernel
theorem dX2_told_25 : decode cX2_told 25 = .ok (.iload 4, 2) := by decide +kernel
theorem dX2_told_27 : decode cX2_told 27 = .ok (.aload_n 0, 1) := by decide +kernel
theorem dX2_told_28 : decode cX2_told 28 = .ok (.getfield 55, 3) := by decide +kernel
theorem dX2_told_31 : decode cX2_told 31 = .ok (.if_icmp .gt 87, 3) := by decide +kernel
theorem dX2_told_34 : decode cX2_told 34 = .ok (.aload_n 0, 1) := by decide +kernel
theorem dX2_told_35 : decode cX2_told 35 = .ok (.getfield 16, 3) := by decide +kernel
theorem dX2_told_38 : decode cX2_told 38 = .ok (.iload 4, 2) := by decide +kernel
theorem dX2_told_40 : decode cX2_told 40 = .ok (.iaload, 1) := by decide +kernel
theorem dX2_told_41 : decode cX2_told 41 = .ok (.iload_n 1, 1) := by decide +kernel
theorem dX2_told_42 : decode cX2_told 42 = .ok (.if_icmp .ne 41, 3) := by decide +kernel
theorem dX2_told_45 : decode cX2_told 45 = .ok (.aload_n 0, 1) := by decide +kernel
theorem dX2_told_46 : decode cX2_told 46 = .ok (.getfield 32, 3) := by decide +kernel
theorem dX2_told_49 : decode cX2_told 49 = .ok (.iload 4, 2) := by decide +kernel
theorem dX2_told_51 : decode cX2_told 51 = .ok (.baload, 1) := by decide +kernel
theorem dX2_told_52 : decode cX2_told 52 = .ok (.ifCond .eq 31, 3) := by decide +kernel
theorem dX2_told_55 : decode cX2_told 55 = .ok (.aload_n 0, 1) := by decide +kernel
theorem dX2_told_56 : decode cX2_told 56 = .ok (.getfield 7, 3) := by decide +kernel
theorem dX2_told_59 : decode cX2_told 59 = .ok (.iload 4, 2) := by decide +kernel
theorem dX2_told_61 : decode cX2_told 61 = .ok (.iaload, 1) := by decide +kernel
theorem dX2_told_62 : decode cX2_told 62 = .ok (.iconst 3, 1) := by decide +kernel
theorem dX2_told_63 : decode cX2_told 63 = .ok (.if_icmp .ge 20, 3) := by decide +kernel
theorem dX2_told_66 : decode cX2_told 66 = .ok (.aload_n 0, 1) := by decide +kernel
theorem dX2_told_67 : decode cX2_told 67 = .ok (.iload 4, 2) := by decide +kernel
theorem dX2_told_69 : decode cX2_told 69 = .ok (.aload_n 0, 1) := by decide +kernel
theorem dX2_told_70 : decode cX2_told 70 = .ok (.getfield 62, 3) := by decide +kernel
theorem dX2_told_73 : decode cX2_told 73 = .ok (.invokevirtual 92, 3) := by decide +kernel
theorem dX2_told_76 : decode cX2_told 76 = .ok (.ifCond .eq 7, 3) := by decide +kernel
theorem dX2_told_79 : decode cX2_told 79 = .ok (.iconst 1, 1) := by decide +kernel
theorem dX2_told_80 : decode cX2_told 80 = .ok (.goto 4, 3) := by decide +kernel
theorem dX2_told_83 : decode cX2_told 83 = .ok (.iconst 0, 1) := by decide +kernel
theorem dX2_told_84 : decode cX2_told 84 = .ok (.istore 5, 2) := by decide +kernel
theorem dX2_told_86 : decode cX2_told 86 = .ok (.iload 5, 2) := by decide +kernel
theorem dX2_told_88 : decode cX2_told 88 = .ok (.ifCond .eq 11, 3) := by decide +kernel
theorem dX2_told_91 : decode cX2_told 91 = .ok (.iload_n 3, 1) := by decide +kernel
theorem dX2_told_92 : decode cX2_told 92 = .ok (.iload_n 2, 1) := by decide +kernel
theorem dX2_told_93 : decode cX2_told 93 = .ok (.if_icmp .ne 6, 3) := by decide +kernel
theorem dX2_told_96 : decode cX2_told 96 = .ok (.iload 4, 2) := by decide +kernel
theorem dX2_told_98 : decode cX2_told 98 = .ok (.ireturn, 1) := by decide +kernel
theorem dX2_told_99 : decode cX2_told 99 = .ok (.iload 5, 2) := by decide +kernel
theorem dX2_told_101 : decode cX2_told 101 = .ok (.ifCond .eq 9, 3) := by decide +kernel
theorem dX2_told_104 : decode cX2_told 104 = .ok (.iload_n 3, 1) := by decide +kernel
theorem dX2_told_105 : decode cX2_told 105 = .ok (.iconst 1, 1) := by decide +kernel
theorem dX2_told_106 : decode cX2_told 106 = .ok (.iadd, 1) := by decide +kernel
theorem dX2_told_107 : decode cX2_told 107 = .ok (.goto 4, 3) := by decide +kernel
theorem dX2_told_110 : decode cX2_told 110 = .ok (.iload_n 3, 1) := by decide +kernel
theorem dX2_told_111 : decode cX2_told 111 = .ok (.istore_n 3, 1) := by decide +kernel
theorem dX2_told_112 : decode cX2_told 112 = .ok (.iinc 4 1, 3) := by decide +kernel
theorem dX2_told_115 : decode cX2_told 115 = .ok (.goto (-90), 3) := by decide +kernel
theorem dX2_told_118 : decode cX2_told 118 = .ok (.iconst 0, 1) := by decide +kernel
theorem dX2_told_119 : decode cX2_told 119 = .ok (.ireturn, 1) := by decide +kernel
theorem dJ9_max_7cf53_0 : decode cJ9_max_7cf53 0 = .ok (.iload_n 0, 1) := by decide +kernel
theorem dJ9_max_7cf53_1 : decode cJ9_max_7cf53 1 = .ok (.iload_n 1, 1) := by decide +kernel
theorem dJ9_max_7cf53_2 : decode cJ9_max_7cf53 2 = .ok (.if_icmp .lt 7, 3) := by decide +kernel
theorem dJ9_max_7cf53_5 : decode cJ9_max_7cf53 5 = .ok (.iload_n 0, 1) := by decide +kernel
theorem dJ9_max_7cf53_6 : decode cJ9_max_7cf53 6 = .ok (.goto 4, 3) := by decide +kernel
theorem dJ9_max_7cf53_9 : decode cJ9_max_7cf53 9 = .ok (.iload_n 1, 1) := by decide +kernel
theorem dJ9_max_7cf53_10 : decode cJ9_max_7cf53 10 = .ok (.ireturn, 1) := by decide +kernel
theorem dJ9_max_f86c9_0 : decode cJ9_max_f86c9 0 = .ok (.lload_n 0, 1) := by decide +kernel
theorem dJ9_max_f86c9_1 : decode cJ9_max_f86c9 1 = .ok (.lload_n 2, 1) := by decide +kernel
theorem dJ9_max_f86c9_2 : decode cJ9_max_f86c9 2 = .ok (.lcmp, 1) := by decide +kernel
theorem dJ9_max_f86c9_3 : decode cJ9_max_f86c9 3 = .ok (.ifCond .lt 7, 3) := by decide +kernel
theorem dJ9_max_f86c9_6 : decode cJ9_max_f86c9 6 = .ok (.lload_n 0, 1) := by decide +kernel
theorem dJ9_max_f86c9_7 : decode cJ9_max_f86c9 7 = .ok (.goto 4, 3) := by decide +kernel
theorem dJ9_max_f86c9_10 : decode cJ9_max_f86c9 10 = .ok (.lload_n 2, 1) := by decide +kernel
theorem dJ9_max_f86c9_11 : decode cJ9_max_f86c9 11 = .ok (.lreturn, 1) := by decide +kernel
theorem dJ9_min_7cf53_0 : decode cJ9_min_7cf53 0 = .ok (.iload_n 0, 1) := by decide +kernel
theorem dJ9_min_7cf53_1 : decode cJ9_min_7cf53 1 = .ok (.iload_n 1, 1) := by decide +kernel
theorem dJ9_min_7cf53_2 : decode cJ9_min_7cf53 2 = .ok (.if_icmp .gt 7, 3) := by decide +kernel
theorem dJ9_min_7cf53_5 : decode cJ9_min_7cf53 5 = .ok (.iload_n 0, 1) := by decide +kernel
theorem dJ9_min_7cf53_6 : decode cJ9_min_7cf53 6 = .ok (.goto 4, 3) := by decide +kernel
theorem dJ9_min_7cf53_9 : decode cJ9_min_7cf53 9 = .ok (.iload_n 1, 1) := by decide +kernel
theorem dJ9_min_7cf53_10 : decode cJ9_min_7cf53 10 = .ok (.ireturn, 1) := by decide +kernel
theorem dJxa1e45_init_da8c8_0 : decode cJxa1e45_init_da8c8 0 = .ok (.aload_n 0, 1) := by decide +kernel
theorem dJxa1e45_init_da8c8_1 : decode cJxa1e45_init_da8c8 1 = .ok (.invokespecial 1, 3) := by decide +kernel
theorem dJxa1e45_init_da8c8_4 : decode cJxa1e45_init_da8c8 4 = .ok (.return_, 1) := by decide +kernel
set_option maxRecDepth 20000 in
theorem ggJxc12de_init_da8c8_Jxa1e45_init_da8c8 : GoodIn wsJxc12de_init_da8c8 wsJxa1e45_init_da8c8 := goodIn_r _ [5, 6, 7, 8] (by decide +kernel) (by decide +kernel)
set_option maxRecDepth 20000 in
theorem gJxc12de_init_da8c8_Jxa1e45_init_da8c8 : GoodIn wsJxc12de_init_da8c8 (wsJxa1e45_init_da8c8) := ggJxc12de_init_da8c8_Jxa1e45_init_da8c8
theorem dJxc12de_init_da8c8_0 : decode cJxc12de_init_da8c8 0 = .ok (.aload_n 0, 1) := by decide +kernel
theorem dJxc12de_init_da8c8_1 : decode cJxc12de_init_da8c8 1 = .ok (.invokespecial 1, 3) := by decide +kernel
theorem dJxc12de_init_da8c8_4 : decode cJxc12de_init_da8c8 4 = .ok (.aload_n 0, 1) := by decide +kernel
theorem dJxc12de_init_da8c8_5 : decode cJxc12de_init_da8c8 5 = .ok (.iconst 0, 1) := by decide +kernel
theorem dJxc12de_init_da8c8_6 : decode cJxc12de_init_da8c8 6 = .ok (.putfield 7, 3) := by decide +kernel
theorem dJxc12de_init_da8c8_9 : decode cJxc12de_init_da8c8 9 = .ok (.return_, 1) := by decide +kernel
set_option maxRecDepth 20000 in
theorem ggJx4a65c_init_da8c8_Jxc12de_init_da8c8 : GoodIn wsJx4a65c_init_da8c8 wsJxc12de_init_da8c8 := goodIn_r _ [6, 7, 8, 9, 10, 11, 12, 13, 14, 15, 16, 17] (by decide +kernel) (by decide +kernel)
set_option maxRecDepth 20000 in
theorem gJx4a65c_init_da8c8_Jxc12de_init_da8c8 : GoodIn wsJx4a65c_init_da8c8 (wsJxc12de_init_da8c8) := ggJx4a65c_init_da8c8_Jxc12de_init_da8c8
theorem dJx4a65c_init_da8c8_0 : decode cJx4a65c_init_da8c8 0 = .ok (.aload_n 0, 1) := by decide +kernel
theorem dJx4a65c_init_da8c8_1 : decode cJx4a65c_init_da8c8 1 = .ok (.invokespecial 1, 3) := by decide +kernel
theorem dJx4a65c_init_da8c8_4 : decode cJx4a65c_init_da8c8 4 = .ok (.aload_n 0, 1) := by decide +kernel
theorem dJx4a65c_init_da8c8_5 : decode cJx4a65c_init_da8c8 5 = .ok (.getstatic 39, 3) := by decide +kernel
theorem dJx4a65c_init_da8c8_8 : decode cJx4a65c_init_da8c8 8 = .ok (.putfield 9, 3) := by decide +kernel
theorem dJx4a65c_init_da8c8_11 : decode cJx4a65c_init_da8c8 11 = .ok (.return_, 1) := by decide +kernel
set_option maxRecDepth 20000 in
theorem ggJx4a65c_grow_92f84_J8_newLength_cabcc : GoodIn wsJx4a65c_grow_92f84 wsJ8_newLength_cabcc := goodIn_r _ [11, 12, 4, 5, 6, 13, 14, 15, 10, 16] (by decide +kernel) (by decide +kernel)
set_option maxRecDepth 20000 in
theorem gJx4a65c_grow_92f84_J8_newLength_cabcc : GoodIn wsJx4a65c_grow_92f84 (va_wsS RJx4a65c 73 yJ8_newLength_cabcc wsJ8_newLength_cabcc) := goodIn_app (goodIn_of _ (by decide +kernel)) ggJx4a65c_grow_92f84_J8_newLength_cabcc
set_option maxRecDepth 20000 in
theorem ggJx4a65c_grow_92f84_J7_copyOf_1904c : GoodIn wsJx4a65c_grow_92f84 wsJ7_copyOf_1904c := goodIn_r _ [20, 21, 22, 23, 24, 25, 26, 19, 27, 28, 29, 30, 31, 5, 32, 33, 34, 35, 36] (by decide +kernel) (by decide +kernel)
set_option maxRecDepth 20000 in
theorem gJx4a65c_grow_92f84_J7_copyOf_1904c : GoodIn wsJx4a65c_grow_92f84 (va_wsS RJx4a65c 66 yJ7_copyOf_1904c wsJ7_copyOf_1904c) := goodIn_app (goodIn_of _ (by decide +kernel)) ggJx4a65c_grow_92f84_J7_copyOf_1904c
theorem dJx4a65c_grow_92f84_0 : decode cJx4a65c_grow_92f84 0 = .ok (.aload_n 0, 1) := by decide +kernel
theorem dJx4a65c_grow_92f84_1 : decode cJx4a65c_grow_92f84 1 = .ok (.getfield 9, 3) := by decide +kernel
theorem dJx4a65c_grow_92f84_4 : decode cJx4a65c_grow_92f84 4 = .ok (.arraylength, 1) := by decide +kernel
theorem dJx4a65c_grow_92f84_5 : decode cJx4a65c_grow_92f84 5 = .ok (.istore_n 2, 1) := by decide +kernel
theorem dJx4a65c_grow_92f84_6 : decode cJx4a65c_grow_92f84 6 = .ok (.iload_n 2, 1) := by decide +kernel
theorem dJx4a65c_grow_92f84_7 : decode cJx4a65c_grow_92f84 7 = .ok (.ifCond .gt 13, 3) := by decide +kernel
theorem dJx4a65c_grow_92f84_10 : decode cJx4a65c_grow_92f84 10 = .ok (.aload_n 0, 1) := by decide +kernel
theorem dJx4a65c_grow_92f84_11 : decode cJx4a65c_grow_92f84 11 = .ok (.getfield 9, 3) := by decide +kernel
theorem dJx4a65c_grow_92f84_14 : decode cJx4a65c_grow_92f84 14 = .ok (.getstatic 39, 3) := by decide +kernel
theorem dJx4a65c_grow_92f84_17 : decode cJx4a65c_grow_92f84 17 = .ok (.if_acmp .eq 28, 3) := by decide +kernel
theorem dJx4a65c_grow_92f84_20 : decode cJx4a65c_grow_92f84 20 = .ok (.iload_n 2, 1) := by decide +kernel
theorem dJx4a65c_grow_92f84_21 : decode cJx4a65c_grow_92f84 21 = .ok (.iload_n 1, 1) := by decide +kernel
theorem dJx4a65c_grow_92f84_22 : decode cJx4a65c_grow_92f84 22 = .ok (.iload_n 2, 1) := by decide +kernel
theorem dJx4a65c_grow_92f84_23 : decode cJx4a65c_grow_92f84 23 = .ok (.isub, 1) := by decide +kernel
theorem dJx4a65c_grow_92f84_24 : decode cJx4a65c_grow_92f84 24 = .ok (.iload_n 2, 1) := by decide +kernel
theorem dJx4a65c_grow_92f84_25 : decode cJx4a65c_grow_92f84 25 = .ok (.iconst 1, 1) := by decide +kernel
theorem dJx4a65c_grow_92f84_26 : decode cJx4a65c_grow_92f84 26 = .ok (.ishr, 1) := by decide +kernel
theorem dJx4a65c_grow_92f84_27 : decode cJx4a65c_grow_92f84 27 = .ok (.invokestatic 73, 3) := by decide +kernel
theorem dJx4a65c_grow_92f84_30 : decode cJx4a65c_grow_92f84 30 = .ok (.istore_n 3, 1) := by decide +kernel
theorem dJx4a65c_grow_92f84_31 : decode cJx4a65c_grow_92f84 31 = .ok (.aload_n 0, 1) := by decide +kernel
theorem dJx4a65c_grow_92f84_32 : decode cJx4a65c_grow_92f84 32 = .ok (.aload_n 0, 1) := by decide +kernel
theorem dJx4a65c_grow_92f84_33 : decode cJx4a65c_grow_92f84 33 = .ok (.getfield 9, 3) := by decide +kernel
theorem dJx4a65c_grow_92f84_36 : decode cJx4a65c_grow_92f84 36 = .ok (.iload_n 3, 1) := by decide +kernel
theorem dJx4a65c_grow_92f84_37 : decode cJx4a65c_grow_92f84 37 = .ok (.invokestatic 66, 3) := by decide +kernel
theorem dJx4a65c_grow_92f84_40 : decode cJx4a65c_grow_92f84 40 = .ok (.dup_x1, 1) := by decide +kernel
theorem dJx4a65c_grow_92f84_41 : decode cJx4a65c_grow_92f84 41 = .ok (.putfield 9, 3) := by decide +kernel
theorem dJx4a65c_grow_92f84_44 : decode cJx4a65c_grow_92f84 44 = .ok (.areturn, 1) := by decide +kernel
theorem dJx4a65c_grow_92f84_45 : decode cJx4a65c_grow_92f84 45 = .ok (.aload_n 0, 1) := by decide +kernel
theorem dJx4a65c_grow_92f84_46 : decode cJx4a65c_grow_92f84 46 = .ok (.bipush 10, 2) := by decide +kernel
theorem dJx4a65c_grow_92f84_48 : decode cJx4a65c_grow_92f84 48 = .ok (.iload_n 1, 1) := by decide +kernel
theorem dJx4a65c_grow_92f84_49 : decode cJx4a65c_grow_92f84 49 = .ok (.invokestatic 79, 3) := by decide +kernel
theorem dJx4a65c_grow_92f84_52 : decode cJx4a65c_grow_92f84 52 = .ok (.anewarray 7, 3) := by decide +kernel
theorem dJx4a65c_grow_92f84_55 : decode cJx4a65c_grow_92f84 55 = .ok (.dup_x1, 1) := by decide +kernel
theorem dJx4a65c_grow_92f84_56 : decode cJx4a65c_grow_92f84 56 = .ok (.putfield 9, 3) := by decide +kernel
theorem dJx4a65c_grow_92f84_59 : decode cJx4a65c_grow_92f84 59 = .ok (.areturn, 1) := by decide +kernel
set_option maxRecDepth 20000 in
theorem ggJx4a65c_grow_d5877_Jx4a65c_grow_92f84 : GoodIn wsJx4a65c_grow_d5877 wsJx4a65c_grow_92f84 := goodIn_r _ [6, 7, 8, 9, 10, 11, 12, 13, 14, 15, 16, 17, 18, 19, 20, 21, 22, 23, 24, 25, 26, 27, 28, 29, 30, 31, 32, 33, 34, 35, 36, 37, 38, 39, 40, 41, 42, 43, 44, 45] (by decide +kernel) (by decide +kernel)
set_option maxRecDepth 20000 in
theorem gJx4a65c_grow_d5877_Jx4a65c_grow_92f84 : GoodIn wsJx4a65c_grow_d5877 (wsV RJx4a65c 69 RJx4a65c yJx4a65c_grow_92f84 wsJx4a65c_grow_92f84) := goodIn_app (goodIn_of _ (by decide +kernel)) ggJx4a65c_grow_d5877_Jx4a65c_grow_92f84
theorem dJx4a65c_grow_d5877_0 : decode cJx4a65c_grow_d5877 0 = .ok (.aload_n 0, 1) := by decide +kernel
theorem dJx4a65c_grow_d5877_1 : decode cJx4a65c_grow_d5877 1 = .ok (.aload_n 0, 1) := by decide +kernel
theorem dJx4a65c_grow_d5877_2 : decode cJx4a65c_grow_d5877 2 = .ok (.getfield 48, 3) := by decide +kernel
theorem dJx4a65c_grow_d5877_5 : decode cJx4a65c_grow_d5877 5 = .ok (.iconst 1, 1) := by decide +kernel
theorem dJx4a65c_grow_d5877_6 : decode cJx4a65c_grow_d5877 6 = .ok (.iadd, 1) := by decide +kernel
theorem dJx4a65c_grow_d5877_7 : decode cJx4a65c_grow_d5877 7 = .ok (.invokevirtual 69, 3) := by decide +kernel
theorem dJx4a65c_grow_d5877_10 : decode cJx4a65c_grow_d5877 10 = .ok (.areturn, 1) := by decide +kernel
theorem dJx4a65c_size_8abf5_0 : decode cJx4a65c_size_8abf5 0 = .ok (.aload_n 0, 1) := by decide +kernel
theorem dJx4a65c_size_8abf5_1 : decode cJx4a65c_size_8abf5 1 = .ok (.getfield 48, 3) := by decide +kernel
theorem dJx4a65c_size_8abf5_4 : decode cJx4a65c_size_8abf5 4 = .ok (.ireturn, 1) := by decide +kernel
theorem dJx4a65c_elementData_915e3_0 : decode cJx4a65c_elementData_915e3 0 = .ok (.aload_n 0, 1) := by decide +kernel
theorem dJx4a65c_elementData_915e3_1 : decode cJx4a65c_elementData_915e3 1 = .ok (.getfield 9, 3) := by decide +kernel
theorem dJx4a65c_elementData_915e3_4 : decode cJx4a65c_elementData_915e3 4 = .ok (.iload_n 1, 1) := by decide +kernel
theorem dJx4a65c_elementData_915e3_5 : decode cJx4a65c_elementData_915e3 5 = .ok (.aaload, 1) := by decide +kernel
theorem dJx4a65c_elementData_915e3_6 : decode cJx4a65c_elementData_915e3 6 = .ok (.areturn, 1) := by decide +kernel
set_option maxRecDepth 20000 in
theorem ggJx4a65c_get_915e3_J15_checkIndex_7cf53 : GoodIn wsJx4a65c_get_915e3 wsJ15_checkIndex_7cf53 := goodIn_r _ [5, 6, 7, 8, 9] (by decide +kernel) (by decide +kernel)
set_option maxRecDepth 20000 in
theorem gJx4a65c_get_915e3_J15_checkIndex_7cf53 : GoodIn wsJx4a65c_get_915e3 (va_wsS RJx4a65c 118 yJ15_checkIndex_7cf53 wsJ15_checkIndex_7cf53) := goodIn_app (goodIn_of _ (by decide +kernel)) ggJx4a65c_get_915e3_J15_checkIndex_7cf53
set_option maxRecDepth 20000 in
theorem ggJx4a65c_get_915e3_Jx4a65c_elementData_915e3 : GoodIn wsJx4a65c_get_915e3 wsJx4a65c_elementData_915e3 := goodIn_r _ [14, 15, 16, 17, 18] (by decide +kernel) (by decide +kernel)
set_option maxRecDepth 20000 in
theorem gJx4a65c_get_915e3_Jx4a65c_elementData_915e3 : GoodIn wsJx4a65c_get_915e3 (wsV RJx4a65c 123 RJx4a65c yJx4a65c_elementData_915e3 wsJx4a65c_elementData_915e3) := goodIn_app (goodIn_of _ (by decide +kernel)) ggJx4a65c_get_915e3_Jx4a65c_elementData_915e3
theorem dJx4a65c_get_915e3_0 : decode cJx4a65c_get_915e3 0 = .ok (.iload_n 1, 1) := by decide +kernel
theorem dJx4a65c_get_915e3_1 : decode cJx4a65c_get_915e3 1 = .ok (.aload_n 0, 1) := by decide +kernel
theorem dJx4a65c_get_915e3_2 : decode cJx4a65c_get_915e3 2 = .ok (.getfield 48, 3) := by decide +kernel
theorem dJx4a65c_get_915e3_5 : decode cJx4a65c_get_915e3 5 = .ok (.invokestatic 118, 3) := by decide +kernel
theorem dJx4a65c_get_915e3_8 : decode cJx4a65c_get_915e3 8 = .ok (.pop, 1) := by decide +kernel
theorem dJx4a65c_get_915e3_9 : decode cJx4a65c_get_915e3 9 = .ok (.aload_n 0, 1) := by decide +kernel
theorem dJx4a65c_get_915e3_10 : decode cJx4a65c_get_915e3 10 = .ok (.iload_n 1, 1) := by decide +kernel
theorem dJx4a65c_get_915e3_11 : decode cJx4a65c_get_915e3 11 = .ok (.invokevirtual 123, 3) := by decide +kernel
theorem dJx4a65c_get_915e3_14 : decode cJx4a65c_get_915e3 14 = .ok (.areturn, 1) := by decide +kernel
set_option maxRecDepth 20000 in
theorem ggJx4a65c_add_72be8_Jx4a65c_grow_d5877 : GoodIn wsJx4a65c_add_72be8 wsJx4a65c_grow_d5877 := goodIn_r _ [6, 1, 7, 8, 9, 5, 10, 11, 12, 13, 14, 15, 16, 17, 18, 19, 20, 21, 22, 23, 24, 25, 26, 27, 28, 29, 30, 31, 32, 33, 34, 35, 36, 37, 38, 39, 40, 41, 42, 43, 44, 45, 46, 47, 48, 49] (by decide +kernel) (by decide +kernel)
set_option maxRecDepth 20000 in
theorem gJx4a65c_add_72be8_Jx4a65c_grow_d5877 : GoodIn wsJx4a65c_add_72be8 (wsV RJx4a65c 129 RJx4a65c yJx4a65c_grow_d5877 wsJx4a65c_grow_d5877) := goodIn_app (goodIn_of _ (by decide +kernel)) ggJx4a65c_add_72be8_Jx4a65c_grow_d5877
theorem dJx4a65c_add_72be8_0 : decode cJx4a65c_add_72be8 0 = .ok (.iload_n 3, 1) := by decide +kernel
theorem dJx4a65c_add_72be8_1 : decode cJx4a65c_add_72be8 1 = .ok (.aload_n 2, 1) := by decide +kernel
theorem dJx4a65c_add_72be8_2 : decode cJx4a65c_add_72be8 2 = .ok (.arraylength, 1) := by decide +kernel
theorem dJx4a65c_add_72be8_3 : decode cJx4a65c_add_72be8 3 = .ok (.if_icmp .ne 8, 3) := by decide +kernel
theorem dJx4a65c_add_72be8_6 : decode cJx4a65c_add_72be8 6 = .ok (.aload_n 0, 1) := by decide +kernel
theorem dJx4a65c_add_72be8_7 : decode cJx4a65c_add_72be8 7 = .ok (.invokevirtual 129, 3) := by decide +kernel
theorem dJx4a65c_add_72be8_10 : decode cJx4a65c_add_72be8 10 = .ok (.astore_n 2, 1) := by decide +kernel
theorem dJx4a65c_add_72be8_11 : decode cJx4a65c_add_72be8 11 = .ok (.aload_n 2, 1) := by decide +kernel
theorem dJx4a65c_add_72be8_12 : decode cJx4a65c_add_72be8 12 = .ok (.iload_n 3, 1) := by decide +kernel
theorem dJx4a65c_add_72be8_13 : decode cJx4a65c_add_72be8 13 = .ok (.aload_n 1, 1) := by decide +kernel
theorem dJx4a65c_add_72be8_14 : decode cJx4a65c_add_72be8 14 = .ok (.aastore, 1) := by decide +kernel
theorem dJx4a65c_add_72be8_15 : decode cJx4a65c_add_72be8 15 = .ok (.aload_n 0, 1) := by decide +kernel
theorem dJx4a65c_add_72be8_16 : decode cJx4a65c_add_72be8 16 = .ok (.iload_n 3, 1) := by decide +kernel
theorem dJx4a65c_add_72be8_17 : decode cJx4a65c_add_72be8 17 = .ok (.iconst 1, 1) := by decide +kernel
theorem dJx4a65c_add_72be8_18 : decode cJx4a65c_add_72be8 18 = .ok (.iadd, 1) := by decide +kernel
theorem dJx4a65c_add_72be8_19 : decode cJx4a65c_add_72be8 19 = .ok (.putfield 48, 3) := by decide +kernel
theorem dJx4a65c_add_72be8_22 : decode cJx4a65c_add_72be8 22 = .ok (.return_, 1) := by decide +kernel
set_option maxRecDepth 20000 in
theorem ggJx4a65c_add_9ea2d_Jx4a65c_add_72be8 : GoodIn wsJx4a65c_add_9ea2d wsJx4a65c_add_72be8 := goodIn_r _ [9, 4, 10, 11, 12, 8, 13, 14, 15, 16, 17, 3, 18, 19, 20, 21, 22, 23, 24, 25, 26, 27, 28, 29, 30, 31, 32, 33, 34, 35, 36, 37, 38, 39, 40, 41, 42, 43, 44, 45, 46, 47, 48, 49, 50, 51, 52, 53, 54, 55] (by decide +kernel) (by decide +kernel)
set_option maxRecDepth 20000 in
theorem gJx4a65c_add_9ea2d_Jx4a65c_add_72be8 : GoodIn wsJx4a65c_add_9ea2d (wsV RJx4a65c 131 RJx4a65c yJx4a65c_add_72be8 wsJx4a65c_add_72be8) := goodIn_app (goodIn_of _ (by decide +kernel)) ggJx4a65c_add_9ea2d_Jx4a65c_add_72be8
theorem dJx4a65c_add_9ea2d_0 : decode cJx4a65c_add_9ea2d 0 = .ok (.aload_n 0, 1) := by decide +kernel
theorem dJx4a65c_add_9ea2d_1 : decode cJx4a65c_add_9ea2d 1 = .ok (.dup, 1) := by decide +kernel
theorem dJx4a65c_add_9ea2d_2 : decode cJx4a65c_add_9ea2d 2 = .ok (.getfield 63, 3) := by decide +kernel
theorem dJx4a65c_add_9ea2d_5 : decode cJx4a65c_add_9ea2d 5 = .ok (.iconst 1, 1) := by decide +kernel
theorem dJx4a65c_add_9ea2d_6 : decode cJx4a65c_add_9ea2d 6 = .ok (.iadd, 1) := by decide +kernel
theorem dJx4a65c_add_9ea2d_7 : decode cJx4a65c_add_9ea2d 7 = .ok (.putfield 63, 3) := by decide +kernel
theorem dJx4a65c_add_9ea2d_10 : decode cJx4a65c_add_9ea2d 10 = .ok (.aload_n 0, 1) := by decide +kernel
theorem dJx4a65c_add_9ea2d_11 : decode cJx4a65c_add_9ea2d 11 = .ok (.aload_n 1, 1) := by decide +kernel
theorem dJx4a65c_add_9ea2d_12 : decode cJx4a65c_add_9ea2d 12 = .ok (.aload_n 0, 1) := by decide +kernel
theorem dJx4a65c_add_9ea2d_13 : decode cJx4a65c_add_9ea2d 13 = .ok (.getfield 9, 3) := by decide +kernel
theorem dJx4a65c_add_9ea2d_16 : decode cJx4a65c_add_9ea2d 16 = .ok (.aload_n 0, 1) := by decide +kernel
theorem dJx4a65c_add_9ea2d_17 : decode cJx4a65c_add_9ea2d 17 = .ok (.getfield 48, 3) := by decide +kernel
theorem dJx4a65c_add_9ea2d_20 : decode cJx4a65c_add_9ea2d 20 = .ok (.invokevirtual 131, 3) := by decide +kernel
theorem dJx4a65c_add_9ea2d_23 : decode cJx4a65c_add_9ea2d 23 = .ok (.iconst 1, 1) := by decide +kernel
theorem dJx4a65c_add_9ea2d_24 : decode cJx4a65c_add_9ea2d 24 = .ok (.ireturn, 1) := by decide +kernel
set_option maxRecDepth 20000 in
theorem ggJ7_copyOf_1904c_J7_copyOf_6403c : GoodIn wsJ7_copyOf_1904c wsJ7_copyOf_6403c := goodIn_r _ [8, 9, 10, 11, 12, 13, 14, 15, 16, 17, 18] (by decide +kernel) (by decide +kernel)
set_option maxRecDepth 20000 in
theorem gJ7_copyOf_1904c_J7_copyOf_6403c : GoodIn wsJ7_copyOf_1904c (va_wsS RJ7 300 yJ7_copyOf_6403c wsJ7_copyOf_6403c) := goodIn_app (goodIn_of _ (by decide +kernel)) ggJ7_copyOf_1904c_J7_copyOf_6403c
theorem dJ7_copyOf_1904c_0 : decode cJ7_copyOf_1904c 0 = .ok (.aload_n 0, 1) := by decide +kernel
theorem dJ7_copyOf_1904c_1 : decode cJ7_copyOf_1904c 1 = .ok (.iload_n 1, 1) := by decide +kernel
theorem dJ7_copyOf_1904c_2 : decode cJ7_copyOf_1904c 2 = .ok (.aload_n 0, 1) := by decide +kernel
theorem dJ7_copyOf_1904c_3 : decode cJ7_copyOf_1904c 3 = .ok (.invokevirtual 86, 3) := by decide +kernel
theorem dJ7_copyOf_1904c_6 : decode cJ7_copyOf_1904c 6 = .ok (.invokestatic 300, 3) := by decide +kernel
theorem dJ7_copyOf_1904c_9 : decode cJ7_copyOf_1904c 9 = .ok (.areturn, 1) := by decide +kernel
theorem dJ7_copyOf_6403c_0 : decode cJ7_copyOf_6403c 0 = .ok (.aload_n 2, 1) := by decide +kernel
theorem dJ7_copyOf_6403c_1 : decode cJ7_copyOf_6403c 1 = .ok (.ldc 110, 2) := by decide +kernel
theorem dJ7_copyOf_6403c_3 : decode cJ7_copyOf_6403c 3 = .ok (.if_acmp .ne 10, 3) := by decide +kernel
theorem dJ7_copyOf_6403c_6 : decode cJ7_copyOf_6403c 6 = .ok (.iload_n 1, 1) := by decide +kernel
theorem dJ7_copyOf_6403c_7 : decode cJ7_copyOf_6403c 7 = .ok (.anewarray 2, 3) := by decide +kernel
theorem dJ7_copyOf_6403c_10 : decode cJ7_copyOf_6403c 10 = .ok (.goto 14, 3) := by decide +kernel
theorem dJ7_copyOf_6403c_13 : decode cJ7_copyOf_6403c 13 = .ok (.aload_n 2, 1) := by decide +kernel
theorem dJ7_copyOf_6403c_14 : decode cJ7_copyOf_6403c 14 = .ok (.invokevirtual 90, 3) := by decide +kernel
theorem dJ7_copyOf_6403c_17 : decode cJ7_copyOf_6403c 17 = .ok (.iload_n 1, 1) := by decide +kernel
theorem dJ7_copyOf_6403c_18 : decode cJ7_copyOf_6403c 18 = .ok (.invokestatic 95, 3) := by decide +kernel
theorem dJ7_copyOf_6403c_21 : decode cJ7_copyOf_6403c 21 = .ok (.checkcast 110, 3) := by decide +kernel
theorem dJ7_copyOf_6403c_24 : decode cJ7_copyOf_6403c 24 = .ok (.astore_n 3, 1) := by decide +kernel
theorem dJ7_copyOf_6403c_25 : decode cJ7_copyOf_6403c 25 = .ok (.aload_n 0, 1) := by decide +kernel
theorem dJ7_copyOf_6403c_26 : decode cJ7_copyOf_6403c 26 = .ok (.iconst 0, 1) := by decide +kernel
theorem dJ7_copyOf_6403c_27 : decode cJ7_copyOf_6403c 27 = .ok (.aload_n 3, 1) := by decide +kernel
theorem dJ7_copyOf_6403c_28 : decode cJ7_copyOf_6403c 28 = .ok (.iconst 0, 1) := by decide +kernel
theorem dJ7_copyOf_6403c_29 : decode cJ7_copyOf_6403c 29 = .ok (.aload_n 0, 1) := by decide +kernel
theorem dJ7_copyOf_6403c_30 : decode cJ7_copyOf_6403c 30 = .ok (.arraylength, 1) := by decide +kernel
theorem dJ7_copyOf_6403c_31 : decode cJ7_copyOf_6403c 31 = .ok (.iload_n 1, 1) := by decide +kernel
theorem dJ7_copyOf_6403c_32 : decode cJ7_copyOf_6403c 32 = .ok (.invokestatic 304, 3) := by decide +kernel
theorem dJ7_copyOf_6403c_35 : decode cJ7_copyOf_6403c 35 = .ok (.invokestatic 150, 3) := by decide +kernel
theorem dJ7_copyOf_6403c_38 : decode cJ7_copyOf_6403c 38 = .ok (.aload_n 3, 1) := by decide +kernel
theorem dJ7_copyOf_6403c_39 : decode cJ7_copyOf_6403c 39 = .ok (.areturn, 1) := by decide +kernel
set_option maxRecDepth 20000 in
theorem ggJ15_checkIndex_7cf53_J3_checkIndex_8e157 : GoodIn wsJ15_checkIndex_7cf53 wsJ3_checkIndex_8e157 := goodIn_r _ [4] (by decide +kernel) (by decide +kernel)
set_option maxRecDepth 20000 in
theorem gJ15_checkIndex_7cf53_J3_checkIndex_8e157 : GoodIn wsJ15_checkIndex_7cf53 (va_wsS RJ15 105 yJ3_checkIndex_8e157 wsJ3_checkIndex_8e157) := goodIn_app (goodIn_of _ (by decide +kernel)) ggJ15_checkIndex_7cf53_J3_checkIndex_8e157
theorem dJ15_checkIndex_7cf53_0 : decode cJ15_checkIndex_7cf53 0 = .ok (.iload_n 0, 1) := by decide +kernel
theorem dJ15_checkIndex_7cf53_1 : decode cJ15_checkIndex_7cf53 1 = .ok (.iload_n 1, 1) := by decide +kernel
theorem dJ15_checkIndex_7cf53_2 : decode cJ15_checkIndex_7cf53 2 = .ok (.aconst_null, 1) := by decide +kernel
theorem dJ15_checkIndex_7cf53_3 : decode cJ15_checkIndex_7cf53 3 = .ok (.invokestatic 105, 3) := by decide +kernel
theorem dJ15_checkIndex_7cf53_6 : decode cJ15_checkIndex_7cf53 6 = .ok (.ireturn, 1) := by decide +kernel
set_option maxRecDepth 20000 in
theorem ggJ8_newLength_cabcc_J8_hugeLength_7cf53 : GoodIn wsJ8_newLength_cabcc wsJ8_hugeLength_7cf53 := goodIn_r _ [9, 5] (by decide +kernel) (by decide +kernel)
set_option maxRecDepth 20000 in
theorem gJ8_newLength_cabcc_J8_hugeLength_7cf53 : GoodIn wsJ8_newLength_cabcc (va_wsS RJ8 201 yJ8_hugeLength_7cf53 wsJ8_hugeLength_7cf53) := goodIn_app (goodIn_of _ (by decide +kernel)) ggJ8_newLength_cabcc_J8_hugeLength_7cf53
theorem dJ8_newLength_cabcc_0 : decode cJ8_newLength_cabcc 0 = .ok (.iload_n 0, 1) := by decide +kernel
theorem dJ8_newLength_cabcc_1 : decode cJ8_newLength_cabcc 1 = .ok (.iload_n 1, 1) := by decide +kernel
theorem dJ8_newLength_cabcc_2 : decode cJ8_newLength_cabcc 2 = .ok (.iload_n 2, 1) := by decide +kernel
theorem dJ8_newLength_cabcc_3 : decode cJ8_newLength_cabcc 3 = .ok (.invokestatic 194, 3) := by decide +kernel
theorem dJ8_newLength_cabcc_6 : decode cJ8_newLength_cabcc 6 = .ok (.iadd, 1) := by decide +kernel
theorem dJ8_newLength_cabcc_7 : decode cJ8_newLength_cabcc 7 = .ok (.istore_n 3, 1) := by decide +kernel
theorem dJ8_newLength_cabcc_8 : decode cJ8_newLength_cabcc 8 = .ok (.iconst 0, 1) := by decide +kernel
theorem dJ8_newLength_cabcc_9 : decode cJ8_newLength_cabcc 9 = .ok (.iload_n 3, 1) := by decide +kernel
theorem dJ8_newLength_cabcc_10 : decode cJ8_newLength_cabcc 10 = .ok (.if_icmp .ge 11, 3) := by decide +kernel
theorem dJ8_newLength_cabcc_13 : decode cJ8_newLength_cabcc 13 = .ok (.iload_n 3, 1) := by decide +kernel
theorem dJ8_newLength_cabcc_14 : decode cJ8_newLength_cabcc 14 = .ok (.ldc 200, 2) := by decide +kernel
theorem dJ8_newLength_cabcc_16 : decode cJ8_newLength_cabcc 16 = .ok (.if_icmp .gt 5, 3) := by decide +kernel
theorem dJ8_newLength_cabcc_19 : decode cJ8_newLength_cabcc 19 = .ok (.iload_n 3, 1) := by decide +kernel
theorem dJ8_newLength_cabcc_20 : decode cJ8_newLength_cabcc 20 = .ok (.ireturn, 1) := by decide +kernel
theorem dJ8_newLength_cabcc_21 : decode cJ8_newLength_cabcc 21 = .ok (.iload_n 0, 1) := by decide +kernel
theorem dJ8_newLength_cabcc_22 : decode cJ8_newLength_cabcc 22 = .ok (.iload_n 1, 1) := by decide +kernel
theorem dJ8_newLength_cabcc_23 : decode cJ8_newLength_cabcc 23 = .ok (.invokestatic 201, 3) := by decide +kernel
theorem dJ8_newLength_cabcc_26 : decode cJ8_newLength_cabcc 26 = .ok (.ireturn, 1) := by decide +kernel
theorem dJ8_hugeLength_7cf53_0 : decode cJ8_hugeLength_7cf53 0 = .ok (.iload_n 0, 1) := by decide +kernel
theorem dJ8_hugeLength_7cf53_1 : decode cJ8_hugeLength_7cf53 1 = .ok (.iload_n 1, 1) := by decide +kernel
theorem dJ8_hugeLength_7cf53_2 : decode cJ8_hugeLength_7cf53 2 = .ok (.iadd, 1) := by decide +kernel
theorem dJ8_hugeLength_7cf53_3 : decode cJ8_hugeLength_7cf53 3 = .ok (.istore_n 2, 1) := by decide +kernel
theorem dJ8_hugeLength_7cf53_4 : decode cJ8_hugeLength_7cf53 4 = .ok (.iload_n 2, 1) := by decide +kernel
theorem dJ8_hugeLength_7cf53_5 : decode cJ8_hugeLength_7cf53 5 = .ok (.ifCond .ge 44, 3) := by decide +kernel
theorem dJ8_hugeLength_7cf53_8 : decode cJ8_hugeLength_7cf53 8 = .ok (.new 204, 3) := by decide +kernel
theorem dJ8_hugeLength_7cf53_11 : decode cJ8_hugeLength_7cf53 11 = .ok (.dup, 1) := by decide +kernel
theorem dJ8_hugeLength_7cf53_12 : decode cJ8_hugeLength_7cf53 12 = .ok (.new 89, 3) := by decide +kernel
theorem dJ8_hugeLength_7cf53_15 : decode cJ8_hugeLength_7cf53 15 = .ok (.dup, 1) := by decide +kernel
theorem dJ8_hugeLength_7cf53_16 : decode cJ8_hugeLength_7cf53 16 = .ok (.invokespecial 91, 3) := by decide +kernel
theorem dJ8_hugeLength_7cf53_19 : decode cJ8_hugeLength_7cf53 19 = .ok (.ldc 206, 2) := by decide +kernel
theorem dJ8_hugeLength_7cf53_21 : decode cJ8_hugeLength_7cf53 21 = .ok (.invokevirtual 94, 3) := by decide +kernel
theorem dJ8_hugeLength_7cf53_24 : decode cJ8_hugeLength_7cf53 24 = .ok (.iload_n 0, 1) := by decide +kernel
theorem dJ8_hugeLength_7cf53_25 : decode cJ8_hugeLength_7cf53 25 = .ok (.invokevirtual 98, 3) := by decide +kernel
theorem dJ8_hugeLength_7cf53_28 : decode cJ8_hugeLength_7cf53 28 = .ok (.ldc 208, 2) := by decide +kernel
theorem dJ8_hugeLength_7cf53_30 : decode cJ8_hugeLength_7cf53 30 = .ok (.invokevirtual 94, 3) := by decide +kernel
theorem dJ8_hugeLength_7cf53_33 : decode cJ8_hugeLength_7cf53 33 = .ok (.iload_n 1, 1) := by decide +kernel
theorem dJ8_hugeLength_7cf53_34 : decode cJ8_hugeLength_7cf53 34 = .ok (.invokevirtual 98, 3) := by decide +kernel
theorem dJ8_hugeLength_7cf53_37 : decode cJ8_hugeLength_7cf53 37 = .ok (.ldc 210, 2) := by decide +kernel
theorem dJ8_hugeLength_7cf53_39 : decode cJ8_hugeLength_7cf53 39 = .ok (.invokevirtual 94, 3) := by decide +kernel
theorem dJ8_hugeLength_7cf53_42 : decode cJ8_hugeLength_7cf53 42 = .ok (.invokevirtual 101, 3) := by decide +kernel
theorem dJ8_hugeLength_7cf53_45 : decode cJ8_hugeLength_7cf53 45 = .ok (.invokespecial 212, 3) := by decide +kernel
theorem dJ8_hugeLength_7cf53_48 : decode cJ8_hugeLength_7cf53 48 = .ok (.athrow, 1) := by decide +kernel
theorem dJ8_hugeLength_7cf53_49 : decode cJ8_hugeLength_7cf53 49 = .ok (.iload_n 2, 1) := by decide +kernel
theorem dJ8_hugeLength_7cf53_50 : decode cJ8_hugeLength_7cf53 50 = .ok (.ldc 200, 2) := by decide +kernel
theorem dJ8_hugeLength_7cf53_52 : decode cJ8_hugeLength_7cf53 52 = .ok (.if_icmp .gt 6, 3) := by decide +kernel
theorem dJ8_hugeLength_7cf53_55 : decode cJ8_hugeLength_7cf53 55 = .ok (.ldc 200, 2) := by decide +kernel
theorem dJ8_hugeLength_7cf53_57 : decode cJ8_hugeLength_7cf53 57 = .ok (.ireturn, 1) := by decide +kernel
theorem dJ8_hugeLength_7cf53_58 : decode cJ8_hugeLength_7cf53 58 = .ok (.iload_n 2, 1) := by decide +kernel
theorem dJ8_hugeLength_7cf53_59 : decode cJ8_hugeLength_7cf53 59 = .ok (.ireturn, 1) := by decide +kernel
theorem dJ3_checkIndex_8e157_0 : decode cJ3_checkIndex_8e157 0 = .ok (.iload_n 0, 1) := by decide +kernel
theorem dJ3_checkIndex_8e157_1 : decode cJ3_checkIndex_8e157 1 = .ok (.ifCond .lt 8, 3) := by decide +kernel
theorem dJ3_checkIndex_8e157_4 : decode cJ3_checkIndex_8e157 4 = .ok (.iload_n 0, 1) := by decide +kernel
theorem dJ3_checkIndex_8e157_5 : decode cJ3_checkIndex_8e157 5 = .ok (.iload_n 1, 1) := by decide +kernel
theorem dJ3_checkIndex_8e157_6 : decode cJ3_checkIndex_8e157 6 = .ok (.if_icmp .lt 10, 3) := by decide +kernel
theorem dJ3_checkIndex_8e157_9 : decode cJ3_checkIndex_8e157 9 = .ok (.aload_n 2, 1) := by decide +kernel
theorem dJ3_checkIndex_8e157_10 : decode cJ3_checkIndex_8e157 10 = .ok (.iload_n 0, 1) := by decide +kernel
theorem dJ3_checkIndex_8e157_11 : decode cJ3_checkIndex_8e157 11 = .ok (.iload_n 1, 1) := by decide +kernel
theorem dJ3_checkIndex_8e157_12 : decode cJ3_checkIndex_8e157 12 = .ok (.invokestatic 95, 3) := by decide +kernel
theorem dJ3_checkIndex_8e157_15 : decode cJ3_checkIndex_8e157 15 = .ok (.athrow, 1) := by decide +kernel
theorem dJ3_checkIndex_8e157_16 : decode cJ3_checkIndex_8e157 16 = .ok (.iload_n 0, 1) := by decide +kernel
theorem dJ3_checkIndex_8e157_17 : decode cJ3_checkIndex_8e157 17 = .ok (.ireturn, 1) := by decide +kernel
set_option maxRecDepth 20000 in
theorem ggL_law_X1_init : GoodIn wsL_law wsX1_init := goodIn_r _ [9, 10, 11, 12, 13, 14, 15, 16, 17, 18, 19, 20, 21, 22, 23, 24, 25, 26, 27, 28, 29, 30, 31, 32, 33, 34, 35, 36, 37, 353, 354, 355, 330, 331, 332, 333, 334, 335] (by decide +kernel) (by decide +kernel)
set_option maxRecDepth 20000 in
theorem gL_law_X1_init : GoodIn wsL_law (wsX1_init) := ggL_law_X1_init
set_option maxRecDepth 20000 in
theorem ggL_law_X2_init : GoodIn wsL_law wsX2_init := goodIn_r _ [40, 41, 11, 12, 17, 42, 43, 44, 45, 46, 47, 48, 49, 50, 51, 52, 53, 54, 55, 56, 336, 337, 338, 339, 340, 341, 342, 343, 344, 345, 346, 347, 348, 349, 350, 351, 352] (by decide +kernel) (by decide +kernel)
set_option maxRecDepth 20000 in
theorem gL_law_X2_init : GoodIn wsL_law (wsX2_init) := ggL_law_X2_init
set_option maxRecDepth 20000 in
theorem ggL_law_X1_order : GoodIn wsL_law wsX1_order := goodIn_r _ [60, 16, 61, 62, 63, 22, 64, 65, 2, 66, 67, 68, 69, 70, 71, 72, 73, 74, 75, 76, 77, 78, 79, 80, 81, 82, 15, 83, 84, 85, 86, 87, 88, 11, 12, 89, 90, 91, 92, 93, 94, 95, 96, 97, 98, 99, 100, 101, 102, 103, 104, 27, 105, 106, 107, 108, 109, 110, 111, 112, 113, 114, 115, 116, 26, 117, 118, 119, 120, 121, 122, 123, 124, 125, 126, 127, 128, 129, 130, 131, 132, 133, 134, 135, 136, 137, 138, 139, 140, 141, 142, 143, 144, 145, 146, 147, 148, 149, 150, 330, 331, 332, 333, 334, 335, 356, 357, 358, 359, 360, 361, 362, 363, 364, 353, 354, 355] (by decide +kernel) (by decide +kernel)
set_option maxRecDepth 20000 in
theorem gL_law_X1_order : GoodIn wsL_law (wsV RL 15 RX1 yX1_order wsX1_order) := goodIn_app (goodIn_of _ (by decide +kernel)) ggL_law_X1_order
set_option maxRecDepth 20000 in
theorem ggL_law_X2_order : GoodIn wsL_law wsX2_order := goodIn_r _ [154, 155, 156, 157, 158, 159, 160, 161, 42, 43, 44, 45, 47, 48, 49, 162, 52, 163, 164, 5, 165, 336, 337, 338, 339, 340, 341, 342, 343, 344, 345, 346, 347, 348, 349, 350, 351, 352] (by decide +kernel) (by decide +kernel)
set_option maxRecDepth 20000 in
theorem gL_law_X2_order : GoodIn wsL_law (wsV RL 19 RX2 yX2_order wsX2_order) := goodIn_app (goodIn_of _ (by decide +kernel)) ggL_law_X2_order
set_option maxRecDepth 20000 in
theorem ggL_law_X1_proof : GoodIn wsL_law wsX1_proof := goodIn_r _ [169, 170, 22, 171, 172, 173, 174, 2, 175, 16, 176, 80, 81, 82, 15, 83, 84, 177, 178, 179, 180, 181, 182, 183, 184, 185, 186, 187, 188, 189, 190, 191, 192, 27, 193, 194, 195, 196, 76, 77, 78, 79, 197, 198, 199, 200, 201, 202, 203, 63, 204, 98, 95, 205, 97, 206, 207, 208, 209, 96, 210, 356, 357, 358, 359, 360, 361, 362, 363, 364, 330, 331, 332, 333, 334, 335, 353, 354, 355] (by decide +kernel) (by decide +kernel)
set_option maxRecDepth 20000 in
theorem gL_law_X1_proof : GoodIn wsL_law (wsV RL 20 RX1 yX1_proof wsX1_proof) := goodIn_app (goodIn_of _ (by decide +kernel)) ggL_law_X1_proof
set_option maxRecDepth 20000 in
theorem ggL_law_X2_proof : GoodIn wsL_law wsX2_proof := goodIn_r _ [214, 155, 52, 51, 157, 215, 216, 217, 5, 218, 161, 163, 164, 165, 219, 220, 221, 222, 162, 160, 223, 224, 225, 226, 49, 227, 228, 336, 337, 338, 339, 340, 341, 342, 343, 344, 345, 346, 347, 348, 349, 350, 351, 352] (by decide +kernel) (by decide +kernel)
set_option maxRecDepth 20000 in
theorem gL_law_X2_proof : GoodIn wsL_law (wsV RL 24 RX2 yX2_proof wsX2_proof) := goodIn_app (goodIn_of _ (by decide +kernel)) ggL_law_X2_proof
set_option maxRecDepth 20000 in
theorem ggL_law_X1_withdraw : GoodIn wsL_law wsX1_withdraw := goodIn_r _ [232, 22, 171, 172, 173, 174, 2, 175, 16, 176, 80, 81, 82, 15, 83, 84, 177, 178, 179, 180, 181, 182, 183, 184, 185, 186, 187, 188, 189, 190, 191, 192, 27, 193, 194, 195, 196, 76, 77, 78, 79, 197, 198, 199, 200, 201, 202, 203, 63, 204, 98, 95, 205, 97, 206, 207, 208, 209, 96, 210, 233, 234, 235, 236, 93, 237, 238, 119, 239, 94, 330, 331, 332, 333, 334, 335, 356, 357, 358, 359, 360, 361, 362, 363, 364, 353, 354, 355] (by decide +kernel) (by decide +kernel)
set_option maxRecDepth 20000 in
theorem gL_law_X1_withdraw : GoodIn wsL_law (wsV RL 25 RX1 yX1_withdraw wsX1_withdraw) := goodIn_app (goodIn_of _ (by decide +kernel)) ggL_law_X1_withdraw
set_option maxRecDepth 20000 in
theorem ggL_law_X2_withdraw : GoodIn wsL_law wsX2_withdraw := goodIn_r _ [243, 155, 52, 47, 48, 215, 216, 217, 5, 218, 161, 163, 164, 165, 219, 220, 221, 222, 162, 160, 223, 224, 225, 226, 51, 49, 227, 228, 336, 337, 338, 339, 340, 341, 342, 343, 344, 345, 346, 347, 348, 349, 350, 351, 352] (by decide +kernel) (by decide +kernel)
set_option maxRecDepth 20000 in
theorem gL_law_X2_withdraw : GoodIn wsL_law (wsV RL 29 RX2 yX2_withdraw wsX2_withdraw) := goodIn_app (goodIn_of _ (by decide +kernel)) ggL_law_X2_withdraw
set_option maxRecDepth 20000 in
theorem ggL_law_X1_effective : GoodIn wsL_law wsX1_effective := goodIn_r _ [247, 19, 248, 249, 70, 71, 2, 72, 73, 74, 75, 76, 77, 78, 79, 250, 251, 252, 253, 254, 255, 256, 257, 20, 21, 258, 259, 260, 261, 16, 176, 18, 80, 81, 82, 15, 83, 84, 177, 178, 179, 180, 181, 182, 183, 184, 185, 186, 187, 188, 189, 190, 191, 192, 27, 262, 263, 264, 63, 265, 90, 91, 89, 266, 267, 268, 269, 93, 94, 97, 270, 271, 272, 273, 68, 69, 67, 330, 331, 332, 333, 334, 335, 356, 357, 358, 359, 360, 361, 362, 363, 364, 353, 354, 355] (by decide +kernel) (by decide +kernel)
set_option maxRecDepth 20000 in
theorem gL_law_X1_effective : GoodIn wsL_law (wsV RL 30 RX1 yX1_effective wsX1_effective) := goodIn_app (goodIn_of _ (by decide +kernel)) ggL_law_X1_effective
set_option maxRecDepth 20000 in
theorem ggL_law_X2_effective : GoodIn wsL_law wsX2_effective := goodIn_r _ [277, 155, 156, 158, 278, 160, 54, 42, 45, 56, 55, 163, 164, 5, 165, 279, 280, 281, 282, 161, 43, 44, 53, 283, 284, 285, 286, 47, 48, 52, 336, 337, 338, 339, 340, 341, 342, 343, 344, 345, 346, 347, 348, 349, 350, 351, 352] (by decide +kernel) (by decide +kernel)
set_option maxRecDepth 20000 in
theorem gL_law_X2_effective : GoodIn wsL_law (wsV RL 34 RX2 yX2_effective wsX2_effective) := goodIn_app (goodIn_of _ (by decide +kernel)) ggL_law_X2_effective
set_option maxRecDepth 20000 in
theorem ggL_law_X1_ring : GoodIn wsL_law wsX1_ring := goodIn_r _ [290, 21, 20, 330, 331, 332, 333, 334, 335] (by decide +kernel) (by decide +kernel)
set_option maxRecDepth 20000 in
theorem gL_law_X1_ring : GoodIn wsL_law (wsV RL 35 RX1 yX1_ring wsX1_ring) := goodIn_app (goodIn_of _ (by decide +kernel)) ggL_law_X1_ring
set_option maxRecDepth 20000 in
theorem ggL_law_X2_ring : GoodIn wsL_law wsX2_ring := goodIn_r _ [294, 155, 56, 55, 336, 337, 338, 339, 340, 341, 342, 343, 344, 345, 346, 347, 348, 349, 350, 351, 352] (by decide +kernel) (by decide +kernel)
set_option maxRecDepth 20000 in
theorem gL_law_X2_ring : GoodIn wsL_law (wsV RL 39 RX2 yX2_ring wsX2_ring) := goodIn_app (goodIn_of _ (by decide +kernel)) ggL_law_X2_ring
set_option maxRecDepth 20000 in
theorem ggL_law_X1_rank : GoodIn wsL_law wsX1_rank := goodIn_r _ [298, 18, 64, 65, 2, 66, 330, 331, 332, 333, 334, 335] (by decide +kernel) (by decide +kernel)
set_option maxRecDepth 20000 in
theorem gL_law_X1_rank : GoodIn wsL_law (wsV RL 40 RX1 yX1_rank wsX1_rank) := goodIn_app (goodIn_of _ (by decide +kernel)) ggL_law_X1_rank
set_option maxRecDepth 20000 in
theorem ggL_law_X2_rank : GoodIn wsL_law wsX2_rank := goodIn_r _ [302, 155, 159, 303, 53, 163, 164, 5, 165, 336, 337, 338, 339, 340, 341, 342, 343, 344, 345, 346, 347, 348, 349, 350, 351, 352] (by decide +kernel) (by decide +kernel)
set_option maxRecDepth 20000 in
theorem gL_law_X2_rank : GoodIn wsL_law (wsV RL 44 RX2 yX2_rank wsX2_rank) := goodIn_app (goodIn_of _ (by decide +kernel)) ggL_law_X2_rank
set_option maxRecDepth 20000 in
theorem ggL_law_X1_tick : GoodIn wsL_law wsX1_tick := goodIn_r _ [307, 193, 194, 195, 2, 196, 22, 76, 77, 78, 79, 197, 198, 199, 200, 16, 176, 80, 81, 82, 15, 83, 84, 177, 178, 179, 180, 181, 182, 183, 184, 185, 186, 187, 188, 189, 190, 191, 192, 27, 201, 202, 203, 63, 204, 98, 95, 205, 97, 206, 207, 208, 209, 96, 330, 331, 332, 333, 334, 335, 353, 354, 355, 356, 357, 358, 359, 360, 361, 362, 363, 364] (by decide +kernel) (by decide +kernel)
set_option maxRecDepth 20000 in
theorem gL_law_X1_tick : GoodIn wsL_law (wsV RL 45 RX1 yX1_tick wsX1_tick) := goodIn_app (goodIn_of _ (by decide +kernel)) ggL_law_X1_tick
set_option maxRecDepth 20000 in
theorem ggL_law_X2_tick : GoodIn wsL_law wsX2_tick := goodIn_r _ [311, 155, 219, 220, 221, 5, 222, 162, 160, 163, 164, 165, 223, 224, 225, 226, 161, 51, 52, 49, 227, 228, 336, 337, 338, 339, 340, 341, 342, 343, 344, 345, 346, 347, 348, 349, 350, 351, 352] (by decide +kernel) (by decide +kernel)
set_option maxRecDepth 20000 in
theorem gL_law_X2_tick : GoodIn wsL_law (wsV RL 49 RX2 yX2_tick wsX2_tick) := goodIn_app (goodIn_of _ (by decide +kernel)) ggL_law_X2_tick
set_option maxRecDepth 20000 in
theorem ggL_law_X1_extend : GoodIn wsL_law wsX1_extend := goodIn_r _ [315, 316, 172, 173, 174, 2, 175, 16, 176, 80, 81, 82, 15, 83, 84, 177, 178, 179, 180, 181, 182, 183, 184, 185, 186, 187, 188, 189, 190, 191, 192, 27, 76, 77, 78, 79, 210, 207, 208, 63, 209, 97, 96, 356, 357, 358, 359, 360, 361, 362, 363, 364, 330, 331, 332, 333, 334, 335, 353, 354, 355] (by decide +kernel) (by decide +kernel)
set_option maxRecDepth 20000 in
theorem gL_law_X1_extend : GoodIn wsL_law (wsV RL 50 RX1 yX1_extend wsX1_extend) := goodIn_app (goodIn_of _ (by decide +kernel)) ggL_law_X1_extend
set_option maxRecDepth 20000 in
theorem ggL_law_X2_extend : GoodIn wsL_law wsX2_extend := goodIn_r _ [320, 155, 160, 52, 48, 215, 216, 217, 5, 218, 161, 163, 164, 165, 336, 337, 338, 339, 340, 341, 342, 343, 344, 345, 346, 347, 348, 349, 350, 351, 352] (by decide +kernel) (by decide +kernel)
set_option maxRecDepth 20000 in
theorem gL_law_X2_extend : GoodIn wsL_law (wsV RL 53 RX2 yX2_extend wsX2_extend) := goodIn_app (goodIn_of _ (by decide +kernel)) ggL_law_X2_extend
set_option maxRecDepth 20000 in
theorem ggL_law_X1_told : GoodIn wsL_law wsX1_told := goodIn_r _ [324, 16, 176, 325, 170, 22, 73, 74, 2, 75, 80, 81, 82, 15, 83, 84, 177, 178, 179, 180, 181, 182, 183, 184, 185, 186, 187, 188, 189, 190, 191, 192, 27, 270, 271, 272, 63, 273, 89, 68, 69, 266, 267, 268, 269, 93, 94, 97, 330, 331, 332, 333, 334, 335, 356, 357, 358, 359, 360, 361, 362, 363, 364, 353, 354, 355] (by decide +kernel) (by decide +kernel)
set_option maxRecDepth 20000 in
theorem gL_law_X1_told : GoodIn wsL_law (wsV RL 54 RX1 yX1_told wsX1_told) := goodIn_app (goodIn_of _ (by decide +kernel)) ggL_law_X1_told
set_option maxRecDepth 20000 in
theorem ggL_law_X2_told : GoodIn wsL_law wsX2_told := goodIn_r _ [329, 155, 158, 161, 44, 51, 42, 162, 163, 164, 5, 165, 283, 284, 285, 286, 47, 48, 52, 336, 337, 338, 339, 340, 341, 342, 343, 344, 345, 346, 347, 348, 349, 350, 351, 352] (by decide +kernel) (by decide +kernel)
set_option maxRecDepth 20000 in
theorem gL_law_X2_told : GoodIn wsL_law (wsV RL 57 RX2 yX2_told wsX2_told) := goodIn_app (goodIn_of _ (by decide +kernel)) ggL_law_X2_told
theorem dL_law_0 : decode cL_law 0 = .ok (.new 7, 3) := by decide +kernel
theorem dL_law_3 : decode cL_law 3 = .ok (.dup, 1) := by decide +kernel
theorem dL_law_4 : decode cL_law 4 = .ok (.invokespecial 9, 3) := by decide +kernel
theorem dL_law_7 : decode cL_law 7 = .ok (.astore_n 1, 1) := by decide +kernel
theorem dL_law_8 : decode cL_law 8 = .ok (.new 10, 3) := by decide +kernel
theorem dL_law_11 : decode cL_law 11 = .ok (.dup, 1) := by decide +kernel
theorem dL_law_12 : decode cL_law 12 = .ok (.invokespecial 12, 3) := by decide +kernel
theorem dL_law_15 : decode cL_law 15 = .ok (.astore_n 2, 1) := by decide +kernel
theorem dL_law_16 : decode cL_law 16 = .ok (.iconst 0, 1) := by decide +kernel
theorem dL_law_17 : decode cL_law 17 = .ok (.istore_n 3, 1) := by decide +kernel
theorem dL_law_18 : decode cL_law 18 = .ok (.iload_n 3, 1) := by decide +kernel
theorem dL_law_19 : decode cL_law 19 = .ok (.aload_n 0, 1) := by decide +kernel
theorem dL_law_20 : decode cL_law 20 = .ok (.arraylength, 1) := by decide +kernel
theorem dL_law_21 : decode cL_law 21 = .ok (.bipush 9, 2) := by decide +kernel
theorem dL_law_23 : decode cL_law 23 = .ok (.isub, 1) := by decide +kernel
theorem dL_law_24 : decode cL_law 24 = .ok (.if_icmp .gt 645, 3) := by decide +kernel
theorem dL_law_27 : decode cL_law 27 = .ok (.aload_n 0, 1) := by decide +kernel
theorem dL_law_28 : decode cL_law 28 = .ok (.iload_n 3, 1) := by decide +kernel
theorem dL_law_29 : decode cL_law 29 = .ok (.iaload, 1) := by decide +kernel
theorem dL_law_30 : decode cL_law 30 = .ok (.bipush 15, 2) := by decide +kernel
theorem dL_law_32 : decode cL_law 32 = .ok (.iand, 1) := by decide +kernel
theorem dL_law_33 : decode cL_law 33 = .ok (.tableswitch 630 0 8 #[51, 190, 279, 342, 425, 448, 481, 534, 597], 51) := by decide +kernel
theorem dL_law_84 : decode cL_law 84 = .ok (.aload_n 1, 1) := by decide +kernel
theorem dL_law_85 : decode cL_law 85 = .ok (.aload_n 0, 1) := by decide +kernel
theorem dL_law_86 : decode cL_law 86 = .ok (.iload_n 3, 1) := by decide +kernel
theorem dL_law_87 : decode cL_law 87 = .ok (.iconst 1, 1) := by decide +kernel
theorem dL_law_88 : decode cL_law 88 = .ok (.iadd, 1) := by decide +kernel
theorem dL_law_89 : decode cL_law 89 = .ok (.iaload, 1) := by decide +kernel
theorem dL_law_90 : decode cL_law 90 = .ok (.aload_n 0, 1) := by decide +kernel
theorem dL_law_91 : decode cL_law 91 = .ok (.iload_n 3, 1) := by decide +kernel
theorem dL_law_92 : decode cL_law 92 = .ok (.iconst 2, 1) := by decide +kernel
theorem dL_law_93 : decode cL_law 93 = .ok (.iadd, 1) := by decide +kernel
theorem dL_law_94 : decode cL_law 94 = .ok (.iaload, 1) := by decide +kernel
theorem dL_law_95 : decode cL_law 95 = .ok (.aload_n 0, 1) := by decide +kernel
theorem dL_law_96 : decode cL_law 96 = .ok (.iload_n 3, 1) := by decide +kernel
theorem dL_law_97 : decode cL_law 97 = .ok (.iconst 3, 1) := by decide +kernel
theorem dL_law_98 : decode cL_law 98 = .ok (.iadd, 1) := by decide +kernel
theorem dL_law_99 : decode cL_law 99 = .ok (.iaload, 1) := by decide +kernel
theorem dL_law_100 : decode cL_law 100 = .ok (.aload_n 0, 1) := by decide +kernel
theorem dL_law_101 : decode cL_law 101 = .ok (.iload_n 3, 1) := by decide +kernel
theorem dL_law_102 : decode cL_law 102 = .ok (.iconst 4, 1) := by decide +kernel
theorem dL_law_103 : decode cL_law 103 = .ok (.iadd, 1) := by decide +kernel
theorem dL_law_104 : decode cL_law 104 = .ok (.iaload, 1) := by decide +kernel
theorem dL_law_105 : decode cL_law 105 = .ok (.aload_n 0, 1) := by decide +kernel
theorem dL_law_106 : decode cL_law 106 = .ok (.iload_n 3, 1) := by decide +kernel
theorem dL_law_107 : decode cL_law 107 = .ok (.iconst 5, 1) := by decide +kernel
theorem dL_law_108 : decode cL_law 108 = .ok (.iadd, 1) := by decide +kernel
theorem dL_law_109 : decode cL_law 109 = .ok (.iaload, 1) := by decide +kernel
theorem dL_law_110 : decode cL_law 110 = .ok (.i2l, 1) := by decide +kernel
theorem dL_law_111 : decode cL_law 111 = .ok (.bipush 32, 2) := by decide +kernel
theorem dL_law_113 : decode cL_law 113 = .ok (.lshl, 1) := by decide +kernel
theorem dL_law_114 : decode cL_law 114 = .ok (.aload_n 0, 1) := by decide +kernel
theorem dL_law_115 : decode cL_law 115 = .ok (.iload_n 3, 1) := by decide +kernel
theorem dL_law_116 : decode cL_law 116 = .ok (.bipush 6, 2) := by decide +kernel
theorem dL_law_118 : decode cL_law 118 = .ok (.iadd, 1) := by decide +kernel
theorem dL_law_119 : decode cL_law 119 = .ok (.iaload, 1) := by decide +kernel
theorem dL_law_120 : decode cL_law 120 = .ok (.i2l, 1) := by decide +kernel
theorem dL_law_121 : decode cL_law 121 = .ok (.ldc2_w 13, 3) := by decide +kernel
theorem dL_law_124 : decode cL_law 124 = .ok (.land, 1) := by decide +kernel
theorem dL_law_125 : decode cL_law 125 = .ok (.lor, 1) := by decide +kernel
theorem dL_law_126 : decode cL_law 126 = .ok (.aload_n 0, 1) := by decide +kernel
theorem dL_law_127 : decode cL_law 127 = .ok (.iload_n 3, 1) := by decide +kernel
theorem dL_law_128 : decode cL_law 128 = .ok (.bipush 7, 2) := by decide +kernel
theorem dL_law_130 : decode cL_law 130 = .ok (.iadd, 1) := by decide +kernel
theorem dL_law_131 : decode cL_law 131 = .ok (.iaload, 1) := by decide +kernel
theorem dL_law_132 : decode cL_law 132 = .ok (.i2l, 1) := by decide +kernel
theorem dL_law_133 : decode cL_law 133 = .ok (.bipush 32, 2) := by decide +kernel
theorem dL_law_135 : decode cL_law 135 = .ok (.lshl, 1) := by decide +kernel
theorem dL_law_136 : decode cL_law 136 = .ok (.aload_n 0, 1) := by decide +kernel
theorem dL_law_137 : decode cL_law 137 = .ok (.iload_n 3, 1) := by decide +kernel
theorem dL_law_138 : decode cL_law 138 = .ok (.bipush 8, 2) := by decide +kernel
theorem dL_law_140 : decode cL_law 140 = .ok (.iadd, 1) := by decide +kernel
theorem dL_law_141 : decode cL_law 141 = .ok (.iaload, 1) := by decide +kernel
theorem dL_law_142 : decode cL_law 142 = .ok (.i2l, 1) := by decide +kernel
theorem dL_law_143 : decode cL_law 143 = .ok (.ldc2_w 13, 3) := by decide +kernel
theorem dL_law_146 : decode cL_law 146 = .ok (.land, 1) := by decide +kernel
theorem dL_law_147 : decode cL_law 147 = .ok (.lor, 1) := by decide +kernel
theorem dL_law_148 : decode cL_law 148 = .ok (.invokevirtual 15, 3) := by decide +kernel
theorem dL_law_151 : decode cL_law 151 = .ok (.aload_n 2, 1) := by decide +kernel
theorem dL_law_152 : decode cL_law 152 = .ok (.aload_n 0, 1) := by decide +kernel
theorem dL_law_153 : decode cL_law 153 = .ok (.iload_n 3, 1) := by decide +kernel
theorem dL_law_154 : decode cL_law 154 = .ok (.iconst 1, 1) := by decide +kernel
theorem dL_law_155 : decode cL_law 155 = .ok (.iadd, 1) := by decide +kernel
theorem dL_law_156 : decode cL_law 156 = .ok (.iaload, 1) := by decide +kernel
theorem dL_law_157 : decode cL_law 157 = .ok (.aload_n 0, 1) := by decide +kernel
theorem dL_law_158 : decode cL_law 158 = .ok (.iload_n 3, 1) := by decide +kernel
theorem dL_law_159 : decode cL_law 159 = .ok (.iconst 2, 1) := by decide +kernel
theorem dL_law_160 : decode cL_law 160 = .ok (.iadd, 1) := by decide +kernel
theorem dL_law_161 : decode cL_law 161 = .ok (.iaload, 1) := by decide +kernel
theorem dL_law_162 : decode cL_law 162 = .ok (.aload_n 0, 1) := by decide +kernel
theorem dL_law_163 : decode cL_law 163 = .ok (.iload_n 3, 1) := by decide +kernel
theorem dL_law_164 : decode cL_law 164 = .ok (.iconst 3, 1) := by decide +kernel
theorem dL_law_165 : decode cL_law 165 = .ok (.iadd, 1) := by decide +kernel
theorem dL_law_166 : decode cL_law 166 = .ok (.iaload, 1) := by decide +kernel
theorem dL_law_167 : decode cL_law 167 = .ok (.aload_n 0, 1) := by decide +kernel
theorem dL_law_168 : decode cL_law 168 = .ok (.iload_n 3, 1) := by decide +kernel
theorem dL_law_169 : decode cL_law 169 = .ok (.iconst 4, 1) := by decide +kernel
theorem dL_law_170 : decode cL_law 170 = .ok (.iadd, 1) := by decide +kernel
theorem dL_law_171 : decode cL_law 171 = .ok (.iaload, 1) := by decide +kernel
theorem dL_law_172 : decode cL_law 172 = .ok (.aload_n 0, 1) := by decide +kernel
theorem dL_law_173 : decode cL_law 173 = .ok (.iload_n 3, 1) := by decide +kernel
theorem dL_law_174 : decode cL_law 174 = .ok (.iconst 5, 1) := by decide +kernel
theorem dL_law_175 : decode cL_law 175 = .ok (.iadd, 1) := by decide +kernel
theorem dL_law_176 : decode cL_law 176 = .ok (.iaload, 1) := by decide +kernel
theorem dL_law_177 : decode cL_law 177 = .ok (.i2l, 1) := by decide +kernel
theorem dL_law_178 : decode cL_law 178 = .ok (.bipush 32, 2) := by decide +kernel
theorem dL_law_180 : decode cL_law 180 = .ok (.lshl, 1) := by decide +kernel
theorem dL_law_181 : decode cL_law 181 = .ok (.aload_n 0, 1) := by decide +kernel
theorem dL_law_182 : decode cL_law 182 = .ok (.iload_n 3, 1) := by decide +kernel
theorem dL_law_183 : decode cL_law 183 = .ok (.bipush 6, 2) := by decide +kernel
theorem dL_law_185 : decode cL_law 185 = .ok (.iadd, 1) := by decide +kernel
theorem dL_law_186 : decode cL_law 186 = .ok (.iaload, 1) := by decide +kernel
theorem dL_law_187 : decode cL_law 187 = .ok (.i2l, 1) := by decide +kernel
theorem dL_law_188 : decode cL_law 188 = .ok (.ldc2_w 13, 3) := by decide +kernel
theorem dL_law_191 : decode cL_law 191 = .ok (.land, 1) := by decide +kernel
theorem dL_law_192 : decode cL_law 192 = .ok (.lor, 1) := by decide +kernel
theorem dL_law_193 : decode cL_law 193 = .ok (.aload_n 0, 1) := by decide +kernel
theorem dL_law_194 : decode cL_law 194 = .ok (.iload_n 3, 1) := by decide +kernel
theorem dL_law_195 : decode cL_law 195 = .ok (.bipush 7, 2) := by decide +kernel
theorem dL_law_197 : decode cL_law 197 = .ok (.iadd, 1) := by decide +kernel
theorem dL_law_198 : decode cL_law 198 = .ok (.iaload, 1) := by decide +kernel
theorem dL_law_199 : decode cL_law 199 = .ok (.i2l, 1) := by decide +kernel
theorem dL_law_200 : decode cL_law 200 = .ok (.bipush 32, 2) := by decide +kernel
theorem dL_law_202 : decode cL_law 202 = .ok (.lshl, 1) := by decide +kernel
theorem dL_law_203 : decode cL_law 203 = .ok (.aload_n 0, 1) := by decide +kernel
theorem dL_law_204 : decode cL_law 204 = .ok (.iload_n 3, 1) := by decide +kernel
theorem dL_law_205 : decode cL_law 205 = .ok (.bipush 8, 2) := by decide +kernel
theorem dL_law_207 : decode cL_law 207 = .ok (.iadd, 1) := by decide +kernel
theorem dL_law_208 : decode cL_law 208 = .ok (.iaload, 1) := by decide +kernel
theorem dL_law_209 : decode cL_law 209 = .ok (.i2l, 1) := by decide +kernel
theorem dL_law_210 : decode cL_law 210 = .ok (.ldc2_w 13, 3) := by decide +kernel
theorem dL_law_213 : decode cL_law 213 = .ok (.land, 1) := by decide +kernel
theorem dL_law_214 : decode cL_law 214 = .ok (.lor, 1) := by decide +kernel
theorem dL_law_215 : decode cL_law 215 = .ok (.invokevirtual 19, 3) := by decide +kernel
theorem dL_law_218 : decode cL_law 218 = .ok (.if_icmp .eq 445, 3) := by decide +kernel
theorem dL_law_221 : decode cL_law 221 = .ok (.iconst 0, 1) := by decide +kernel
theorem dL_law_222 : decode cL_law 222 = .ok (.ireturn, 1) := by decide +kernel
theorem dL_law_223 : decode cL_law 223 = .ok (.aload_n 1, 1) := by decide +kernel
theorem dL_law_224 : decode cL_law 224 = .ok (.aload_n 0, 1) := by decide +kernel
theorem dL_law_225 : decode cL_law 225 = .ok (.iload_n 3, 1) := by decide +kernel
theorem dL_law_226 : decode cL_law 226 = .ok (.iconst 1, 1) := by decide +kernel
theorem dL_law_227 : decode cL_law 227 = .ok (.iadd, 1) := by decide +kernel
theorem dL_law_228 : decode cL_law 228 = .ok (.iaload, 1) := by decide +kernel
theorem dL_law_229 : decode cL_law 229 = .ok (.aload_n 0, 1) := by decide +kernel
theorem dL_law_230 : decode cL_law 230 = .ok (.iload_n 3, 1) := by decide +kernel
theorem dL_law_231 : decode cL_law 231 = .ok (.iconst 2, 1) := by decide +kernel
theorem dL_law_232 : decode cL_law 232 = .ok (.iadd, 1) := by decide +kernel
theorem dL_law_233 : decode cL_law 233 = .ok (.iaload, 1) := by decide +kernel
theorem dL_law_234 : decode cL_law 234 = .ok (.ifCond .eq 7, 3) := by decide +kernel
theorem dL_law_237 : decode cL_law 237 = .ok (.iconst 1, 1) := by decide +kernel
theorem dL_law_238 : decode cL_law 238 = .ok (.goto 4, 3) := by decide +kernel
theorem dL_law_241 : decode cL_law 241 = .ok (.iconst 0, 1) := by decide +kernel
theorem dL_law_242 : decode cL_law 242 = .ok (.aload_n 0, 1) := by decide +kernel
theorem dL_law_243 : decode cL_law 243 = .ok (.iload_n 3, 1) := by decide +kernel
theorem dL_law_244 : decode cL_law 244 = .ok (.iconst 3, 1) := by decide +kernel
theorem dL_law_245 : decode cL_law 245 = .ok (.iadd, 1) := by decide +kernel
theorem dL_law_246 : decode cL_law 246 = .ok (.iaload, 1) := by decide +kernel
theorem dL_law_247 : decode cL_law 247 = .ok (.i2l, 1) := by decide +kernel
theorem dL_law_248 : decode cL_law 248 = .ok (.bipush 32, 2) := by decide +kernel
theorem dL_law_250 : decode cL_law 250 = .ok (.lshl, 1) := by decide +kernel
theorem dL_law_251 : decode cL_law 251 = .ok (.aload_n 0, 1) := by decide +kernel
theorem dL_law_252 : decode cL_law 252 = .ok (.iload_n 3, 1) := by decide +kernel
theorem dL_law_253 : decode cL_law 253 = .ok (.iconst 4, 1) := by decide +kernel
theorem dL_law_254 : decode cL_law 254 = .ok (.iadd, 1) := by decide +kernel
theorem dL_law_255 : decode cL_law 255 = .ok (.iaload, 1) := by decide +kernel
theorem dL_law_256 : decode cL_law 256 = .ok (.i2l, 1) := by decide +kernel
theorem dL_law_257 : decode cL_law 257 = .ok (.ldc2_w 13, 3) := by decide +kernel
theorem dL_law_260 : decode cL_law 260 = .ok (.land, 1) := by decide +kernel
theorem dL_law_261 : decode cL_law 261 = .ok (.lor, 1) := by decide +kernel
theorem dL_law_262 : decode cL_law 262 = .ok (.invokevirtual 20, 3) := by decide +kernel
theorem dL_law_265 : decode cL_law 265 = .ok (.aload_n 2, 1) := by decide +kernel
theorem dL_law_266 : decode cL_law 266 = .ok (.aload_n 0, 1) := by decide +kernel
theorem dL_law_267 : decode cL_law 267 = .ok (.iload_n 3, 1) := by decide +kernel
theorem dL_law_268 : decode cL_law 268 = .ok (.iconst 1, 1) := by decide +kernel
theorem dL_law_269 : decode cL_law 269 = .ok (.iadd, 1) := by decide +kernel
theorem dL_law_270 : decode cL_law 270 = .ok (.iaload, 1) := by decide +kernel
theorem dL_law_271 : decode cL_law 271 = .ok (.aload_n 0, 1) := by decide +kernel
theorem dL_law_272 : decode cL_law 272 = .ok (.iload_n 3, 1) := by decide +kernel
theorem dL_law_273 : decode cL_law 273 = .ok (.iconst 2, 1) := by decide +kernel
theorem dL_law_274 : decode cL_law 274 = .ok (.iadd, 1) := by decide +kernel
theorem dL_law_275 : decode cL_law 275 = .ok (.iaload, 1) := by decide +kernel
theorem dL_law_276 : decode cL_law 276 = .ok (.ifCond .eq 7, 3) := by decide +kernel
theorem dL_law_279 : decode cL_law 279 = .ok (.iconst 1, 1) := by decide +kernel
theorem dL_law_280 : decode cL_law 280 = .ok (.goto 4, 3) := by decide +kernel
theorem dL_law_283 : decode cL_law 283 = .ok (.iconst 0, 1) := by decide +kernel
theorem dL_law_284 : decode cL_law 284 = .ok (.aload_n 0, 1) := by decide +kernel
theorem dL_law_285 : decode cL_law 285 = .ok (.iload_n 3, 1) := by decide +kernel
theorem dL_law_286 : decode cL_law 286 = .ok (.iconst 3, 1) := by decide +kernel
theorem dL_law_287 : decode cL_law 287 = .ok (.iadd, 1) := by decide +kernel
theorem dL_law_288 : decode cL_law 288 = .ok (.iaload, 1) := by decide +kernel
theorem dL_law_289 : decode cL_law 289 = .ok (.i2l, 1) := by decide +kernel
theorem dL_law_290 : decode cL_law 290 = .ok (.bipush 32, 2) := by decide +kernel
theorem dL_law_292 : decode cL_law 292 = .ok (.lshl, 1) := by decide +kernel
theorem dL_law_293 : decode cL_law 293 = .ok (.aload_n 0, 1) := by decide +kernel
theorem dL_law_294 : decode cL_law 294 = .ok (.iload_n 3, 1) := by decide +kernel
theorem dL_law_295 : decode cL_law 295 = .ok (.iconst 4, 1) := by decide +kernel
theorem dL_law_296 : decode cL_law 296 = .ok (.iadd, 1) := by decide +kernel
theorem dL_law_297 : decode cL_law 297 = .ok (.iaload, 1) := by decide +kernel
theorem dL_law_298 : decode cL_law 298 = .ok (.i2l, 1) := by decide +kernel
theorem dL_law_299 : decode cL_law 299 = .ok (.ldc2_w 13, 3) := by decide +kernel
theorem dL_law_302 : decode cL_law 302 = .ok (.land, 1) := by decide +kernel
theorem dL_law_303 : decode cL_law 303 = .ok (.lor, 1) := by decide +kernel
theorem dL_law_304 : decode cL_law 304 = .ok (.invokevirtual 24, 3) := by decide +kernel
theorem dL_law_307 : decode cL_law 307 = .ok (.if_icmp .eq 356, 3) := by decide +kernel
theorem dL_law_310 : decode cL_law 310 = .ok (.iconst 0, 1) := by decide +kernel
theorem dL_law_311 : decode cL_law 311 = .ok (.ireturn, 1) := by decide +kernel
theorem dL_law_312 : decode cL_law 312 = .ok (.aload_n 1, 1) := by decide +kernel
theorem dL_law_313 : decode cL_law 313 = .ok (.aload_n 0, 1) := by decide +kernel
theorem dL_law_314 : decode cL_law 314 = .ok (.iload_n 3, 1) := by decide +kernel
theorem dL_law_315 : decode cL_law 315 = .ok (.iconst 1, 1) := by decide +kernel
theorem dL_law_316 : decode cL_law 316 = .ok (.iadd, 1) := by decide +kernel
theorem dL_law_317 : decode cL_law 317 = .ok (.iaload, 1) := by decide +kernel
theorem dL_law_318 : decode cL_law 318 = .ok (.aload_n 0, 1) := by decide +kernel
theorem dL_law_319 : decode cL_law 319 = .ok (.iload_n 3, 1) := by decide +kernel
theorem dL_law_320 : decode cL_law 320 = .ok (.iconst 2, 1) := by decide +kernel
theorem dL_law_321 : decode cL_law 321 = .ok (.iadd, 1) := by decide +kernel
theorem dL_law_322 : decode cL_law 322 = .ok (.iaload, 1) := by decide +kernel
theorem dL_law_323 : decode cL_law 323 = .ok (.i2l, 1) := by decide +kernel
theorem dL_law_324 : decode cL_law 324 = .ok (.bipush 32, 2) := by decide +kernel
theorem dL_law_326 : decode cL_law 326 = .ok (.lshl, 1) := by decide +kernel
theorem dL_law_327 : decode cL_law 327 = .ok (.aload_n 0, 1) := by decide +kernel
theorem dL_law_328 : decode cL_law 328 = .ok (.iload_n 3, 1) := by decide +kernel
theorem dL_law_329 : decode cL_law 329 = .ok (.iconst 3, 1) := by decide +kernel
theorem dL_law_330 : decode cL_law 330 = .ok (.iadd, 1) := by decide +kernel
theorem dL_law_331 : decode cL_law 331 = .ok (.iaload, 1) := by decide +kernel
theorem dL_law_332 : decode cL_law 332 = .ok (.i2l, 1) := by decide +kernel
theorem dL_law_333 : decode cL_law 333 = .ok (.ldc2_w 13, 3) := by decide +kernel
theorem dL_law_336 : decode cL_law 336 = .ok (.land, 1) := by decide +kernel
theorem dL_law_337 : decode cL_law 337 = .ok (.lor, 1) := by decide +kernel
theorem dL_law_338 : decode cL_law 338 = .ok (.invokevirtual 25, 3) := by decide +kernel
theorem dL_law_341 : decode cL_law 341 = .ok (.aload_n 2, 1) := by decide +kernel
theorem dL_law_342 : decode cL_law 342 = .ok (.aload_n 0, 1) := by decide +kernel
theorem dL_law_343 : decode cL_law 343 = .ok (.iload_n 3, 1) := by decide +kernel
theorem dL_law_344 : decode cL_law 344 = .ok (.iconst 1, 1) := by decide +kernel
theorem dL_law_345 : decode cL_law 345 = .ok (.iadd, 1) := by decide +kernel
theorem dL_law_346 : decode cL_law 346 = .ok (.iaload, 1) := by decide +kernel
theorem dL_law_347 : decode cL_law 347 = .ok (.aload_n 0, 1) := by decide +kernel
theorem dL_law_348 : decode cL_law 348 = .ok (.iload_n 3, 1) := by decide +kernel
theorem dL_law_349 : decode cL_law 349 = .ok (.iconst 2, 1) := by decide +kernel
theorem dL_law_350 : decode cL_law 350 = .ok (.iadd, 1) := by decide +kernel
theorem dL_law_351 : decode cL_law 351 = .ok (.iaload, 1) := by decide +kernel
theorem dL_law_352 : decode cL_law 352 = .ok (.i2l, 1) := by decide +kernel
theorem dL_law_353 : decode cL_law 353 = .ok (.bipush 32, 2) := by decide +kernel
theorem dL_law_355 : decode cL_law 355 = .ok (.lshl, 1) := by decide +kernel
theorem dL_law_356 : decode cL_law 356 = .ok (.aload_n 0, 1) := by decide +kernel
theorem dL_law_357 : decode cL_law 357 = .ok (.iload_n 3, 1) := by decide +kernel
theorem dL_law_358 : decode cL_law 358 = .ok (.iconst 3, 1) := by decide +kernel
theorem dL_law_359 : decode cL_law 359 = .ok (.iadd, 1) := by decide +kernel
theorem dL_law_360 : decode cL_law 360 = .ok (.iaload, 1) := by decide +kernel
theorem dL_law_361 : decode cL_law 361 = .ok (.i2l, 1) := by decide +kernel
theorem dL_law_362 : decode cL_law 362 = .ok (.ldc2_w 13, 3) := by decide +kernel
theorem dL_law_365 : decode cL_law 365 = .ok (.land, 1) := by decide +kernel
theorem dL_law_366 : decode cL_law 366 = .ok (.lor, 1) := by decide +kernel
theorem dL_law_367 : decode cL_law 367 = .ok (.invokevirtual 29, 3) := by decide +kernel
theorem dL_law_370 : decode cL_law 370 = .ok (.if_icmp .eq 293, 3) := by decide +kernel
theorem dL_law_373 : decode cL_law 373 = .ok (.iconst 0, 1) := by decide +kernel
theorem dL_law_374 : decode cL_law 374 = .ok (.ireturn, 1) := by decide +kernel
theorem dL_law_375 : decode cL_law 375 = .ok (.aload_n 1, 1) := by decide +kernel
theorem dL_law_376 : decode cL_law 376 = .ok (.aload_n 0, 1) := by decide +kernel
theorem dL_law_377 : decode cL_law 377 = .ok (.iload_n 3, 1) := by decide +kernel
theorem dL_law_378 : decode cL_law 378 = .ok (.iconst 1, 1) := by decide +kernel
theorem dL_law_379 : decode cL_law 379 = .ok (.iadd, 1) := by decide +kernel
theorem dL_law_380 : decode cL_law 380 = .ok (.iaload, 1) := by decide +kernel
theorem dL_law_381 : decode cL_law 381 = .ok (.aload_n 0, 1) := by decide +kernel
theorem dL_law_382 : decode cL_law 382 = .ok (.iload_n 3, 1) := by decide +kernel
theorem dL_law_383 : decode cL_law 383 = .ok (.iconst 2, 1) := by decide +kernel
theorem dL_law_384 : decode cL_law 384 = .ok (.iadd, 1) := by decide +kernel
theorem dL_law_385 : decode cL_law 385 = .ok (.iaload, 1) := by decide +kernel
theorem dL_law_386 : decode cL_law 386 = .ok (.aload_n 0, 1) := by decide +kernel
theorem dL_law_387 : decode cL_law 387 = .ok (.iload_n 3, 1) := by decide +kernel
theorem dL_law_388 : decode cL_law 388 = .ok (.iconst 3, 1) := by decide +kernel
theorem dL_law_389 : decode cL_law 389 = .ok (.iadd, 1) := by decide +kernel
theorem dL_law_390 : decode cL_law 390 = .ok (.iaload, 1) := by decide +kernel
theorem dL_law_391 : decode cL_law 391 = .ok (.aload_n 0, 1) := by decide +kernel
theorem dL_law_392 : decode cL_law 392 = .ok (.iload_n 3, 1) := by decide +kernel
theorem dL_law_393 : decode cL_law 393 = .ok (.iconst 4, 1) := by decide +kernel
theorem dL_law_394 : decode cL_law 394 = .ok (.iadd, 1) := by decide +kernel
theorem dL_law_395 : decode cL_law 395 = .ok (.iaload, 1) := by decide +kernel
theorem dL_law_396 : decode cL_law 396 = .ok (.i2l, 1) := by decide +kernel
theorem dL_law_397 : decode cL_law 397 = .ok (.bipush 32, 2) := by decide +kernel
theorem dL_law_399 : decode cL_law 399 = .ok (.lshl, 1) := by decide +kernel
theorem dL_law_400 : decode cL_law 400 = .ok (.aload_n 0, 1) := by decide +kernel
theorem dL_law_401 : decode cL_law 401 = .ok (.iload_n 3, 1) := by decide +kernel
theorem dL_law_402 : decode cL_law 402 = .ok (.iconst 5, 1) := by decide +kernel
theorem dL_law_403 : decode cL_law 403 = .ok (.iadd, 1) := by decide +kernel
theorem dL_law_404 : decode cL_law 404 = .ok (.iaload, 1) := by decide +kernel
theorem dL_law_405 : decode cL_law 405 = .ok (.i2l, 1) := by decide +kernel
theorem dL_law_406 : decode cL_law 406 = .ok (.ldc2_w 13, 3) := by decide +kernel
theorem dL_law_409 : decode cL_law 409 = .ok (.land, 1) := by decide +kernel
theorem dL_law_410 : decode cL_law 410 = .ok (.lor, 1) := by decide +kernel
theorem dL_law_411 : decode cL_law 411 = .ok (.invokevirtual 30, 3) := by decide +kernel
theorem dL_law_414 : decode cL_law 414 = .ok (.aload_n 2, 1) := by decide +kernel
theorem dL_law_415 : decode cL_law 415 = .ok (.aload_n 0, 1) := by decide +kernel
theorem dL_law_416 : decode cL_law 416 = .ok (.iload_n 3, 1) := by decide +kernel
theorem dL_law_417 : decode cL_law 417 = .ok (.iconst 1, 1) := by decide +kernel
theorem dL_law_418 : decode cL_law 418 = .ok (.iadd, 1) := by decide +kernel
theorem dL_law_419 : decode cL_law 419 = .ok (.iaload, 1) := by decide +kernel
theorem dL_law_420 : decode cL_law 420 = .ok (.aload_n 0, 1) := by decide +kernel
theorem dL_law_421 : decode cL_law 421 = .ok (.iload_n 3, 1) := by decide +kernel
theorem dL_law_422 : decode cL_law 422 = .ok (.iconst 2, 1) := by decide +kernel
theorem dL_law_423 : decode cL_law 423 = .ok (.iadd, 1) := by decide +kernel
theorem dL_law_424 : decode cL_law 424 = .ok (.iaload, 1) := by decide +kernel
theorem dL_law_425 : decode cL_law 425 = .ok (.aload_n 0, 1) := by decide +kernel
theorem dL_law_426 : decode cL_law 426 = .ok (.iload_n 3, 1) := by decide +kernel
theorem dL_law_427 : decode cL_law 427 = .ok (.iconst 3, 1) := by decide +kernel
theorem dL_law_428 : decode cL_law 428 = .ok (.iadd, 1) := by decide +kernel
theorem dL_law_429 : decode cL_law 429 = .ok (.iaload, 1) := by decide +kernel
theorem dL_law_430 : decode cL_law 430 = .ok (.aload_n 0, 1) := by decide +kernel
theorem dL_law_431 : decode cL_law 431 = .ok (.iload_n 3, 1) := by decide +kernel
theorem dL_law_432 : decode cL_law 432 = .ok (.iconst 4, 1) := by decide +kernel
theorem dL_law_433 : decode cL_law 433 = .ok (.iadd, 1) := by decide +kernel
theorem dL_law_434 : decode cL_law 434 = .ok (.iaload, 1) := by decide +kernel
theorem dL_law_435 : decode cL_law 435 = .ok (.i2l, 1) := by decide +kernel
theorem dL_law_436 : decode cL_law 436 = .ok (.bipush 32, 2) := by decide +kernel
theorem dL_law_438 : decode cL_law 438 = .ok (.lshl, 1) := by decide +kernel
theorem dL_law_439 : decode cL_law 439 = .ok (.aload_n 0, 1) := by decide +kernel
theorem dL_law_440 : decode cL_law 440 = .ok (.iload_n 3, 1) := by decide +kernel
theorem dL_law_441 : decode cL_law 441 = .ok (.iconst 5, 1) := by decide +kernel
theorem dL_law_442 : decode cL_law 442 = .ok (.iadd, 1) := by decide +kernel
theorem dL_law_443 : decode cL_law 443 = .ok (.iaload, 1) := by decide +kernel
theorem dL_law_444 : decode cL_law 444 = .ok (.i2l, 1) := by decide +kernel
theorem dL_law_445 : decode cL_law 445 = .ok (.ldc2_w 13, 3) := by decide +kernel
theorem dL_law_448 : decode cL_law 448 = .ok (.land, 1) := by decide +kernel
theorem dL_law_449 : decode cL_law 449 = .ok (.lor, 1) := by decide +kernel
theorem dL_law_450 : decode cL_law 450 = .ok (.invokevirtual 34, 3) := by decide +kernel
theorem dL_law_453 : decode cL_law 453 = .ok (.if_icmp .eq 210, 3) := by decide +kernel
theorem dL_law_456 : decode cL_law 456 = .ok (.iconst 0, 1) := by decide +kernel
theorem dL_law_457 : decode cL_law 457 = .ok (.ireturn, 1) := by decide +kernel
theorem dL_law_458 : decode cL_law 458 = .ok (.aload_n 1, 1) := by decide +kernel
theorem dL_law_459 : decode cL_law 459 = .ok (.aload_n 0, 1) := by decide +kernel
theorem dL_law_460 : decode cL_law 460 = .ok (.iload_n 3, 1) := by decide +kernel
theorem dL_law_461 : decode cL_law 461 = .ok (.iconst 1, 1) := by decide +kernel
theorem dL_law_462 : decode cL_law 462 = .ok (.iadd, 1) := by decide +kernel
theorem dL_law_463 : decode cL_law 463 = .ok (.iaload, 1) := by decide +kernel
theorem dL_law_464 : decode cL_law 464 = .ok (.invokevirtual 35, 3) := by decide +kernel
theorem dL_law_467 : decode cL_law 467 = .ok (.aload_n 2, 1) := by decide +kernel
theorem dL_law_468 : decode cL_law 468 = .ok (.aload_n 0, 1) := by decide +kernel
theorem dL_law_469 : decode cL_law 469 = .ok (.iload_n 3, 1) := by decide +kernel
theorem dL_law_470 : decode cL_law 470 = .ok (.iconst 1, 1) := by decide +kernel
theorem dL_law_471 : decode cL_law 471 = .ok (.iadd, 1) := by decide +kernel
theorem dL_law_472 : decode cL_law 472 = .ok (.iaload, 1) := by decide +kernel
theorem dL_law_473 : decode cL_law 473 = .ok (.invokevirtual 39, 3) := by decide +kernel
theorem dL_law_476 : decode cL_law 476 = .ok (.if_icmp .eq 187, 3) := by decide +kernel
theorem dL_law_479 : decode cL_law 479 = .ok (.iconst 0, 1) := by decide +kernel
theorem dL_law_480 : decode cL_law 480 = .ok (.ireturn, 1) := by decide +kernel
theorem dL_law_481 : decode cL_law 481 = .ok (.aload_n 1, 1) := by decide +kernel
theorem dL_law_482 : decode cL_law 482 = .ok (.aload_n 0, 1) := by decide +kernel
theorem dL_law_483 : decode cL_law 483 = .ok (.iload_n 3, 1) := by decide +kernel
theorem dL_law_484 : decode cL_law 484 = .ok (.iconst 1, 1) := by decide +kernel
theorem dL_law_485 : decode cL_law 485 = .ok (.iadd, 1) := by decide +kernel
theorem dL_law_486 : decode cL_law 486 = .ok (.iaload, 1) := by decide +kernel
theorem dL_law_487 : decode cL_law 487 = .ok (.aload_n 0, 1) := by decide +kernel
theorem dL_law_488 : decode cL_law 488 = .ok (.iload_n 3, 1) := by decide +kernel
theorem dL_law_489 : decode cL_law 489 = .ok (.iconst 2, 1) := by decide +kernel
theorem dL_law_490 : decode cL_law 490 = .ok (.iadd, 1) := by decide +kernel
theorem dL_law_491 : decode cL_law 491 = .ok (.iaload, 1) := by decide +kernel
theorem dL_law_492 : decode cL_law 492 = .ok (.invokevirtual 40, 3) := by decide +kernel
theorem dL_law_495 : decode cL_law 495 = .ok (.aload_n 2, 1) := by decide +kernel
theorem dL_law_496 : decode cL_law 496 = .ok (.aload_n 0, 1) := by decide +kernel
theorem dL_law_497 : decode cL_law 497 = .ok (.iload_n 3, 1) := by decide +kernel
theorem dL_law_498 : decode cL_law 498 = .ok (.iconst 1, 1) := by decide +kernel
theorem dL_law_499 : decode cL_law 499 = .ok (.iadd, 1) := by decide +kernel
theorem dL_law_500 : decode cL_law 500 = .ok (.iaload, 1) := by decide +kernel
theorem dL_law_501 : decode cL_law 501 = .ok (.aload_n 0, 1) := by decide +kernel
theorem dL_law_502 : decode cL_law 502 = .ok (.iload_n 3, 1) := by decide +kernel
theorem dL_law_503 : decode cL_law 503 = .ok (.iconst 2, 1) := by decide +kernel
theorem dL_law_504 : decode cL_law 504 = .ok (.iadd, 1) := by decide +kernel
theorem dL_law_505 : decode cL_law 505 = .ok (.iaload, 1) := by decide +kernel
theorem dL_law_506 : decode cL_law 506 = .ok (.invokevirtual 44, 3) := by decide +kernel
theorem dL_law_509 : decode cL_law 509 = .ok (.if_icmp .eq 154, 3) := by decide +kernel
theorem dL_law_512 : decode cL_law 512 = .ok (.iconst 0, 1) := by decide +kernel
theorem dL_law_513 : decode cL_law 513 = .ok (.ireturn, 1) := by decide +kernel
theorem dL_law_514 : decode cL_law 514 = .ok (.aload_n 1, 1) := by decide +kernel
theorem dL_law_515 : decode cL_law 515 = .ok (.aload_n 0, 1) := by decide +kernel
theorem dL_law_516 : decode cL_law 516 = .ok (.iload_n 3, 1) := by decide +kernel
theorem dL_law_517 : decode cL_law 517 = .ok (.iconst 1, 1) := by decide +kernel
theorem dL_law_518 : decode cL_law 518 = .ok (.iadd, 1) := by decide +kernel
theorem dL_law_519 : decode cL_law 519 = .ok (.iaload, 1) := by decide +kernel
theorem dL_law_520 : decode cL_law 520 = .ok (.i2l, 1) := by decide +kernel
theorem dL_law_521 : decode cL_law 521 = .ok (.bipush 32, 2) := by decide +kernel
theorem dL_law_523 : decode cL_law 523 = .ok (.lshl, 1) := by decide +kernel
theorem dL_law_524 : decode cL_law 524 = .ok (.aload_n 0, 1) := by decide +kernel
theorem dL_law_525 : decode cL_law 525 = .ok (.iload_n 3, 1) := by decide +kernel
theorem dL_law_526 : decode cL_law 526 = .ok (.iconst 2, 1) := by decide +kernel
theorem dL_law_527 : decode cL_law 527 = .ok (.iadd, 1) := by decide +kernel
theorem dL_law_528 : decode cL_law 528 = .ok (.iaload, 1) := by decide +kernel
theorem dL_law_529 : decode cL_law 529 = .ok (.i2l, 1) := by decide +kernel
theorem dL_law_530 : decode cL_law 530 = .ok (.ldc2_w 13, 3) := by decide +kernel
theorem dL_law_533 : decode cL_law 533 = .ok (.land, 1) := by decide +kernel
theorem dL_law_534 : decode cL_law 534 = .ok (.lor, 1) := by decide +kernel
theorem dL_law_535 : decode cL_law 535 = .ok (.invokevirtual 45, 3) := by decide +kernel
theorem dL_law_538 : decode cL_law 538 = .ok (.aload_n 2, 1) := by decide +kernel
theorem dL_law_539 : decode cL_law 539 = .ok (.aload_n 0, 1) := by decide +kernel
theorem dL_law_540 : decode cL_law 540 = .ok (.iload_n 3, 1) := by decide +kernel
theorem dL_law_541 : decode cL_law 541 = .ok (.iconst 1, 1) := by decide +kernel
theorem dL_law_542 : decode cL_law 542 = .ok (.iadd, 1) := by decide +kernel
theorem dL_law_543 : decode cL_law 543 = .ok (.iaload, 1) := by decide +kernel
theorem dL_law_544 : decode cL_law 544 = .ok (.i2l, 1) := by decide +kernel
theorem dL_law_545 : decode cL_law 545 = .ok (.bipush 32, 2) := by decide +kernel
theorem dL_law_547 : decode cL_law 547 = .ok (.lshl, 1) := by decide +kernel
theorem dL_law_548 : decode cL_law 548 = .ok (.aload_n 0, 1) := by decide +kernel
theorem dL_law_549 : decode cL_law 549 = .ok (.iload_n 3, 1) := by decide +kernel
theorem dL_law_550 : decode cL_law 550 = .ok (.iconst 2, 1) := by decide +kernel
theorem dL_law_551 : decode cL_law 551 = .ok (.iadd, 1) := by decide +kernel
theorem dL_law_552 : decode cL_law 552 = .ok (.iaload, 1) := by decide +kernel
theorem dL_law_553 : decode cL_law 553 = .ok (.i2l, 1) := by decide +kernel
theorem dL_law_554 : decode cL_law 554 = .ok (.ldc2_w 13, 3) := by decide +kernel
theorem dL_law_557 : decode cL_law 557 = .ok (.land, 1) := by decide +kernel
theorem dL_law_558 : decode cL_law 558 = .ok (.lor, 1) := by decide +kernel
theorem dL_law_559 : decode cL_law 559 = .ok (.invokevirtual 49, 3) := by decide +kernel
theorem dL_law_562 : decode cL_law 562 = .ok (.if_icmp .eq 101, 3) := by decide +kernel
theorem dL_law_565 : decode cL_law 565 = .ok (.iconst 0, 1) := by decide +kernel
theorem dL_law_566 : decode cL_law 566 = .ok (.ireturn, 1) := by decide +kernel
theorem dL_law_567 : decode cL_law 567 = .ok (.aload_n 1, 1) := by decide +kernel
theorem dL_law_568 : decode cL_law 568 = .ok (.aload_n 0, 1) := by decide +kernel
theorem dL_law_569 : decode cL_law 569 = .ok (.iload_n 3, 1) := by decide +kernel
theorem dL_law_570 : decode cL_law 570 = .ok (.iconst 1, 1) := by decide +kernel
theorem dL_law_571 : decode cL_law 571 = .ok (.iadd, 1) := by decide +kernel
theorem dL_law_572 : decode cL_law 572 = .ok (.iaload, 1) := by decide +kernel
theorem dL_law_573 : decode cL_law 573 = .ok (.aload_n 0, 1) := by decide +kernel
theorem dL_law_574 : decode cL_law 574 = .ok (.iload_n 3, 1) := by decide +kernel
theorem dL_law_575 : decode cL_law 575 = .ok (.iconst 2, 1) := by decide +kernel
theorem dL_law_576 : decode cL_law 576 = .ok (.iadd, 1) := by decide +kernel
theorem dL_law_577 : decode cL_law 577 = .ok (.iaload, 1) := by decide +kernel
theorem dL_law_578 : decode cL_law 578 = .ok (.i2l, 1) := by decide +kernel
theorem dL_law_579 : decode cL_law 579 = .ok (.bipush 32, 2) := by decide +kernel
theorem dL_law_581 : decode cL_law 581 = .ok (.lshl, 1) := by decide +kernel
theorem dL_law_582 : decode cL_law 582 = .ok (.aload_n 0, 1) := by decide +kernel
theorem dL_law_583 : decode cL_law 583 = .ok (.iload_n 3, 1) := by decide +kernel
theorem dL_law_584 : decode cL_law 584 = .ok (.iconst 3, 1) := by decide +kernel
theorem dL_law_585 : decode cL_law 585 = .ok (.iadd, 1) := by decide +kernel
theorem dL_law_586 : decode cL_law 586 = .ok (.iaload, 1) := by decide +kernel
theorem dL_law_587 : decode cL_law 587 = .ok (.i2l, 1) := by decide +kernel
theorem dL_law_588 : decode cL_law 588 = .ok (.ldc2_w 13, 3) := by decide +kernel
theorem dL_law_591 : decode cL_law 591 = .ok (.land, 1) := by decide +kernel
theorem dL_law_592 : decode cL_law 592 = .ok (.lor, 1) := by decide +kernel
theorem dL_law_593 : decode cL_law 593 = .ok (.invokevirtual 50, 3) := by decide +kernel
theorem dL_law_596 : decode cL_law 596 = .ok (.aload_n 2, 1) := by decide +kernel
theorem dL_law_597 : decode cL_law 597 = .ok (.aload_n 0, 1) := by decide +kernel
theorem dL_law_598 : decode cL_law 598 = .ok (.iload_n 3, 1) := by decide +kernel
theorem dL_law_599 : decode cL_law 599 = .ok (.iconst 1, 1) := by decide +kernel
theorem dL_law_600 : decode cL_law 600 = .ok (.iadd, 1) := by decide +kernel
theorem dL_law_601 : decode cL_law 601 = .ok (.iaload, 1) := by decide +kernel
theorem dL_law_602 : decode cL_law 602 = .ok (.aload_n 0, 1) := by decide +kernel
theorem dL_law_603 : decode cL_law 603 = .ok (.iload_n 3, 1) := by decide +kernel
theorem dL_law_604 : decode cL_law 604 = .ok (.iconst 2, 1) := by decide +kernel
theorem dL_law_605 : decode cL_law 605 = .ok (.iadd, 1) := by decide +kernel
theorem dL_law_606 : decode cL_law 606 = .ok (.iaload, 1) := by decide +kernel
theorem dL_law_607 : decode cL_law 607 = .ok (.i2l, 1) := by decide +kernel
theorem dL_law_608 : decode cL_law 608 = .ok (.bipush 32, 2) := by decide +kernel
theorem dL_law_610 : decode cL_law 610 = .ok (.lshl, 1) := by decide +kernel
theorem dL_law_611 : decode cL_law 611 = .ok (.aload_n 0, 1) := by decide +kernel
theorem dL_law_612 : decode cL_law 612 = .ok (.iload_n 3, 1) := by decide +kernel
theorem dL_law_613 : decode cL_law 613 = .ok (.iconst 3, 1) := by decide +kernel
theorem dL_law_614 : decode cL_law 614 = .ok (.iadd, 1) := by decide +kernel
theorem dL_law_615 : decode cL_law 615 = .ok (.iaload, 1) := by decide +kernel
theorem dL_law_616 : decode cL_law 616 = .ok (.i2l, 1) := by decide +kernel
theorem dL_law_617 : decode cL_law 617 = .ok (.ldc2_w 13, 3) := by decide +kernel
theorem dL_law_620 : decode cL_law 620 = .ok (.land, 1) := by decide +kernel
theorem dL_law_621 : decode cL_law 621 = .ok (.lor, 1) := by decide +kernel
theorem dL_law_622 : decode cL_law 622 = .ok (.invokevirtual 53, 3) := by decide +kernel
theorem dL_law_625 : decode cL_law 625 = .ok (.if_icmp .eq 38, 3) := by decide +kernel
theorem dL_law_628 : decode cL_law 628 = .ok (.iconst 0, 1) := by decide +kernel
theorem dL_law_629 : decode cL_law 629 = .ok (.ireturn, 1) := by decide +kernel
theorem dL_law_630 : decode cL_law 630 = .ok (.aload_n 1, 1) := by decide +kernel
theorem dL_law_631 : decode cL_law 631 = .ok (.aload_n 0, 1) := by decide +kernel
theorem dL_law_632 : decode cL_law 632 = .ok (.iload_n 3, 1) := by decide +kernel
theorem dL_law_633 : decode cL_law 633 = .ok (.iconst 1, 1) := by decide +kernel
theorem dL_law_634 : decode cL_law 634 = .ok (.iadd, 1) := by decide +kernel
theorem dL_law_635 : decode cL_law 635 = .ok (.iaload, 1) := by decide +kernel
theorem dL_law_636 : decode cL_law 636 = .ok (.aload_n 0, 1) := by decide +kernel
theorem dL_law_637 : decode cL_law 637 = .ok (.iload_n 3, 1) := by decide +kernel
theorem dL_law_638 : decode cL_law 638 = .ok (.iconst 2, 1) := by decide +kernel
theorem dL_law_639 : decode cL_law 639 = .ok (.iadd, 1) := by decide +kernel
theorem dL_law_640 : decode cL_law 640 = .ok (.iaload, 1) := by decide +kernel
theorem dL_law_641 : decode cL_law 641 = .ok (.invokevirtual 54, 3) := by decide +kernel
theorem dL_law_644 : decode cL_law 644 = .ok (.aload_n 2, 1) := by decide +kernel
theorem dL_law_645 : decode cL_law 645 = .ok (.aload_n 0, 1) := by decide +kernel
theorem dL_law_646 : decode cL_law 646 = .ok (.iload_n 3, 1) := by decide +kernel
theorem dL_law_647 : decode cL_law 647 = .ok (.iconst 1, 1) := by decide +kernel
theorem dL_law_648 : decode cL_law 648 = .ok (.iadd, 1) := by decide +kernel
theorem dL_law_649 : decode cL_law 649 = .ok (.iaload, 1) := by decide +kernel
theorem dL_law_650 : decode cL_law 650 = .ok (.aload_n 0, 1) := by decide +kernel
theorem dL_law_651 : decode cL_law 651 = .ok (.iload_n 3, 1) := by decide +kernel
theorem dL_law_652 : decode cL_law 652 = .ok (.iconst 2, 1) := by decide +kernel
theorem dL_law_653 : decode cL_law 653 = .ok (.iadd, 1) := by decide +kernel
theorem dL_law_654 : decode cL_law 654 = .ok (.iaload, 1) := by decide +kernel
theorem dL_law_655 : decode cL_law 655 = .ok (.invokevirtual 57, 3) := by decide +kernel
theorem dL_law_658 : decode cL_law 658 = .ok (.if_icmp .eq 5, 3) := by decide +kernel
theorem dL_law_661 : decode cL_law 661 = .ok (.iconst 0, 1) := by decide +kernel
theorem dL_law_662 : decode cL_law 662 = .ok (.ireturn, 1) := by decide +kernel
theorem dL_law_663 : decode cL_law 663 = .ok (.iinc 3 9, 3) := by decide +kernel
theorem dL_law_666 : decode cL_law 666 = .ok (.goto (-648), 3) := by decide +kernel
theorem dL_law_669 : decode cL_law 669 = .ok (.iconst 1, 1) := by decide +kernel
theorem dL_law_670 : decode cL_law 670 = .ok (.ireturn, 1) := by decide +kernel
abbrev vwCl : List vw_C := [(RJx4a65c, TJx4a65c, 3), (RX0, TX0, 9), (RX1, TX1, 6), (RX2, TX2, 17)]
end
section
/-! plain facts on numbers and arrays, to paste: each family by itself; over the kit's rows on nI and upd -/
/-! ===== order of ints, in all its forms, and through longs ===== -/
theorem fa_lt (a b : Int32) : a < b ↔ a.toInt < b.toInt := Int32.lt_iff_toInt_lt
theorem fa_le (a b : Int32) : a ≤ b ↔ a.toInt ≤ b.toInt := Int32.le_iff_toInt_le
theorem fa_eq (a b : Int32) : a = b ↔ a.toInt = b.toInt := Int32.toInt_inj.symm
theorem fa_lt64 (a b : Int64) : a < b ↔ a.toInt < b.toInt := Int64.lt_iff_toInt_lt
theorem fa_le64 (a b : Int64) : a ≤ b ↔ a.toInt ≤ b.toInt := Int64.le_iff_toInt_le
theorem fa_eq64 (a b : Int64) : a = b ↔ a.toInt = b.toInt := Int64.toInt_inj.symm
/-- a comparison of two ints taken as longs -/
theorem fa_wide_lt (a b : Int32) : a.toInt64 < b.toInt64 ↔ a < b := by rw [fa_lt64, fa_lt, Int32.toInt_toInt64, Int32.toInt_toInt64]
theorem fa_wide_le (a b : Int32) : a.toInt64 ≤ b.toInt64 ↔ a ≤ b := by rw [fa_le64, fa_le, Int32.toInt_toInt64, Int32.toInt_toInt64]
theorem fa_wide_eq (a b : Int32) : a.toInt64 = b.toInt64 ↔ a = b := by rw [fa_eq64, fa_eq, Int32.toInt_toInt64, Int32.toInt_toInt64]
/-- one strict comparison gives all the others -/
theorem fa_of_lt {a b : Int32} (h : a < b) : a ≤ b ∧ ¬ b ≤ a ∧ ¬ b < a ∧ a ≠ b ∧ b ≠ a := by
  rw [fa_lt] at h
  refine ⟨?_, ?_, ?_, ?_, ?_⟩
  · rw [fa_le]; omega
  · rw [fa_le]; omega
  · rw [fa_lt]; omega
  · intro e; rw [fa_eq] at e; omega
  · intro e; rw [fa_eq] at e; omega
theorem fa_of_nlt {a b : Int32} (h : ¬ a < b) : b ≤ a := by
  rw [fa_lt] at h
  rw [fa_le]
  omega
theorem fa_of_nle {a b : Int32} (h : ¬ a ≤ b) : b < a := by
  rw [fa_le] at h
  rw [fa_lt]
  omega
theorem fa_le_ne {a b : Int32} (h : a ≤ b) (h2 : a ≠ b) : a < b := by
  rw [fa_le] at h
  rw [fa_lt]
  have h3 : a.toInt ≠ b.toInt := fun e => h2 ((fa_eq a b).mpr e)
  omega
theorem fa_three (a b : Int32) : a < b ∨ a = b ∨ b < a := by
  rw [fa_lt, fa_lt, fa_eq]
  omega
theorem fa_trans {a b c : Int32} (h : a < b) (h2 : b ≤ c) : a < c := by
  rw [fa_lt] at *
  rw [fa_le] at h2
  omega
/-! ===== small literals as numbers ===== -/
theorem fa_lit (n : Nat) : (OfNat.ofNat n : Int32) = nI n := rfl
theorem fa_litL (n : Nat) : (OfNat.ofNat n : Int64) = lN n := rfl
/-! ===== bits of a number: 'or', masks, one bit ===== -/
theorem fa_and (a b : Nat) : nI a &&& nI b = nI (a &&& b) := by
  apply Int32.toBitVec_inj.1
  show BitVec.ofNat 32 a &&& BitVec.ofNat 32 b = BitVec.ofNat 32 (a &&& b)
  apply BitVec.eq_of_getLsbD_eq
  intro i hi
  simp [hi]
theorem fa_or (a b : Nat) : nI a ||| nI b = nI (a ||| b) := by
  apply Int32.toBitVec_inj.1
  show BitVec.ofNat 32 a ||| BitVec.ofNat 32 b = BitVec.ofNat 32 (a ||| b)
  apply BitVec.eq_of_getLsbD_eq
  intro i hi
  simp [hi]
/-- a remainder by a power of two, as a mask -/
theorem fa_mask (n k : Nat) : nI n &&& nI (2 ^ k - 1) = nI (n % 2 ^ k) := by rw [fa_and, Nat.and_two_pow_sub_one_eq_mod]
/-- 'or' of a high part and a low one that don't meet is their sum -/
theorem fa_or_sum {a k : Nat} (b : Nat) (h : a < 2 ^ k) : nI (2 ^ k * b) ||| nI a = nI (2 ^ k * b + a) := by rw [fa_or, Nat.two_pow_add_eq_or_of_lt h]
/-- one bit, by 'and' with a power of two -/
theorem fa_bit {n j : Nat} (hj : j < 31) : nI n &&& nI (2 ^ j) = 0 ↔ n.testBit j = false := by
  have h2 : (2 : Nat) ^ j < 2 ^ 31 := Nat.pow_lt_pow_right (by decide) hj
  have hle : n &&& 2 ^ j ≤ 2 ^ j := Nat.and_le_right
  have e : n &&& 2 ^ j = 0 ↔ n.testBit j = false := by
    constructor
    · intro h
      have h1 : (n &&& 2 ^ j).testBit j = false := by rw [h]; simp
      rw [Nat.testBit_and] at h1
      first | simpa using h1 | simpa [Nat.testBit_two_pow_self] using h1 | simpa [Nat.testBit_two_pow] using h1
    · intro h
      apply Nat.eq_of_testBit_eq
      intro i
      rw [Nat.testBit_and]
      by_cases hi : j = i
      · subst hi; simp [h]
      · first | (simp [Nat.testBit_two_pow, hi]; done) | (simp [Nat.testBit_two_pow_of_ne hi]; done)
  rw [fa_and]
  constructor
  · intro h
    apply e.mp
    rcases Nat.eq_zero_or_pos (n &&& 2 ^ j) with z | z
    · exact z
    · exact absurd h (nI_ne0 z (Nat.lt_of_le_of_lt hle h2))
  · intro h
    rw [e.mpr h]; exact nI_0
/-- a remainder by a power of two of a number that isn't negative, as Java divides -/
theorem fa_rem {a k : Nat} (ha : a < 2 ^ 31) (hk : k < 31) : nI a - nI a / nI (2 ^ k) * nI (2 ^ k) = nI (a % 2 ^ k) := pk_rem ha (Nat.two_pow_pos k) (Nat.pow_lt_pow_right (by decide) hk)
/-! ===== cuts to a byte, a short ===== -/
theorem fa_byte_xor (x y : Int32) : (x ^^^ y).toInt8 = x.toInt8 ^^^ y.toInt8 := by
  apply Int8.toBitVec_inj.1
  apply BitVec.eq_of_getLsbD_eq
  intro i hi
  first | (simp [hi]; done) | (simp [hi, BitVec.getLsbD_setWidth, BitVec.getLsbD_signExtend]; done)
theorem fa_short_xor (x y : Int32) : (x ^^^ y).toInt16 = x.toInt16 ^^^ y.toInt16 := by
  apply Int16.toBitVec_inj.1
  apply BitVec.eq_of_getLsbD_eq
  intro i hi
  first | (simp [hi]; done) | (simp [hi, BitVec.getLsbD_setWidth, BitVec.getLsbD_signExtend]; done)
/-- the cut to a byte sees the low byte alone -/
theorem fa_byte_low (x : Int32) : (x &&& 255).toInt8 = x.toInt8 := by
  apply Int8.toBitVec_inj.1
  apply BitVec.eq_of_getLsbD_eq
  intro i hi
  have h2 : (255 : Int32).toBitVec.getLsbD i = true := by
    have : ∀ j : Fin 8, (255 : Int32).toBitVec.getLsbD j.val = true := by decide +kernel
    exact this ⟨i, hi⟩
  have h4 : (x &&& 255).toBitVec.getLsbD i = x.toBitVec.getLsbD i := by
    show (x.toBitVec &&& (255 : Int32).toBitVec).getLsbD i = _
    rw [BitVec.getLsbD_and, h2, Bool.and_true]
  have h3 : i < 32 := by omega
  first
    | (show (((x &&& 255).toBitVec).signExtend 8).getLsbD i = (x.toBitVec.signExtend 8).getLsbD i; rw [BitVec.getLsbD_signExtend, BitVec.getLsbD_signExtend, if_pos h3, if_pos h3, h4])
    | (show (((x &&& 255).toBitVec).setWidth 8).getLsbD i = (x.toBitVec.setWidth 8).getLsbD i; rw [BitVec.getLsbD_setWidth, BitVec.getLsbD_setWidth, h4])
    | (simp [hi, h3, h4]; done)
theorem fa_short_low (x : Int32) : (x &&& 65535).toInt16 = x.toInt16 := by
  apply Int16.toBitVec_inj.1
  apply BitVec.eq_of_getLsbD_eq
  intro i hi
  have h2 : (65535 : Int32).toBitVec.getLsbD i = true := by
    have : ∀ j : Fin 16, (65535 : Int32).toBitVec.getLsbD j.val = true := by decide +kernel
    exact this ⟨i, hi⟩
  have h4 : (x &&& 65535).toBitVec.getLsbD i = x.toBitVec.getLsbD i := by
    show (x.toBitVec &&& (65535 : Int32).toBitVec).getLsbD i = _
    rw [BitVec.getLsbD_and, h2, Bool.and_true]
  have h3 : i < 32 := by omega
  first
    | (show (((x &&& 65535).toBitVec).signExtend 16).getLsbD i = (x.toBitVec.signExtend 16).getLsbD i; rw [BitVec.getLsbD_signExtend, BitVec.getLsbD_signExtend, if_pos h3, if_pos h3, h4])
    | (show (((x &&& 65535).toBitVec).setWidth 16).getLsbD i = (x.toBitVec.setWidth 16).getLsbD i; rw [BitVec.getLsbD_setWidth, BitVec.getLsbD_setWidth, h4])
    | (simp [hi, h3, h4]; done)
/-- a small number is its own byte, its own short -/
theorem fa_byte_small {n : Nat} (h : n < 128) : (nI n).toInt8.toInt32 = nI n := by
  have : ∀ j : Fin 128, (nI j.val).toInt8.toInt32 = nI j.val := by decide +kernel
  exact this ⟨n, h⟩
/-! ===== absolute difference ===== -/
theorem fa_absdiff {a b : Nat} (ha : a < 2 ^ 31) (hb : b < 2 ^ 31) : (if nI a < nI b then nI b - nI a else nI a - nI b) = nI (if a < b then b - a else a - b) := by
  by_cases h : a < b
  · rw [if_pos (nI_lt h hb), if_pos h]
    exact pk_sub (Nat.le_of_lt h)
  · rw [if_neg (nI_nlt (Nat.le_of_not_lt h) ha), if_neg h]
    exact pk_sub (Nat.le_of_not_lt h)
/-! ===== an array behind i stores, a conditional store, a row copied ===== -/
/-- f where k < i, what stood there else -/
def fa_fill {α : Type} (f g : Nat → α) (i : Nat) : Nat → α := fun k => if k < i then f k else g k
theorem fa_fill_0 {α : Type} (f g : Nat → α) : fa_fill f g 0 = g := funext fun k => if_neg (Nat.not_lt_zero k)
theorem fa_fill_in {α : Type} {f g : Nat → α} {i k : Nat} (h : k < i) : fa_fill f g i k = f k := if_pos h
theorem fa_fill_out {α : Type} {f g : Nat → α} {i k : Nat} (h : i ≤ k) : fa_fill f g i k = g k := if_neg (Nat.not_lt.mpr h)
theorem fa_fill_succ (f g : Nat → Int32) (i : Nat) : upd (fa_fill f g i) i (f i) = fa_fill f g (i + 1) := by
  funext k
  by_cases e : k = i
  · subst e
    rw [pk_us]
    exact (if_pos (Nat.lt_succ_self k)).symm
  · rw [pk_un e]
    by_cases h : k < i
    · rw [fa_fill_in h, fa_fill_in (Nat.lt_succ_of_lt h)]
    · rw [fa_fill_out (Nat.le_of_not_lt h), fa_fill_out (by omega)]
/-- a store that changes nothing -/
theorem fa_upd_same {f : Nat → Int32} {i : Nat} {x : Int32} (h : f i = x) : upd f i x = f := by
  funext k
  by_cases e : k = i
  · subst e
    rw [pk_us, h]
  · rw [pk_un e]
/-- a store under a condition, told as one -/
theorem fa_upd_if (c : Prop) [Decidable c] (f : Nat → Int32) (i : Nat) (x : Int32) : (if c then upd f i x else f) = upd f i (if c then x else f i) := by
  by_cases h : c
  · rw [if_pos h, if_pos h]
  · rw [if_neg h, if_neg h, fa_upd_same rfl]
/-- two stores at one place, at two -/
theorem fa_upd_twice (f : Nat → Int32) (i : Nat) (x y : Int32) : upd (upd f i x) i y = upd f i y := by
  funext k
  by_cases e : k = i
  · subst e
    rw [pk_us, pk_us]
  · rw [pk_un e, pk_un e, pk_un e]
theorem fa_upd_swap (f : Nat → Int32) {i j : Nat} (h : i ≠ j) (x y : Int32) : upd (upd f i x) j y = upd (upd f j y) i x := by
  funext k
  by_cases e : k = i
  · subst e
    rw [pk_un h, pk_us, pk_us]
  · by_cases e2 : k = j
    · subst e2
      rw [pk_us, pk_un e, pk_us]
    · rw [pk_un e2, pk_un e, pk_un e, pk_un e2]
/-! ===== the first index with a property; a count ===== -/
/-- the first k < n with p k, n if there is none -/
def fa_first (p : Nat → Bool) : Nat → Nat
  | 0 => 0
  | n + 1 => if fa_first p n < n then fa_first p n else if p n then n else n + 1
theorem fa_first_le (p : Nat → Bool) : ∀ n, fa_first p n ≤ n
  | 0 => Nat.le_refl 0
  | n + 1 => by
    have ih := fa_first_le p n
    unfold fa_first
    split
    · omega
    · split
      · omega
      · omega
theorem fa_first_no (p : Nat → Bool) : ∀ n k, k < fa_first p n → p k = false
  | 0, k, h => absurd h (Nat.not_lt_zero k)
  | n + 1, k, h => by
    have ih := fa_first_no p n
    have hl := fa_first_le p n
    unfold fa_first at h
    split at h
    · exact ih k h
    · rename_i h1
      split at h
      · exact ih k (by omega)
      · rename_i h2
        by_cases e : k = n
        · subst e
          exact Bool.eq_false_iff.mpr h2
        · exact ih k (by omega)
theorem fa_first_yes (p : Nat → Bool) : ∀ n, fa_first p n < n → p (fa_first p n) = true
  | 0, h => absurd h (Nat.not_lt_zero _)
  | n + 1, h => by
    have ih := fa_first_yes p n
    have hl := fa_first_le p n
    unfold fa_first at h ⊢
    split at h
    · rename_i h1
      rw [if_pos h1]
      exact ih h1
    · rename_i h1
      rw [if_neg h1]
      split at h
      · rename_i h2
        rw [if_pos h2]
        exact h2
      · omega
/-- how many k < n have p k -/
def fa_cnt (p : Nat → Bool) : Nat → Nat
  | 0 => 0
  | n + 1 => fa_cnt p n + if p n then 1 else 0
theorem fa_cnt_le (p : Nat → Bool) : ∀ n, fa_cnt p n ≤ n
  | 0 => Nat.le_refl 0
  | n + 1 => by
    have ih := fa_cnt_le p n
    unfold fa_cnt
    split
    · omega
    · omega
theorem fa_cnt_yes {p : Nat → Bool} {n : Nat} (h : p n = true) : fa_cnt p (n + 1) = fa_cnt p n + 1 := by rw [fa_cnt, if_pos h]
theorem fa_cnt_no {p : Nat → Bool} {n : Nat} (h : p n = false) : fa_cnt p (n + 1) = fa_cnt p n := by rw [fa_cnt, if_neg (by rw [h]; decide)]; rfl
theorem fa_cnt_cong {p q : Nat → Bool} : ∀ {n : Nat}, (∀ k, k < n → p k = q k) → fa_cnt p n = fa_cnt q n
  | 0, _ => rfl
  | n + 1, h => by rw [fa_cnt, fa_cnt, fa_cnt_cong (fun k hk => h k (Nat.lt_succ_of_lt hk)), h n (Nat.lt_succ_self n)]
/-! ===== an answer carried into a post; a branch on a boolean answer ===== -/
theorem fa_post {α : Type} {P : α → Prop} {x y : α} (h : x = y) (hp : P y) : P x := h ▸ hp
theorem fa_post2 {α β : Type} {P : α → β → Prop} {x y : α} {u v : β} (h : x = y) (h2 : u = v) (hp : P y v) : P x u := h ▸ h2 ▸ hp
theorem fa_bool {r : Int32} {b : Bool} (h : r = if b then 1 else 0) : (r = 0 ↔ b = false) ∧ (¬ r = 0 ↔ b = true) := by
  subst h
  cases b
  · exact ⟨⟨fun _ => rfl, fun _ => rfl⟩, ⟨fun h => absurd rfl h, fun h => absurd h (by decide)⟩⟩
  · exact ⟨⟨fun h => absurd h (by decide), fun h => absurd h (by decide)⟩, ⟨fun _ => rfl, fun _ => by decide⟩⟩
/-- a boolean's narrowing changes nothing -/
theorem fa_bool_and {r : Int32} (h : r = 0 ∨ r = 1) : r &&& 1 = r := by
  rcases h with rfl | rfl
  · decide
  · decide
theorem fa_bool_prop {c : Prop} [Decidable c] {r : Int32} (h : r = if c then 1 else 0) : (r = 0 ↔ ¬ c) ∧ (¬ r = 0 ↔ c) := by
  subst h
  by_cases hc : c
  · rw [if_pos hc]
    exact ⟨⟨fun h => absurd h (by decide), fun h => absurd hc h⟩, ⟨fun _ => hc, fun _ => by decide⟩⟩
  · rw [if_neg hc]
    exact ⟨⟨fun _ => hc, fun _ => rfl⟩, ⟨fun h => absurd rfl h, fun h => absurd h hc⟩⟩
/-! plain facts to paste, each family by itself; over the kit's nI, lN and upd -/
/-! ===== drawers: more things than places ===== -/
theorem fb_holes : ∀ (m n : Nat) (f : Nat → Nat), (∀ i, i < n → f i < m) → (∀ i j, i < j → j < n → f i ≠ f j) → n ≤ m := by
  intro m
  induction m with
  | zero =>
    intro n f h1 _
    rcases Nat.eq_zero_or_pos n with h | h
    · omega
    · exact absurd (h1 0 h) (Nat.not_lt_zero _)
  | succ m ih =>
    intro n f h1 h2
    by_cases hx : ∃ i, i < n ∧ f i = m
    · obtain ⟨a, ha, hfa⟩ := hx
      have hg := ih (n - 1) (fun i => if i < a then f i else f (i + 1)) (by
        intro i hi
        by_cases q : i < a
        · simp only [if_pos q]
          have b1 := h1 i (by omega)
          have b2 := h2 i a q ha
          omega
        · simp only [if_neg q]
          have b1 := h1 (i + 1) (by omega)
          have b2 := h2 a (i + 1) (by omega) (by omega)
          omega) (by
        intro i j hij hj
        by_cases q : i < a
        · by_cases r : j < a
          · simp only [if_pos q, if_pos r]
            exact h2 i j hij (by omega)
          · simp only [if_pos q, if_neg r]
            exact h2 i (j + 1) (by omega) (by omega)
        · have r : ¬ j < a := by omega
          simp only [if_neg q, if_neg r]
          exact h2 (i + 1) (j + 1) (by omega) (by omega))
      omega
    · have hg := ih n f (fun i hi => by
        have b1 := h1 i hi
        have b2 : f i ≠ m := fun e => hx ⟨i, hi, e⟩
        omega) h2
      omega
/-- two of them in one place -/
theorem fb_twice {m n : Nat} {f : Nat → Nat} (h : ∀ i, i < n → f i < m) (hm : m < n) : ∃ i j, i < j ∧ j < n ∧ f i = f j := by
  refine Classical.byContradiction fun hx => ?_
  have := fb_holes m n f h (fun i j hij hj e => hx ⟨i, j, hij, hj, e⟩)
  omega
/-- as many as places, none twice: each place is taken -/
theorem fb_onto {n : Nat} {f : Nat → Nat} (h : ∀ i, i < n → f i < n) (h2 : ∀ i j, i < j → j < n → f i ≠ f j) {y : Nat} (hy : y < n) : ∃ i, i < n ∧ f i = y := by
  refine Classical.byContradiction fun hx => ?_
  have hne : ∀ i, i < n → f i ≠ y := fun i hi e => hx ⟨i, hi, e⟩
  have := fb_holes (n - 1) n (fun i => if f i < y then f i else f i - 1) (by
    intro i hi
    have b1 := h i hi
    have b2 := hne i hi
    by_cases q : f i < y
    · simp only [if_pos q]; omega
    · simp only [if_neg q]; omega) (by
    intro i j hij hj
    have b1 := hne i (by omega)
    have b2 := hne j hj
    have b3 := h2 i j hij hj
    by_cases q : f i < y
    · by_cases r : f j < y
      · simp only [if_pos q, if_pos r]; exact b3
      · simp only [if_pos q, if_neg r]; omega
    · by_cases r : f j < y
      · simp only [if_neg q, if_pos r]; omega
      · simp only [if_neg q, if_neg r]; omega)
  omega
/-! ===== how many places have a property ===== -/
def fb_ct (p : Nat → Bool) : Nat → Nat
  | 0 => 0
  | n + 1 => fb_ct p n + (if p n then 1 else 0)
theorem fb_ct_succ (p : Nat → Bool) (n : Nat) : fb_ct p (n + 1) = fb_ct p n + (if p n then 1 else 0) := rfl
theorem fb_ct_le (p : Nat → Bool) : ∀ n, fb_ct p n ≤ n
  | 0 => Nat.le_refl _
  | n + 1 => by
    have h := fb_ct_le p n
    rw [fb_ct_succ]
    split <;> omega
theorem fb_ct_step (p : Nat → Bool) (m : Nat) : ∀ n, fb_ct p m ≤ fb_ct p (m + n)
  | 0 => Nat.le_refl _
  | n + 1 => by
    have h := fb_ct_step p m n
    show fb_ct p m ≤ fb_ct p (m + n + 1)
    rw [fb_ct_succ]
    omega
theorem fb_ct_mono (p : Nat → Bool) {m n : Nat} (h : m ≤ n) : fb_ct p m ≤ fb_ct p n := by
  have := fb_ct_step p m (n - m)
  rwa [Nat.add_sub_cancel' h] at this
theorem fb_ct_cong {p q : Nat → Bool} : ∀ {n : Nat}, (∀ k, k < n → p k = q k) → fb_ct p n = fb_ct q n
  | 0, _ => rfl
  | n + 1, h => by
    rw [fb_ct_succ, fb_ct_succ, fb_ct_cong (fun k hk => h k (by omega)), h n (by omega)]
/-- one place changed -/
theorem fb_ct_out (p : Nat → Bool) (b : Bool) {i n : Nat} (h : n ≤ i) : fb_ct (fun k => if k = i then b else p k) n = fb_ct p n :=
  fb_ct_cong fun k hk => if_neg (by omega)
theorem fb_ct_upd (p : Nat → Bool) (b : Bool) {i : Nat} : ∀ {n : Nat}, i < n → fb_ct (fun k => if k = i then b else p k) n + (if p i then 1 else 0) = fb_ct p n + (if b then 1 else 0)
  | 0, h => absurd h (Nat.not_lt_zero i)
  | n + 1, h => by
    rw [fb_ct_succ, fb_ct_succ]
    rcases Nat.lt_or_ge i n with q | q
    · have := fb_ct_upd p b q
      have e : (if n = i then b else p n) = p n := if_neg (by omega)
      rw [e]
      omega
    · have e : i = n := by omega
      subst e
      rw [fb_ct_out p b (Nat.le_refl _)]
      simp only [if_true]
      omega
theorem fb_ct_sub {p q : Nat → Bool} : ∀ {n : Nat}, (∀ k, k < n → p k = true → q k = true) → fb_ct p n ≤ fb_ct q n
  | 0, _ => Nat.le_refl _
  | n + 1, h => by
    have h1 := fb_ct_sub (n := n) (p := p) (q := q) (fun k hk => h k (by omega))
    have h2 := h n (by omega)
    rw [fb_ct_succ, fb_ct_succ]
    cases hp : p n <;> cases hq : q n <;> simp_all <;> omega
theorem fb_ct_or {p q : Nat → Bool} : ∀ {n : Nat}, (∀ k, k < n → ¬ (p k = true ∧ q k = true)) → fb_ct (fun k => p k || q k) n = fb_ct p n + fb_ct q n
  | 0, _ => rfl
  | n + 1, h => by
    have h1 := fb_ct_or (n := n) (p := p) (q := q) (fun k hk => h k (by omega))
    have h2 := h n (by omega)
    rw [fb_ct_succ, fb_ct_succ, fb_ct_succ, h1]
    cases hp : p n <;> cases hq : q n <;> simp_all <;> omega
theorem fb_ct_not (p : Nat → Bool) : ∀ n, fb_ct p n + fb_ct (fun k => !p k) n = n
  | 0 => rfl
  | n + 1 => by
    have h := fb_ct_not p n
    rw [fb_ct_succ, fb_ct_succ]
    cases p n <;> simp <;> omega
theorem fb_ct_split (p : Nat → Bool) (m : Nat) : ∀ n, fb_ct p (m + n) = fb_ct p m + fb_ct (fun k => p (m + k)) n
  | 0 => rfl
  | n + 1 => by
    have h := fb_ct_split p m n
    show fb_ct p (m + n + 1) = _
    rw [fb_ct_succ, fb_ct_succ, h, Nat.add_assoc]
theorem fb_ct_zero {p : Nat → Bool} : ∀ {n : Nat}, fb_ct p n = 0 ↔ ∀ k, k < n → p k = false
  | 0 => ⟨fun _ k hk => absurd hk (Nat.not_lt_zero k), fun _ => rfl⟩
  | n + 1 => by
    have h := fb_ct_zero (p := p) (n := n)
    rw [fb_ct_succ]
    constructor
    · intro e k hk
      have e1 : fb_ct p n = 0 := by omega
      rcases Nat.lt_or_ge k n with q | q
      · exact h.mp e1 k q
      · have ek : k = n := by omega
        subst ek
        cases hp : p k
        · rfl
        · simp [hp] at e
    · intro a
      rw [h.mpr (fun k hk => a k (by omega)), a n (by omega)]
      rfl
theorem fb_ct_pos {p : Nat → Bool} {n : Nat} : 0 < fb_ct p n ↔ ∃ k, k < n ∧ p k = true := by
  constructor
  · intro h
    refine Classical.byContradiction fun hx => ?_
    have := fb_ct_zero.mpr (fun k hk => by
      cases hp : p k
      · rfl
      · exact absurd ⟨k, hk, hp⟩ hx : ∀ k, k < n → p k = false)
    omega
  · rintro ⟨k, hk, hp⟩
    rcases Nat.eq_zero_or_pos (fb_ct p n) with e | e
    · have := fb_ct_zero.mp e k hk
      rw [this] at hp
      cases hp
    · exact e
theorem fb_ct_all {p : Nat → Bool} {n : Nat} : fb_ct p n = n ↔ ∀ k, k < n → p k = true := by
  have h := fb_ct_not p n
  constructor
  · intro e k hk
    have z : fb_ct (fun k => !p k) n = 0 := by omega
    have := fb_ct_zero.mp z k hk
    cases hp : p k
    · simp [hp] at this
    · rfl
  · intro a
    have z : fb_ct (fun k => !p k) n = 0 := fb_ct_zero.mpr (fun k hk => by simp [a k hk])
    omega
/-- the k-th place with the property -/
theorem fb_ct_kth {p : Nat → Bool} {k : Nat} : ∀ {n : Nat}, k < fb_ct p n → ∃ i, i < n ∧ p i = true ∧ fb_ct p i = k
  | 0, h => absurd h (Nat.not_lt_zero k)
  | n + 1, h => by
    rcases Nat.lt_or_ge k (fb_ct p n) with q | q
    · obtain ⟨i, h1, h2⟩ := fb_ct_kth q
      exact ⟨i, by omega, h2⟩
    · rw [fb_ct_succ] at h
      cases hp : p n
      · simp [hp] at h; omega
      · simp [hp] at h
        exact ⟨n, by omega, hp, by omega⟩
theorem fb_ct_kth_one {p : Nat → Bool} {i j : Nat} (hi : p i = true) (hj : p j = true) (e : fb_ct p i = fb_ct p j) : i = j := by
  have key : ∀ a b : Nat, a < b → p a = true → fb_ct p a < fb_ct p b := by
    intro a b hab ha
    have h := fb_ct_mono p (show a + 1 ≤ b from hab)
    rw [fb_ct_succ, ha] at h
    simp at h
    omega
  rcases Nat.lt_trichotomy i j with q | q | q
  · have := key i j q hi; omega
  · exact q
  · have := key j i q hj; omega
/-! ===== sums over a range: one place changed, parts, bounds ===== -/
def fb_sm (f : Nat → Nat) : Nat → Nat
  | 0 => 0
  | n + 1 => fb_sm f n + f n
theorem fb_sm_succ (f : Nat → Nat) (n : Nat) : fb_sm f (n + 1) = fb_sm f n + f n := rfl
theorem fb_sm_cong {f g : Nat → Nat} : ∀ {n : Nat}, (∀ k, k < n → f k = g k) → fb_sm f n = fb_sm g n
  | 0, _ => rfl
  | n + 1, h => by rw [fb_sm_succ, fb_sm_succ, fb_sm_cong (fun k hk => h k (by omega)), h n (by omega)]
theorem fb_sm_out (f : Nat → Nat) (v : Nat) {i n : Nat} (h : n ≤ i) : fb_sm (fun k => if k = i then v else f k) n = fb_sm f n :=
  fb_sm_cong fun k hk => if_neg (by omega)
theorem fb_sm_upd (f : Nat → Nat) (v : Nat) {i : Nat} : ∀ {n : Nat}, i < n → fb_sm (fun k => if k = i then v else f k) n + f i = fb_sm f n + v
  | 0, h => absurd h (Nat.not_lt_zero i)
  | n + 1, h => by
    rw [fb_sm_succ, fb_sm_succ]
    rcases Nat.lt_or_ge i n with q | q
    · have := fb_sm_upd f v q
      have e : (if n = i then v else f n) = f n := if_neg (by omega)
      rw [e]
      omega
    · have e : i = n := by omega
      subst e
      rw [fb_sm_out f v (Nat.le_refl _)]
      simp only [if_true]
      omega
theorem fb_sm_add (f g : Nat → Nat) : ∀ n, fb_sm (fun k => f k + g k) n = fb_sm f n + fb_sm g n
  | 0 => rfl
  | n + 1 => by
    have h := fb_sm_add f g n
    rw [fb_sm_succ, fb_sm_succ, fb_sm_succ, h]
    omega
theorem fb_sm_le {f g : Nat → Nat} : ∀ {n : Nat}, (∀ k, k < n → f k ≤ g k) → fb_sm f n ≤ fb_sm g n
  | 0, _ => Nat.le_refl _
  | n + 1, h => by
    have h1 := fb_sm_le (n := n) (f := f) (g := g) (fun k hk => h k (by omega))
    have h2 := h n (by omega)
    rw [fb_sm_succ, fb_sm_succ]
    omega
theorem fb_sm_const (c : Nat) : ∀ n, fb_sm (fun _ => c) n = n * c
  | 0 => by rw [Nat.zero_mul]; rfl
  | n + 1 => by rw [fb_sm_succ, fb_sm_const c n, Nat.succ_mul]
theorem fb_sm_bound {f : Nat → Nat} {c n : Nat} (h : ∀ k, k < n → f k ≤ c) : fb_sm f n ≤ n * c := by
  rw [← fb_sm_const c n]
  exact fb_sm_le h
theorem fb_sm_mono (f : Nat → Nat) (m : Nat) : ∀ n, fb_sm f m ≤ fb_sm f (m + n)
  | 0 => Nat.le_refl _
  | n + 1 => by
    have h := fb_sm_mono f m n
    show fb_sm f m ≤ fb_sm f (m + n + 1)
    rw [fb_sm_succ]
    omega
theorem fb_sm_part (f : Nat → Nat) {i n : Nat} (h : i < n) : fb_sm f i + f i ≤ fb_sm f n := by
  have := fb_sm_mono f (i + 1) (n - (i + 1))
  rw [fb_sm_succ, show i + 1 + (n - (i + 1)) = n by omega] at this
  exact this
theorem fb_sm_split (f : Nat → Nat) (m : Nat) : ∀ n, fb_sm f (m + n) = fb_sm f m + fb_sm (fun k => f (m + k)) n
  | 0 => rfl
  | n + 1 => by
    have h := fb_sm_split f m n
    show fb_sm f (m + n + 1) = _
    rw [fb_sm_succ, fb_sm_succ, h, Nat.add_assoc]
theorem fb_sm_zero {f : Nat → Nat} {n : Nat} (h : fb_sm f n = 0) : ∀ k, k < n → f k = 0 := fun k hk => by
  have := fb_sm_part f hk
  omega
/-- the same over whole numbers -/
def fb_si (f : Nat → Int) : Nat → Int
  | 0 => 0
  | n + 1 => fb_si f n + f n
theorem fb_si_succ (f : Nat → Int) (n : Nat) : fb_si f (n + 1) = fb_si f n + f n := rfl
theorem fb_si_cong {f g : Nat → Int} : ∀ {n : Nat}, (∀ k, k < n → f k = g k) → fb_si f n = fb_si g n
  | 0, _ => rfl
  | n + 1, h => by rw [fb_si_succ, fb_si_succ, fb_si_cong (fun k hk => h k (by omega)), h n (by omega)]
theorem fb_si_out (f : Nat → Int) (v : Int) {i n : Nat} (h : n ≤ i) : fb_si (fun k => if k = i then v else f k) n = fb_si f n :=
  fb_si_cong fun k hk => if_neg (by omega)
theorem fb_si_upd (f : Nat → Int) (v : Int) {i : Nat} : ∀ {n : Nat}, i < n → fb_si (fun k => if k = i then v else f k) n = fb_si f n - f i + v
  | 0, h => absurd h (Nat.not_lt_zero i)
  | n + 1, h => by
    rw [fb_si_succ, fb_si_succ]
    rcases Nat.lt_or_ge i n with q | q
    · have := fb_si_upd f v q
      have e : (if n = i then v else f n) = f n := if_neg (by omega)
      rw [e]
      omega
    · have e : i = n := by omega
      subst e
      rw [fb_si_out f v (Nat.le_refl _)]
      simp only [if_true]
      omega
theorem fb_si_add (f g : Nat → Int) : ∀ n, fb_si (fun k => f k + g k) n = fb_si f n + fb_si g n
  | 0 => rfl
  | n + 1 => by
    have h := fb_si_add f g n
    rw [fb_si_succ, fb_si_succ, fb_si_succ, h]
    omega
theorem fb_si_sub (f g : Nat → Int) : ∀ n, fb_si (fun k => f k - g k) n = fb_si f n - fb_si g n
  | 0 => rfl
  | n + 1 => by
    have h := fb_si_sub f g n
    rw [fb_si_succ, fb_si_succ, fb_si_succ, h]
    omega
theorem fb_si_mul (c : Int) (f : Nat → Int) : ∀ n, fb_si (fun k => c * f k) n = c * fb_si f n
  | 0 => (Int.mul_zero c).symm
  | n + 1 => by
    have h := fb_si_mul c f n
    rw [fb_si_succ, fb_si_succ, h, Int.mul_add]
theorem fb_si_split (f : Nat → Int) (m : Nat) : ∀ n, fb_si f (m + n) = fb_si f m + fb_si (fun k => f (m + k)) n
  | 0 => (Int.add_zero _).symm
  | n + 1 => by
    have h := fb_si_split f m n
    show fb_si f (m + n + 1) = _
    rw [fb_si_succ, fb_si_succ, h, Int.add_assoc]
theorem fb_si_nat (f : Nat → Nat) : ∀ n, fb_si (fun k => (f k : Int)) n = (fb_sm f n : Int)
  | 0 => rfl
  | n + 1 => by
    have h := fb_si_nat f n
    rw [fb_si_succ, fb_sm_succ, h]
    omega
theorem fb_si_bound {f : Nat → Int} {c : Int} (hc : 0 ≤ c) : ∀ {n : Nat}, (∀ k, k < n → -c ≤ f k ∧ f k ≤ c) → -(n * c) ≤ fb_si f n ∧ fb_si f n ≤ n * c
  | 0, _ => by simp [fb_si]
  | n + 1, h => by
    have h1 := fb_si_bound (n := n) (f := f) hc (fun k hk => h k (by omega))
    have h2 := h n (by omega)
    have e : ((n + 1 : Nat) : Int) * c = n * c + c := by rw [Int.natCast_add, Int.add_mul]; simp
    rw [fb_si_succ, e]
    omega
/-! ===== bits of a long that isn't negative ===== -/
theorem fb_andL (a b : Nat) : lN a &&& lN b = lN (a &&& b) := by
  apply Int64.toBitVec_inj.1
  show BitVec.ofNat 64 a &&& BitVec.ofNat 64 b = BitVec.ofNat 64 (a &&& b)
  apply BitVec.eq_of_getLsbD_eq
  intro i hi
  simp [hi]
theorem fb_orL (a b : Nat) : lN a ||| lN b = lN (a ||| b) := by
  apply Int64.toBitVec_inj.1
  show BitVec.ofNat 64 a ||| BitVec.ofNat 64 b = BitVec.ofNat 64 (a ||| b)
  apply BitVec.eq_of_getLsbD_eq
  intro i hi
  simp [hi]
theorem fb_xorL (a b : Nat) : lN a ^^^ lN b = lN (a ^^^ b) := by
  apply Int64.toBitVec_inj.1
  show BitVec.ofNat 64 a ^^^ BitVec.ofNat 64 b = BitVec.ofNat 64 (a ^^^ b)
  apply BitVec.eq_of_getLsbD_eq
  intro i hi
  simp [hi]
theorem fb_xorI (a b : Nat) : nI a ^^^ nI b = nI (a ^^^ b) := by
  apply Int32.toBitVec_inj.1
  show BitVec.ofNat 32 a ^^^ BitVec.ofNat 32 b = BitVec.ofNat 32 (a ^^^ b)
  apply BitVec.eq_of_getLsbD_eq
  intro i hi
  simp [hi]
theorem fb_maskL (n k : Nat) : lN n &&& lN (2 ^ k - 1) = lN (n % 2 ^ k) := by rw [fb_andL, Nat.and_two_pow_sub_one_eq_mod]
theorem fb_or_sumL {a k : Nat} (b : Nat) (h : a < 2 ^ k) : lN (2 ^ k * b) ||| lN a = lN (2 ^ k * b + a) := by rw [fb_orL, Nat.two_pow_add_eq_or_of_lt h]
theorem fb_lN_inj {a b : Nat} (ha : a < 2 ^ 63) (hb : b < 2 ^ 63) : lN a = lN b ↔ a = b := by
  constructor
  · intro h
    have h1 : (BitVec.ofNat 64 a).toNat = (BitVec.ofNat 64 b).toNat := congrArg (fun x : Int64 => x.toBitVec.toNat) h
    rw [BitVec.toNat_ofNat, BitVec.toNat_ofNat, Nat.mod_eq_of_lt (by omega), Nat.mod_eq_of_lt (by omega)] at h1
    exact h1
  · rintro rfl; rfl
theorem fb_bit_nat (n j : Nat) : n &&& 2 ^ j = 0 ↔ n.testBit j = false := by
  constructor
  · intro h
    have h1 : (n &&& 2 ^ j).testBit j = false := by rw [h]; simp
    rw [Nat.testBit_and] at h1
    simpa using h1
  · intro h
    apply Nat.eq_of_testBit_eq
    intro i
    rw [Nat.testBit_and]
    by_cases hi : j = i
    · subst hi; simp [h]
    · first | (simp [Nat.testBit_two_pow, hi]; done) | (simp [Nat.testBit_two_pow_of_ne hi]; done)
/-- one bit of a long -/
theorem fb_bitL {n j : Nat} (hj : j < 63) : lN n &&& lN (2 ^ j) = 0 ↔ n.testBit j = false := by
  have h2 : (2 : Nat) ^ j < 2 ^ 63 := Nat.pow_lt_pow_right (by decide) hj
  have hle : n &&& 2 ^ j ≤ 2 ^ j := Nat.and_le_right
  rw [fb_andL, ← fb_bit_nat, show (0 : Int64) = lN 0 from rfl]
  exact fb_lN_inj (by omega) (by decide)
/-- a bit set, a bit taken off -/
theorem fb_bit_set (n j i : Nat) : (n ||| 2 ^ j).testBit i = (n.testBit i || decide (i = j)) := by
  rw [Nat.testBit_or]
  by_cases h : j = i
  · subst h; simp
  · have h2 : ¬ i = j := fun e => h e.symm
    first | (simp [Nat.testBit_two_pow, h, h2]; done) | (simp [Nat.testBit_two_pow_of_ne h, h2]; done)
theorem fb_bit_flip (n j i : Nat) : (n ^^^ 2 ^ j).testBit i = (n.testBit i ^^ decide (i = j)) := by
  rw [Nat.testBit_xor]
  by_cases h : j = i
  · subst h; simp
  · have h2 : ¬ i = j := fun e => h e.symm
    first | (simp [Nat.testBit_two_pow, h, h2]; done) | (simp [Nat.testBit_two_pow_of_ne h, h2]; done)
/-! ===== a stretch of an array written over by a function ===== -/
def fb_put {α : Type} (f g : Nat → α) (a n : Nat) : Nat → α := fun k => if a ≤ k ∧ k < a + n then g (k - a) else f k
theorem fb_put_0 {α : Type} (f g : Nat → α) (a : Nat) : fb_put f g a 0 = f := funext fun k => if_neg (by omega)
theorem fb_put_in {α : Type} {f g : Nat → α} {a n k : Nat} (h1 : a ≤ k) (h2 : k < a + n) : fb_put f g a n k = g (k - a) := if_pos ⟨h1, h2⟩
theorem fb_put_out {α : Type} {f g : Nat → α} {a n k : Nat} (h : k < a ∨ a + n ≤ k) : fb_put f g a n k = f k := if_neg (by omega)
theorem fb_put_succ (f g : Nat → Int32) (a n : Nat) : upd (fb_put f g a n) (a + n) (g n) = fb_put f g a (n + 1) := by
  funext k
  by_cases h : k = a + n
  · subst h
    simp [upd, fb_put]
  · by_cases h1 : a ≤ k ∧ k < a + n
    · have h2 : a ≤ k ∧ k < a + (n + 1) := by omega
      simp only [upd, fb_put, if_neg h, if_pos h1, if_pos h2]
    · have h2 : ¬ (a ≤ k ∧ k < a + (n + 1)) := by omega
      simp only [upd, fb_put, if_neg h, if_neg h1, if_neg h2]
/-- .. from the far end down -/
theorem fb_put_down (f g : Nat → Int32) {a n m : Nat} (h : m < n) : upd (fb_put f (fun k => g (k + (m + 1))) (a + (m + 1)) (n - (m + 1))) (a + m) (g m) = fb_put f (fun k => g (k + m)) (a + m) (n - m) := by
  funext k
  by_cases h0 : k = a + m
  · subst h0
    simp only [upd, if_true]
    rw [fb_put_in (by omega) (by omega)]
    exact congrArg g (by omega)
  · simp only [upd, if_neg h0]
    by_cases h1 : a + (m + 1) ≤ k ∧ k < a + (m + 1) + (n - (m + 1))
    · rw [fb_put_in h1.1 h1.2, fb_put_in (by omega) (by omega)]
      exact congrArg g (by omega)
    · rw [fb_put_out (by omega), fb_put_out (by omega)]
theorem fb_put_cong {α : Type} {f f2 g g2 : Nat → α} {a n : Nat} (hf : ∀ k, (k < a ∨ a + n ≤ k) → f k = f2 k) (hg : ∀ k, k < n → g k = g2 k) : fb_put f g a n = fb_put f2 g2 a n := by
  funext k
  by_cases h : a ≤ k ∧ k < a + n
  · rw [fb_put_in h.1 h.2, fb_put_in h.1 h.2, hg _ (by omega)]
  · rw [fb_put_out (by omega), fb_put_out (by omega), hf _ (by omega)]
/-! ===== the least, the first, the best so far; that there is one alone ===== -/
theorem fb_first {p : Nat → Prop} [DecidablePred p] : ∀ {n : Nat}, (∃ i, i < n ∧ p i) → ∃ i, i < n ∧ p i ∧ ∀ j, j < i → ¬ p j
  | 0, h => by obtain ⟨i, hi, -⟩ := h; exact absurd hi (Nat.not_lt_zero i)
  | n + 1, h => by
    by_cases q : ∃ i, i < n ∧ p i
    · obtain ⟨i, h1, h2⟩ := fb_first q
      exact ⟨i, by omega, h2⟩
    · obtain ⟨i, h1, h2⟩ := h
      have e : i = n := by
        rcases Nat.lt_or_ge i n with r | r
        · exact absurd ⟨i, r, h2⟩ q
        · omega
      subst e
      exact ⟨i, by omega, h2, fun j hj hp => q ⟨j, hj, hp⟩⟩
theorem fb_first_one {p : Nat → Prop} {i j : Nat} (hi : p i) (hi2 : ∀ k, k < i → ¬ p k) (hj : p j) (hj2 : ∀ k, k < j → ¬ p k) : i = j := by
  rcases Nat.lt_trichotomy i j with q | q | q
  · exact absurd hi (hj2 i q)
  · exact q
  · exact absurd hj (hi2 j q)
theorem fb_last {p : Nat → Prop} [DecidablePred p] : ∀ {n : Nat}, (∃ i, i < n ∧ p i) → ∃ i, i < n ∧ p i ∧ ∀ j, i < j → j < n → ¬ p j
  | 0, h => by obtain ⟨i, hi, -⟩ := h; exact absurd hi (Nat.not_lt_zero i)
  | n + 1, h => by
    by_cases q : p n
    · exact ⟨n, by omega, q, fun j h1 h2 => by omega⟩
    · obtain ⟨i, h1, h2⟩ := h
      have hi : i < n := by
        rcases Nat.lt_or_ge i n with r | r
        · exact r
        · have e : i = n := by omega
          subst e
          exact absurd h2 q
      obtain ⟨i2, a1, a2, a3⟩ := fb_last (n := n) ⟨i, hi, h2⟩
      refine ⟨i2, by omega, a2, fun j b1 b2 => ?_⟩
      rcases Nat.lt_or_ge j n with r | r
      · exact a3 j b1 r
      · have e : j = n := by omega
        subst e
        exact q
/-- the first greatest -/
theorem fb_best (f : Nat → Int) : ∀ {n : Nat}, 0 < n → ∃ i, i < n ∧ (∀ j, j < n → f j ≤ f i) ∧ ∀ j, j < i → f j < f i
  | 0, h => absurd h (Nat.lt_irrefl 0)
  | 1, _ => ⟨0, by omega, fun j hj => by have e : j = 0 := by omega
                                         subst e; exact Int.le_refl _, fun j hj => absurd hj (Nat.not_lt_zero j)⟩
  | n + 2, _ => by
    obtain ⟨i, h1, h2, h3⟩ := fb_best f (n := n + 1) (by omega)
    by_cases q : f i < f (n + 1)
    · refine ⟨n + 1, by omega, fun j hj => ?_, fun j hj => ?_⟩
      · rcases Nat.lt_or_ge j (n + 1) with r | r
        · have := h2 j r; omega
        · have e : j = n + 1 := by omega
          subst e; exact Int.le_refl _
      · have := h2 j hj; omega
    · refine ⟨i, by omega, fun j hj => ?_, h3⟩
      rcases Nat.lt_or_ge j (n + 1) with r | r
      · exact h2 j r
      · have e : j = n + 1 := by omega
        subst e; omega
theorem fb_best_one {f : Nat → Int} {n i j : Nat} (hi : i < n) (hi2 : ∀ k, k < n → f k ≤ f i) (hi3 : ∀ k, k < i → f k < f i) (hj : j < n) (hj2 : ∀ k, k < n → f k ≤ f j) (hj3 : ∀ k, k < j → f k < f j) : i = j := by
  rcases Nat.lt_trichotomy i j with q | q | q
  · have a := hj3 i q
    have b := hi2 j hj
    omega
  · exact q
  · have a := hi3 j q
    have b := hj2 i hi
    omega
/-- the first least -/
theorem fb_low (f : Nat → Int) {n : Nat} (h : 0 < n) : ∃ i, i < n ∧ (∀ j, j < n → f i ≤ f j) ∧ ∀ j, j < i → f i < f j := by
  obtain ⟨i, h1, h2, h3⟩ := fb_best (fun k => -f k) h
  exact ⟨i, h1, fun j hj => by have := h2 j hj; omega, fun j hj => by have := h3 j hj; omega⟩
/-! ===== signed ints as whole numbers, within bounds ===== -/
theorem fb_rng (x : Int32) : -2147483648 ≤ x.toInt ∧ x.toInt < 2147483648 := by
  have h1 := Int32.le_toInt x
  have h2 := Int32.toInt_lt x
  omega
theorem fb_bmod {z : Int} (h1 : -2147483648 ≤ z) (h2 : z < 2147483648) : z.bmod (2 ^ 32) = z := by
  rw [Int.bmod_eq_of_le (by omega) (by omega)]
theorem fb_addI {x y : Int32} (h1 : -2147483648 ≤ x.toInt + y.toInt) (h2 : x.toInt + y.toInt < 2147483648) : (x + y).toInt = x.toInt + y.toInt := by
  rw [Int32.toInt_add, fb_bmod h1 h2]
theorem fb_subI {x y : Int32} (h1 : -2147483648 ≤ x.toInt - y.toInt) (h2 : x.toInt - y.toInt < 2147483648) : (x - y).toInt = x.toInt - y.toInt := by
  rw [Int32.toInt_sub, fb_bmod h1 h2]
theorem fb_mulI {x y : Int32} (h1 : -2147483648 ≤ x.toInt * y.toInt) (h2 : x.toInt * y.toInt < 2147483648) : (x * y).toInt = x.toInt * y.toInt := by
  rw [Int32.toInt_mul, fb_bmod h1 h2]
theorem fb_negI {x : Int32} (h : x.toInt ≠ -2147483648) : (-x).toInt = -x.toInt := by
  have := fb_rng x
  rw [Int32.toInt_neg, fb_bmod (by omega) (by omega)]
theorem fb_ofI {z : Int} (h1 : -2147483648 ≤ z) (h2 : z < 2147483648) : (Int32.ofInt z).toInt = z := by
  rw [Int32.toInt_ofInt, fb_bmod h1 h2]
theorem fb_asI (x : Int32) : Int32.ofInt x.toInt = x := Int32.ofInt_toInt x
theorem fb_rngL (x : Int64) : -9223372036854775808 ≤ x.toInt ∧ x.toInt < 9223372036854775808 := by
  have h1 := Int64.le_toInt x
  have h2 := Int64.toInt_lt x
  omega
theorem fb_bmodL {z : Int} (h1 : -9223372036854775808 ≤ z) (h2 : z < 9223372036854775808) : z.bmod (2 ^ 64) = z := by
  rw [Int.bmod_eq_of_le (by omega) (by omega)]
theorem fb_addL {x y : Int64} (h1 : -9223372036854775808 ≤ x.toInt + y.toInt) (h2 : x.toInt + y.toInt < 9223372036854775808) : (x + y).toInt = x.toInt + y.toInt := by
  rw [Int64.toInt_add, fb_bmodL h1 h2]
theorem fb_subL {x y : Int64} (h1 : -9223372036854775808 ≤ x.toInt - y.toInt) (h2 : x.toInt - y.toInt < 9223372036854775808) : (x - y).toInt = x.toInt - y.toInt := by
  rw [Int64.toInt_sub, fb_bmodL h1 h2]
theorem fb_mulL {x y : Int64} (h1 : -9223372036854775808 ≤ x.toInt * y.toInt) (h2 : x.toInt * y.toInt < 9223372036854775808) : (x * y).toInt = x.toInt * y.toInt := by
  rw [Int64.toInt_mul, fb_bmodL h1 h2]
/-! ===== cuts of what is narrow already ===== -/
theorem fb_byte {x : Int32} (h1 : -128 ≤ x.toInt) (h2 : x.toInt < 128) : x.toInt8.toInt32 = x := by
  apply Int32.toInt_inj.1
  rw [Int8.toInt_toInt32, Int32.toInt_toInt8, Int.bmod_eq_of_le (by omega) (by omega)]
theorem fb_short {x : Int32} (h1 : -32768 ≤ x.toInt) (h2 : x.toInt < 32768) : x.toInt16.toInt32 = x := by
  apply Int32.toInt_inj.1
  rw [Int16.toInt_toInt32, Int32.toInt_toInt16, Int.bmod_eq_of_le (by omega) (by omega)]
theorem fb_byte_rng (x : Int32) : -128 ≤ x.toInt8.toInt32.toInt ∧ x.toInt8.toInt32.toInt < 128 := by
  rw [Int8.toInt_toInt32]
  have h1 := Int8.le_toInt x.toInt8
  have h2 := Int8.toInt_lt x.toInt8
  omega
theorem fb_short_rng (x : Int32) : -32768 ≤ x.toInt16.toInt32.toInt ∧ x.toInt16.toInt32.toInt < 32768 := by
  rw [Int16.toInt_toInt32]
  have h1 := Int16.le_toInt x.toInt16
  have h2 := Int16.toInt_lt x.toInt16
  omega
theorem fb_byte_twice (x : Int32) : x.toInt8.toInt32.toInt8.toInt32 = x.toInt8.toInt32 := fb_byte (fb_byte_rng x).1 (fb_byte_rng x).2
theorem fb_short_twice (x : Int32) : x.toInt16.toInt32.toInt16.toInt32 = x.toInt16.toInt32 := fb_short (fb_short_rng x).1 (fb_short_rng x).2
theorem fb_char {n : Nat} (h : n < 65536) : (nI n).toUInt32.toUInt16.toUInt32.toInt32 = nI n := by
  apply Int32.toBitVec_inj.1
  apply BitVec.eq_of_toNat_eq
  have e1 : (nI n).toBitVec.toNat = n := by
    show (BitVec.ofNat 32 n).toNat = n
    rw [BitVec.toNat_ofNat, Nat.mod_eq_of_lt (by omega)]
  have e2 : ((nI n).toUInt32.toUInt16.toUInt32).toNat = n := by
    rw [UInt16.toNat_toUInt32, UInt32.toNat_toUInt16]
    show (nI n).toBitVec.toNat % 2 ^ 16 = n
    rw [e1, Nat.mod_eq_of_lt (by omega)]
  rw [e1]
  exact e2
end
section
/-! the claim's own base: one bundle of the launch's numbers, contracts that read, contracts that write, their calls and ends -/
abbrev GG : Type := va_G × ClassId × ClassId × ClassId × ClassId × Nat × Nat
abbrev gI (G : GG) : ClassId := G.2.1
abbrev gJ (G : GG) : ClassId := G.2.2.1
abbrev gZ (G : GG) : ClassId := G.2.2.2.1
abbrev gO (G : GG) : ClassId := G.2.2.2.2.1
abbrev gM (G : GG) : Nat := G.2.2.2.2.2.1
abbrev gS (G : GG) : Nat := G.2.2.2.2.2.2
abbrev gTy (G : GG) : List (ClassId × FieldType) := [(gI G, .int), (gJ G, .long), (gZ G, .boolean), (gO G, .object "java/lang/Object")]
abbrev aI (G : GG) (a n : Nat) (f : Nat → Int32) : Nat × va_E := (a, .inl (gI G, n, .inl f))
abbrev aJ (G : GG) (a n : Nat) (f : Nat → Int64) : Nat × va_E := (a, .inl (gJ G, n, .inr (.inl f)))
abbrev aZ (G : GG) (a n : Nat) (f : Nat → Int32) : Nat × va_E := (a, .inl (gZ G, n, .inl f))
abbrev aO (G : GG) (a n : Nat) (f : Nat → Option Nat) : Nat × va_E := (a, .inl (gO G, n, .inr (.inr (.inr (.inr f)))))
/-- what the tables say, the same in every state -/
def KK (G : GG) (U : State) : Prop := va_K G.1 vwCl (gTy G) U ∧ va_Mi "[Ljava/lang/Object;" (gM G) U ∧ va_Dc U ∧ va_AO "java/lang/Object" U ∧ va_Nw (.castable RX0 "java/lang/Object") U ∧ va_Nw (.methodLinkNest RX0 43 yX1_doneBy RX1) U
theorem KK.same {G : GG} {u U : State} (e : u.vm = U.vm) (h : KK G u) : KK G U := by
  have a : u.vm.Alike U.vm := e ▸ Vm.Alike.refl u.vm
  obtain ⟨h1, h2, h3, h4, h5, h6⟩ := h
  exact ⟨va_K.moved a h1, va_Mi.moved a h2, va_Dc.moved a h3, va_AO.moved a h4, va_Nw.same rfl e h5, va_Nw.same rfl e h6⟩
theorem KK.warm {G : GG} {s U : State} (hW : s.WarmedH U.vm) (h : KK G s) : KK G U := by
  obtain ⟨h1, h2, h3, h4, h5, h6⟩ := h
  exact ⟨va_K.moved hW.alike h1, va_Mi.moved hW.alike h2, va_Dc.moved hW.alike h3, va_AO.moved hW.alike h4, va_Nw.warmC hW h5, va_Nw.warmM hW h6⟩
/-- the list's static empty array, outside what is written -/
def SF (G : GG) (A : Nat → Prop) (U : State) (H : Heap) : Prop := va_Z "java/util/ArrayList" "DEFAULTCAPACITY_EMPTY_ELEMENTDATA" "[Ljava/lang/Object;" (.ref (gS G)) A U H ∧ va_T (.object "java/lang/Object") (gS G) 0 (fun _ => .null) A U H
theorem SF.to {G : GG} {A B : Nat → Prop} {s U : State} {H H1 : Heap} (h : SF G A s H) (hq : ∀ a : Nat, a < H.size → ¬ A a → H1[a]? = H[a]?) (hAB : ∀ q, B q → A q) (hvm : s.vm.Alike U.vm) : SF G B U H1 :=
  ⟨((h.1.kept hq).narrow hAB).moved hvm, ((h.2.kept hq).narrow hAB).moved hvm⟩
theorem va_P.nil {D : va_G} {cl : List vw_C} {H : Heap} : va_P D cl [] H := fun k q h => by simp at h
theorem va_D.nil {A : Nat → Prop} : va_D A [] := ⟨fun i j p q h => by simp at h, fun k q h => by simp at h⟩
theorem va_P.left {D : va_G} {cl : List vw_C} {a b : va_W} {H : Heap} (h : va_P D cl (a ++ b) H) : va_P D cl a H := h.by id (fun k q hq => by
  rw [id, List.getElem?_append_left (List.getElem?_eq_some_iff.mp hq).1]; exact hq)
theorem va_P.right {D : va_G} {cl : List vw_C} {a b : va_W} {H : Heap} (h : va_P D cl (a ++ b) H) : va_P D cl b H := h.by (fun k => a.length + k) (fun k q hq => by
  rw [List.getElem?_append_right (Nat.le_add_right _ _), Nat.add_sub_cancel_left]; exact hq)
theorem va_D.left {A : Nat → Prop} {a b : va_W} (h : va_D A (a ++ b)) : va_D A a := h.by id (fun k q hq => by
  rw [id, List.getElem?_append_left (List.getElem?_eq_some_iff.mp hq).1]; exact hq) (fun i j _ _ e => e)
theorem va_D.right {A : Nat → Prop} {a b : va_W} (h : va_D A (a ++ b)) : va_D A b := h.by (fun k => a.length + k) (fun k q hq => by
  rw [List.getElem?_append_right (Nat.le_add_right _ _), Nat.add_sub_cancel_left]; exact hq) (fun i j _ _ e => Nat.add_left_cancel e)
theorem va_P.comm {D : va_G} {cl : List vw_C} {a b : va_W} {H : Heap} (h : va_P D cl (a ++ b) H) : va_P D cl (b ++ a) H := va_P.app h.right h.left
theorem va_D.ne {A : Nat → Prop} {a b : va_W} (h : va_D A (a ++ b)) {i j : Nat} {p q : Nat × va_E} (hi : a[i]? = some p) (hj : b[j]? = some q) : p.1 ≠ q.1 := by
  intro e
  have li := (List.getElem?_eq_some_iff.mp hi).1
  have h1 : (a ++ b)[i]? = some p := by rw [List.getElem?_append_left li]; exact hi
  have h2 : (a ++ b)[a.length + j]? = some q := by rw [List.getElem?_append_right (Nat.le_add_right _ _), Nat.add_sub_cancel_left]; exact hj
  have h3 := h.1 i (a.length + j) p q h1 h2 e
  omega
theorem va_D.comm {A : Nat → Prop} {a b : va_W} (h : va_D A (a ++ b)) : va_D A (b ++ a) := va_D.app h.right h.left (fun i j p q hi hj e => (h.ne hj hi) e.symm)
/-- behind a call that had the part wc -/
theorem wr_join {G : GG} {A : Nat → Prop} {wr wc w1 : va_W} {H H1 : Heap} (hP : va_P G.1 vwCl (wr ++ wc) H) (hD : va_D A (wr ++ wc)) (hF : ∀ q, va_A wc H.size q → A q)
    (hk : ∀ q : Nat, q < H.size → ¬ va_A wc H.size q → H1[q]? = H[q]?) (hP1 : va_P G.1 vwCl w1 H1) (hD1 : va_D (va_A wc H.size) w1) : va_P G.1 vwCl (wr ++ w1) H1 ∧ va_D A (wr ++ w1) := by
  have hr := hP.left
  have ho : ∀ (i : Nat) (p : Nat × va_E), wr[i]? = some p → ¬ va_A wc H.size p.1 := by
    intro i p hi hc
    rcases hc with ⟨k, e, hk⟩ | hs
    · exact hD.ne hi hk rfl
    · exact absurd (va_at.lt (hr i p hi)) (Nat.not_lt.mpr hs)
  refine ⟨va_P.app (hr.kept fun k q hq => hk q.1 (va_at.lt (hr k q hq)) (ho k q hq)) hP1, va_D.app hD.left (hD1.weaken fun _ q _ h => hF q.1 h) fun i j p q hi hj e => ?_⟩
  exact ho i p hi (e ▸ hD1.2 j q hj)
theorem wr_free {A : Nat → Prop} {wr wc : va_W} {H0 H : Heap} {locs : List Loc} (hD : va_D A (wr ++ wc)) (hS : va_S A H0 H locs) (hA : ∀ q, H0.size ≤ q → A q) : ∀ q, va_A wc H.size q → A q := by
  intro q h
  rcases h with ⟨k, e, hk⟩ | h
  · exact hD.right.2 k _ hk
  · exact hA q (Nat.le_trans hS.1 h)
-- contracts
def RdI (l : Launch) (y : MethodName) (ws : List Cond) (rm : Room) (G : GG) (As : List Value) (wc : va_W) (post : Int32 → Prop) : Prop := Met l y ws rm (va_Pc As (fun U => va_P G.1 vwCl wc U.heap ∧ KK G U)) (vp_Si post) 0 0 (fun _ => False)
def RdQ (l : Launch) (y : MethodName) (ws : List Cond) (rm : Room) (G : GG) (As : List Value) (wc : va_W) (post : Option Nat → Prop) : Prop := Met l y ws rm (va_Pc As (fun U => va_P G.1 vwCl wc U.heap ∧ KK G U)) (va_Sq post) 0 0 (fun _ => False)
def wrPre (G : GG) (wc : va_W) (sz : Nat) (U : State) : Prop := U.heap.size = sz ∧ va_P G.1 vwCl wc U.heap ∧ KK G U ∧ SF G (va_A wc sz) U U.heap ∧ va_D (fun _ => True) wc
def wrEnd {S : Type} (G : GG) (A : Nat → Prop) (wf : S → va_W) (u : S) (t : State) : Prop := va_P G.1 vwCl (wf u) t.heap ∧ va_D A (wf u)
def WrI {S : Type} (l : Launch) (y : MethodName) (ws : List Cond) (rm : Room) (G : GG) (As : List Value) (wc : va_W) (post : Int32 → S → Prop) (wf : S → va_W) (mc ms : Nat) : Prop := ∀ sz, Met l y ws rm (va_Pc As (wrPre G wc sz)) (va_Qi post (wrEnd G (va_A wc sz) wf) (va_A wc sz)) mc ms (va_A wc sz)
def WrV {S : Type} (l : Launch) (y : MethodName) (ws : List Cond) (rm : Room) (G : GG) (As : List Value) (wc : va_W) (post : S → Prop) (wf : S → va_W) (mc ms : Nat) : Prop := ∀ sz, Met l y ws rm (va_Pc As (wrPre G wc sz)) (va_Qv post (wrEnd G (va_A wc sz) wf) (va_A wc sz)) mc ms (va_A wc sz)
def WrR {S : Type} (l : Launch) (y : MethodName) (ws : List Cond) (rm : Room) (G : GG) (As : List Value) (wc : va_W) (post : S → Prop) (wf : S → va_W) (ra : S → Nat) (mc ms : Nat) : Prop := ∀ sz, Met l y ws rm (va_Pc As (wrPre G wc sz)) (va_Qr post (fun u a t => a = ra u ∧ wrEnd G (va_A wc sz) wf u t) (va_A wc sz)) mc ms (va_A wc sz)
section BASEC
variable {p : Program} {l : Launch} {e : Env} {R : Room} {s : State} {m : MethodId} {args : Array Value} {below : List Frame} {meth : Method} {c : Code} {H : Heap} {locs : List Loc} {cells slots : Nat} {Q : State → Prop}
variable {cc : ByteArray} {pc nL : Nat} {ls : Array Slot} {rest st0 : List Value} {Ts : List Cond} {own C : String} {index maxL n mc ms : Nat} {y : MethodName} {bytes : ByteArray} {ret : Option FieldType} {wy : List Cond} {rm : Room} {b : Nat} {As : List Value} {G : GG} {wc wr : va_W} {A : Nat → Prop}
theorem rd_blind {As : List Value} : FrameBlind (va_Pc As (fun U => va_P G.1 vwCl wc U.heap ∧ KK G U)) := fun a U g mk q => ⟨q.1, q.2.1, KK.same (u := U) (U := U.calling g mk a) rfl q.2.2⟩
theorem wr_blind {As : List Value} {sz : Nat} : FrameBlind (va_Pc As (wrPre G wc sz)) := fun a U g mk q => by
  obtain ⟨q0, q1, q2, q3, q4, q5⟩ := q
  exact ⟨q0, q1, q2, KK.same (u := U) (U := U.calling g mk a) rfl q3, SF.to (s := U) (U := U.calling g mk a) q4 (fun _ _ _ => rfl) (fun _ h => h) (Vm.Alike.refl U.vm), q5⟩
theorem rdV_i {post : Int32 → Prop} (S : CallFix p m c cc nL s args Ts own) (hM : RdI l y wy rm G (.ref b :: As) wc post) (cw : CallW R s args own C index y bytes maxL ret wy rm 0 0 n) (hK : KK G s) (hP : va_P G.1 vwCl wc H) (ci : Nat) {fs : List Value} {q : vw_C} (he : wc[0]? = some (b, .inr (ci, fs))) (hc : vwCl[ci]? = some q) (hC : q.1 = C)
    (hn : As.length = n) (hsize : ls.size = nL) (hst : st0 = As.reverse ++ .ref b :: rest) (hW : (rest.map fun v => v.category).sum ≤ 8) (hdg : decode cc pc = .ok (.invokevirtual index, 3)) (hf : cells ≤ R.cells ∧ slots ≤ R.slots)
    (kk : ∀ r : Int32, post r → W p l e R s m args below meth c H locs cells slots Q (F0 m (pc + 3) ls (.int r :: rest))) : W p l e R s m args below meth c H locs cells slots Q (F0 m pc ls st0) := by
  subst hC
  exact vp_callSi (va_Run.run (va_runV S hM cw ⟨rd_blind, va_recv hK.1 hP hc he, fun U hU hW => ⟨rfl, by rw [hU]; exact hP, hK.warm hW⟩⟩ rfl hn hsize hst (lv_room hW) hdg hf)) kk
theorem rdV_q {post : Option Nat → Prop} (S : CallFix p m c cc nL s args Ts own) (hM : RdQ l y wy rm G (.ref b :: As) wc post) (cw : CallW R s args own C index y bytes maxL ret wy rm 0 0 n) (hK : KK G s) (hP : va_P G.1 vwCl wc H) (ci : Nat) {fs : List Value} {q : vw_C} (he : wc[0]? = some (b, .inr (ci, fs))) (hc : vwCl[ci]? = some q) (hC : q.1 = C)
    (hn : As.length = n) (hsize : ls.size = nL) (hst : st0 = As.reverse ++ .ref b :: rest) (hW : (rest.map fun v => v.category).sum ≤ 8) (hdg : decode cc pc = .ok (.invokevirtual index, 3)) (hf : cells ≤ R.cells ∧ slots ≤ R.slots)
    (kk : ∀ r : Option Nat, post r → W p l e R s m args below meth c H locs cells slots Q (F0 m (pc + 3) ls (va_rf r :: rest))) : W p l e R s m args below meth c H locs cells slots Q (F0 m pc ls st0) := by
  subst hC
  exact va_csq (va_Run.run (va_runV S hM cw ⟨rd_blind, va_recv hK.1 hP hc he, fun U hU hW => ⟨rfl, by rw [hU]; exact hP, hK.warm hW⟩⟩ rfl hn hsize hst (lv_room hW) hdg hf)) kk
theorem rdS_i {post : Int32 → Prop} (S : CallFix p m c cc nL s args Ts own) (hM : RdI l y wy rm G As wc post) (cw : CallB R s args own index y bytes maxL ret wy rm 0 0 n ∧ (Cond.static y).before args s = true) (hK : KK G s) (hP : va_P G.1 vwCl wc H)
    (hn : As.length = n) (hsize : ls.size = nL) (hst : st0 = As.reverse ++ rest) (hW : (rest.map fun v => v.category).sum ≤ 8) (hdg : decode cc pc = .ok (.invokestatic index, 3)) (hf : cells ≤ R.cells ∧ slots ≤ R.slots)
    (kk : ∀ r : Int32, post r → W p l e R s m args below meth c H locs cells slots Q (F0 m (pc + 3) ls (.int r :: rest))) : W p l e R s m args below meth c H locs cells slots Q (F0 m pc ls st0) :=
  vp_callSi (va_Run.run (va_runS S hM cw ⟨rd_blind, fun U hU hW => ⟨rfl, by rw [hU]; exact hP, hK.warm hW⟩⟩ rfl hn hsize hst (lv_room hW) hdg hf)) kk
theorem rdSN_i {host : String} {post : Int32 → Prop} (S : CallFix p m c cc nL s args Ts own) (hM : RdI l y wy rm G As wc post) (cw : va_CN R s args own index y host bytes maxL ret wy rm 0 0 n ∧ (Cond.static y).before args s = true ∧ True) (hK : KK G s) (hP : va_P G.1 vwCl wc H)
    (hn : As.length = n) (hsize : ls.size = nL) (hst : st0 = As.reverse ++ rest) (hW : (rest.map fun v => v.category).sum ≤ 8) (hdg : decode cc pc = .ok (.invokestatic index, 3)) (hf : cells ≤ R.cells ∧ slots ≤ R.slots)
    (kk : ∀ r : Int32, post r → W p l e R s m args below meth c H locs cells slots Q (F0 m (pc + 3) ls (.int r :: rest))) : W p l e R s m args below meth c H locs cells slots Q (F0 m pc ls st0) :=
  vp_callSi (va_Run.run (va_runSN S hM cw ⟨rd_blind, fun U hU hW => ⟨rfl, by rw [hU]; exact hP, hK.warm hW⟩⟩ rfl hn hsize hst (lv_room hW) hdg hf)) kk
theorem wr_pre (hK : KK G s) (hZ : SF G A s s.heap) (hP : va_P G.1 vwCl (wr ++ wc) H) (hD : va_D A (wr ++ wc)) (hS : va_S A s.heap H locs) (hA : ∀ q, s.heap.size ≤ q → A q) : ∀ U : State, U.heap = H → s.WarmedH U.vm → wrPre G wc H.size U := by
  intro U hU hW
  refine ⟨by rw [hU], by rw [hU]; exact hP.right, hK.warm hW, ?_, hD.right.weaken fun _ _ _ _ => trivial⟩
  rw [hU]
  exact hZ.to hS.2.1 (wr_free hD hS hA) hW.alike
theorem wrV_i {S0 : Type} {post : Int32 → S0 → Prop} {wf : S0 → va_W} (S : CallFix p m c cc nL s args Ts own) (hM : WrI l y wy rm G (.ref b :: As) wc post wf mc ms) (cw : CallW R s args own C index y bytes maxL ret wy rm mc ms n) (hK : KK G s) (hZ : SF G A s s.heap) (hP : va_P G.1 vwCl (wr ++ wc) H) (hD : va_D A (wr ++ wc)) (hS : va_S A s.heap H locs) (hA : ∀ q, s.heap.size ≤ q → A q) (ci : Nat) {fs : List Value} {q : vw_C} (he : wc[0]? = some (b, .inr (ci, fs))) (hc : vwCl[ci]? = some q) (hC : q.1 = C)
    (hn : As.length = n) (hsize : ls.size = nL) (hst : st0 = As.reverse ++ .ref b :: rest) (hW : (rest.map fun v => v.category).sum ≤ 8) (hdg : decode cc pc = .ok (.invokevirtual index, 3)) (hf : cells + mc ≤ R.cells ∧ slots + ms ≤ R.slots)
    (kk : ∀ (r : Int32) (u : S0) (H1 : Heap) (locs1 : List Loc), post r u → va_P G.1 vwCl (wr ++ wf u) H1 → va_D A (wr ++ wf u) → va_S A s.heap H1 locs1 → W p l e R s m args below meth c H1 locs1 (cells + mc) (slots + ms) Q (F0 m (pc + 3) ls (.int r :: rest))) : W p l e R s m args below meth c H locs cells slots Q (F0 m pc ls st0) := by
  subst hC
  have hF := wr_free hD hS hA
  refine va_calli (va_runV S (hM H.size) cw ⟨wr_blind, va_recv hK.1 hP.right hc he, fun U hU hW => ⟨rfl, wr_pre hK hZ hP hD hS hA U hU hW⟩⟩ rfl hn hsize hst (lv_room hW) hdg hf) hS (fun q _ h => hF q h) hF (fun r u t H1 locs1 ht hvm hw hB hz1 hk1 hS1 => ?_)
  obtain ⟨hP1, hD1⟩ := hB
  rw [ht] at hP1
  obtain ⟨hP2, hD2⟩ := wr_join hP hD hF hk1 hP1 hD1
  exact kk r u H1 locs1 hw hP2 hD2 hS1
theorem wrV_raw {S0 : Type} {post : Int32 → S0 → Prop} {wf : S0 → va_W} (S : CallFix p m c cc nL s args Ts own) (hM : WrI l y wy rm G (.ref b :: As) wc post wf mc ms) (cw : CallW R s args own C index y bytes maxL ret wy rm mc ms n) (hK : KK G s) (hZ : SF G A s s.heap) (hP : va_P G.1 vwCl wc H) (hD : va_D A wc) (hS : va_S A s.heap H locs) (hA : ∀ q, s.heap.size ≤ q → A q) (ci : Nat) {fs : List Value} {q : vw_C} (he : wc[0]? = some (b, .inr (ci, fs))) (hc : vwCl[ci]? = some q) (hC : q.1 = C)
    (hn : As.length = n) (hsize : ls.size = nL) (hst : st0 = As.reverse ++ .ref b :: rest) (hW : (rest.map fun v => v.category).sum ≤ 8) (hdg : decode cc pc = .ok (.invokevirtual index, 3)) (hf : cells + mc ≤ R.cells ∧ slots + ms ≤ R.slots)
    (kk : ∀ (r : Int32) (u : S0) (H1 : Heap) (locs1 : List Loc), post r u → va_P G.1 vwCl (wf u) H1 → (∀ q : Nat, q < H.size → ¬ va_A wc H.size q → H1[q]? = H[q]?) → va_S A s.heap H1 locs1 → W p l e R s m args below meth c H1 locs1 (cells + mc) (slots + ms) Q (F0 m (pc + 3) ls (.int r :: rest))) : W p l e R s m args below meth c H locs cells slots Q (F0 m pc ls st0) := by
  subst hC
  have hF := wr_free (wr := []) hD hS hA
  refine va_calli (va_runV S (hM H.size) cw ⟨wr_blind, va_recv hK.1 hP hc he, fun U hU hW => ⟨rfl, wr_pre (wr := []) hK hZ hP hD hS hA U hU hW⟩⟩ rfl hn hsize hst (lv_room hW) hdg hf) hS (fun q _ h => hF q h) hF (fun r u t H1 locs1 ht hvm hw hB hz1 hk1 hS1 => ?_)
  obtain ⟨hP1, hD1⟩ := hB
  rw [ht] at hP1
  exact kk r u H1 locs1 hw hP1 hk1 hS1
theorem wrV_v {S0 : Type} {post : S0 → Prop} {wf : S0 → va_W} (S : CallFix p m c cc nL s args Ts own) (hM : WrV l y wy rm G (.ref b :: As) wc post wf mc ms) (cw : CallW R s args own C index y bytes maxL ret wy rm mc ms n) (hK : KK G s) (hZ : SF G A s s.heap) (hP : va_P G.1 vwCl (wr ++ wc) H) (hD : va_D A (wr ++ wc)) (hS : va_S A s.heap H locs) (hA : ∀ q, s.heap.size ≤ q → A q) (ci : Nat) {fs : List Value} {q : vw_C} (he : wc[0]? = some (b, .inr (ci, fs))) (hc : vwCl[ci]? = some q) (hC : q.1 = C)
    (hn : As.length = n) (hsize : ls.size = nL) (hst : st0 = As.reverse ++ .ref b :: rest) (hW : (rest.map fun v => v.category).sum ≤ 8) (hdg : decode cc pc = .ok (.invokevirtual index, 3)) (hf : cells + mc ≤ R.cells ∧ slots + ms ≤ R.slots)
    (kk : ∀ (u : S0) (H1 : Heap) (locs1 : List Loc), post u → va_P G.1 vwCl (wr ++ wf u) H1 → va_D A (wr ++ wf u) → va_S A s.heap H1 locs1 → W p l e R s m args below meth c H1 locs1 (cells + mc) (slots + ms) Q (F0 m (pc + 3) ls rest)) : W p l e R s m args below meth c H locs cells slots Q (F0 m pc ls st0) := by
  subst hC
  have hF := wr_free hD hS hA
  refine va_callv (va_runV S (hM H.size) cw ⟨wr_blind, va_recv hK.1 hP.right hc he, fun U hU hW => ⟨rfl, wr_pre hK hZ hP hD hS hA U hU hW⟩⟩ rfl hn hsize hst (lv_room hW) hdg hf) hS (fun q _ h => hF q h) hF (fun u t H1 locs1 ht hvm hw hB hz1 hk1 hS1 => ?_)
  obtain ⟨hP1, hD1⟩ := hB
  rw [ht] at hP1
  obtain ⟨hP2, hD2⟩ := wr_join hP hD hF hk1 hP1 hD1
  exact kk u H1 locs1 hw hP2 hD2 hS1
theorem wrV_r {S0 : Type} {post : S0 → Prop} {wf : S0 → va_W} {ra : S0 → Nat} (S : CallFix p m c cc nL s args Ts own) (hM : WrR l y wy rm G (.ref b :: As) wc post wf ra mc ms) (cw : CallW R s args own C index y bytes maxL ret wy rm mc ms n) (hK : KK G s) (hZ : SF G A s s.heap) (hP : va_P G.1 vwCl (wr ++ wc) H) (hD : va_D A (wr ++ wc)) (hS : va_S A s.heap H locs) (hA : ∀ q, s.heap.size ≤ q → A q) (ci : Nat) {fs : List Value} {q : vw_C} (he : wc[0]? = some (b, .inr (ci, fs))) (hc : vwCl[ci]? = some q) (hC : q.1 = C)
    (hn : As.length = n) (hsize : ls.size = nL) (hst : st0 = As.reverse ++ .ref b :: rest) (hW : (rest.map fun v => v.category).sum ≤ 8) (hdg : decode cc pc = .ok (.invokevirtual index, 3)) (hf : cells + mc ≤ R.cells ∧ slots + ms ≤ R.slots)
    (kk : ∀ (u : S0) (H1 : Heap) (locs1 : List Loc), post u → va_P G.1 vwCl (wr ++ wf u) H1 → va_D A (wr ++ wf u) → va_S A s.heap H1 locs1 → W p l e R s m args below meth c H1 locs1 (cells + mc) (slots + ms) Q (F0 m (pc + 3) ls (.ref (ra u) :: rest))) : W p l e R s m args below meth c H locs cells slots Q (F0 m pc ls st0) := by
  subst hC
  have hF := wr_free hD hS hA
  refine va_callr (va_runV S (hM H.size) cw ⟨wr_blind, va_recv hK.1 hP.right hc he, fun U hU hW => ⟨rfl, wr_pre hK hZ hP hD hS hA U hU hW⟩⟩ rfl hn hsize hst (lv_room hW) hdg hf) hS (fun q _ h => hF q h) hF (fun u a t H1 locs1 ht hvm hw hB hz1 hk1 hS1 => ?_)
  obtain ⟨ea, hP1, hD1⟩ := hB
  subst ea
  rw [ht] at hP1
  obtain ⟨hP2, hD2⟩ := wr_join hP hD hF hk1 hP1 hD1
  exact kk u H1 locs1 hw hP2 hD2 hS1
theorem wrS_r {S0 : Type} {post : S0 → Prop} {wf : S0 → va_W} {ra : S0 → Nat} (S : CallFix p m c cc nL s args Ts own) (hM : WrR l y wy rm G As wc post wf ra mc ms) (cw : CallB R s args own index y bytes maxL ret wy rm mc ms n ∧ (Cond.static y).before args s = true) (hK : KK G s) (hZ : SF G A s s.heap) (hP : va_P G.1 vwCl (wr ++ wc) H) (hD : va_D A (wr ++ wc)) (hS : va_S A s.heap H locs) (hA : ∀ q, s.heap.size ≤ q → A q)
    (hn : As.length = n) (hsize : ls.size = nL) (hst : st0 = As.reverse ++ rest) (hW : (rest.map fun v => v.category).sum ≤ 8) (hdg : decode cc pc = .ok (.invokestatic index, 3)) (hf : cells + mc ≤ R.cells ∧ slots + ms ≤ R.slots)
    (kk : ∀ (u : S0) (H1 : Heap) (locs1 : List Loc), post u → va_P G.1 vwCl (wr ++ wf u) H1 → va_D A (wr ++ wf u) → va_S A s.heap H1 locs1 → W p l e R s m args below meth c H1 locs1 (cells + mc) (slots + ms) Q (F0 m (pc + 3) ls (.ref (ra u) :: rest))) : W p l e R s m args below meth c H locs cells slots Q (F0 m pc ls st0) := by
  have hF := wr_free hD hS hA
  refine va_callr (va_runS S (hM H.size) cw ⟨wr_blind, fun U hU hW => ⟨rfl, wr_pre hK hZ hP hD hS hA U hU hW⟩⟩ rfl hn hsize hst (lv_room hW) hdg hf) hS (fun q _ h => hF q h) hF (fun u a t H1 locs1 ht hvm hw hB hz1 hk1 hS1 => ?_)
  obtain ⟨ea, hP1, hD1⟩ := hB
  subst ea
  rw [ht] at hP1
  obtain ⟨hP2, hD2⟩ := wr_join hP hD hF hk1 hP1 hD1
  exact kk u H1 locs1 hw hP2 hD2 hS1
theorem wrI_v {S0 : Type} {post : S0 → Prop} {wf : S0 → va_W} (S : CallFix p m c cc nL s args Ts own) (hM : WrV l y wy rm G (.ref b :: As) wc post wf mc ms) (cw : CallB R s args own index y bytes maxL none wy rm mc ms n ∧ y.name = "<init>" ∧ (Cond.instanceMethod y).before args s = true) (hK : KK G s) (hZ : SF G A s s.heap) (hP : va_P G.1 vwCl (wr ++ wc) H) (hD : va_D A (wr ++ wc)) (hS : va_S A s.heap H locs) (hA : ∀ q, s.heap.size ≤ q → A q)
    (hn : As.length = n) (hsize : ls.size = nL) (hst : st0 = As.reverse ++ .ref b :: rest) (hW : (rest.map fun v => v.category).sum ≤ 8) (hdg : decode cc pc = .ok (.invokespecial index, 3)) (hf : cells + mc ≤ R.cells ∧ slots + ms ≤ R.slots)
    (kk : ∀ (u : S0) (H1 : Heap) (locs1 : List Loc), post u → va_P G.1 vwCl (wr ++ wf u) H1 → va_D A (wr ++ wf u) → va_S A s.heap H1 locs1 → W p l e R s m args below meth c H1 locs1 (cells + mc) (slots + ms) Q (F0 m (pc + 3) ls rest)) : W p l e R s m args below meth c H locs cells slots Q (F0 m pc ls st0) := by
  have hF := wr_free hD hS hA
  refine va_callv (va_runI S (hM H.size) cw ⟨wr_blind, fun U hU hW => ⟨rfl, wr_pre hK hZ hP hD hS hA U hU hW⟩⟩ rfl hn hsize hst (lv_room hW) hdg hf) hS (fun q _ h => hF q h) hF (fun u t H1 locs1 ht hvm hw hB hz1 hk1 hS1 => ?_)
  obtain ⟨hP1, hD1⟩ := hB
  rw [ht] at hP1
  obtain ⟨hP2, hD2⟩ := wr_join hP hD hF hk1 hP1 hD1
  exact kk u H1 locs1 hw hP2 hD2 hS1
-- the entries
theorem ent_ls (h : (lg_sl As).length ≤ maxL) {k : JFrame → Prop} (kk : ∀ ls : Array Slot, lv_has ls maxL (lv_args 0 As) → k (F0 m 0 ls [])) : k (entryFrame m As.toArray maxL) := by
  rw [lg_entry_eq]
  exact kk _ (lv_entry As h)
theorem rd_of_i {ws' : List Cond} {post : Int32 → Prop} {t : FieldType} (hy : plainName y.cls = true) (hw : wy = Cond.code y cc maxL (some t) :: ws') (hlen : (lg_sl As).length ≤ maxL) (ht : ∀ v : Int32, (v = 0 ∨ v = 1 ∨ t = .int) → narrow t (.int v) = .int v)
    (body : ∀ (p : Program) (e : Env) (s : State) (m : MethodId) (args : Array Value) (below : List Frame) (meth : Method) (c : Code) (Q : State → Prop), p.tables.exec = Jvm.exec → c.code = cc → c.maxLocals = maxL → s.vm.findClass y.cls = some m.cls → (∀ w ∈ wy, w.before args s = true) → va_P G.1 vwCl wc s.heap → KK G s →
      (∀ (pc : Nat) (ls : Array Slot) (v : Int32), decode cc pc = .ok (.ireturn, 1) → (v = 0 ∨ v = 1 ∨ t = .int) → post v → W p l e rm s m args below meth c s.heap [] 0 0 Q (F0 m pc ls [.int v])) →
      ∀ ls : Array Slot, lv_has ls maxL (lv_args 0 As) → W p l e rm s m args below meth c s.heap [] 0 0 Q (F0 m 0 ls [])) : RdI l y wy rm G As wc post := by
  refine Met.ofW (cc := cc) (maxL := maxL) (ret := some t) hy hw ?_
  intro p e s m args below meth c s₁ B hml hv
  obtain ⟨rfl, hP, hK⟩ := hv
  refine ent_ls (k := fun g => W p l e rm s m As.toArray below meth c s.heap [] 0 0 (MQ below (vp_Si post) As.toArray s 0 0 (fun _ => False)) g) hlen (fun ls hl => ?_)
  refine body p e s m As.toArray below meth c _ B.exec B.bytes hml (findClass_of_methodNamed B.named) (atoms_spec (ws := wy) B.pre) hP hK (fun pc ls v hd hv hp => ?_) ls hl
  exact W.zret B.exec B.bytes B.returns (ht v hv) (fun t ht hW => ⟨v, rfl, hp, ht⟩) (fun q h => (List.not_mem_nil h).elim) hd B.notSynchronized
theorem rd_of_q {ws' : List Cond} {post : Option Nat → Prop} {t : String} (hy : plainName y.cls = true) (hw : wy = Cond.code y cc maxL (some (.object t)) :: ws') (hlen : (lg_sl As).length ≤ maxL)
    (body : ∀ (p : Program) (e : Env) (s : State) (m : MethodId) (args : Array Value) (below : List Frame) (meth : Method) (c : Code) (Q : State → Prop), p.tables.exec = Jvm.exec → c.code = cc → c.maxLocals = maxL → s.vm.findClass y.cls = some m.cls → (∀ w ∈ wy, w.before args s = true) → va_P G.1 vwCl wc s.heap → KK G s →
      (∀ (pc : Nat) (ls : Array Slot) (r : Option Nat) (v : Value), decode cc pc = .ok (.areturn, 1) → v = va_rf r → post r → W p l e rm s m args below meth c s.heap [] 0 0 Q (F0 m pc ls [v])) →
      ∀ ls : Array Slot, lv_has ls maxL (lv_args 0 As) → W p l e rm s m args below meth c s.heap [] 0 0 Q (F0 m 0 ls [])) : RdQ l y wy rm G As wc post := by
  refine Met.ofW (cc := cc) (maxL := maxL) (ret := some (.object t)) hy hw ?_
  intro p e s m args below meth c s₁ B hml hv
  obtain ⟨rfl, hP, hK⟩ := hv
  refine ent_ls (k := fun g => W p l e rm s m As.toArray below meth c s.heap [] 0 0 (MQ below (va_Sq post) As.toArray s 0 0 (fun _ => False)) g) hlen (fun ls hl => ?_)
  refine body p e s m As.toArray below meth c _ B.exec B.bytes hml (findClass_of_methodNamed B.named) (atoms_spec (ws := wy) B.pre) hP hK (fun pc ls r v hd ev hp => ?_) ls hl
  subst ev
  exact W.aret B.exec B.bytes B.returns (Or.inl ⟨_, rfl⟩) (va_rf_or r) (fun t ht hW => ⟨r, rfl, hp, ht⟩) (fun q h => (List.not_mem_nil h).elim) hd B.notSynchronized
theorem wr_of_i {ws' : List Cond} {S0 : Type} {post : Int32 → S0 → Prop} {wf : S0 → va_W} {t : FieldType} (hy : plainName y.cls = true) (hw : wy = Cond.code y cc maxL (some t) :: ws') (hlen : (lg_sl As).length ≤ maxL) (ht : ∀ v : Int32, (v = 0 ∨ v = 1 ∨ t = .int) → narrow t (.int v) = .int v)
    (body : ∀ (p : Program) (e : Env) (s : State) (m : MethodId) (args : Array Value) (below : List Frame) (meth : Method) (c : Code) (Q : State → Prop) (A : Nat → Prop), p.tables.exec = Jvm.exec → c.code = cc → c.maxLocals = maxL → s.vm.findClass y.cls = some m.cls → (∀ w ∈ wy, w.before args s = true) → KK G s → SF G A s s.heap → (∀ q, s.heap.size ≤ q → A q) →
      (∀ (pc : Nat) (ls : Array Slot) (v : Int32) (H : Heap) (locs : List Loc) (cells slots : Nat) (u : S0), decode cc pc = .ok (.ireturn, 1) → (v = 0 ∨ v = 1 ∨ t = .int) → post v u → va_P G.1 vwCl (wf u) H → va_D A (wf u) → va_S A s.heap H locs → cells ≤ mc → slots ≤ ms → W p l e rm s m args below meth c H locs cells slots Q (F0 m pc ls [.int v])) →
      ∀ (ls : Array Slot), lv_has ls maxL (lv_args 0 As) → va_P G.1 vwCl wc s.heap → va_D A wc → va_S A s.heap s.heap [] → W p l e rm s m args below meth c s.heap [] 0 0 Q (F0 m 0 ls [])) : WrI l y wy rm G As wc post wf mc ms := by
  intro sz
  refine Met.ofW (cc := cc) (maxL := maxL) (ret := some t) hy hw ?_
  intro p e s m args below meth c s₁ B hml hv
  obtain ⟨rfl, hsz, hP, hK, hZ, hD⟩ := hv
  subst hsz
  refine ent_ls (k := fun g => W p l e rm s m As.toArray below meth c s.heap [] 0 0 (MQ below (va_Qi post (wrEnd G (va_A wc s.heap.size) wf) (va_A wc s.heap.size)) As.toArray s mc ms (va_A wc s.heap.size)) g) hlen (fun ls hl => ?_)
  refine body p e s m As.toArray below meth c _ (va_A wc s.heap.size) B.exec B.bytes hml (findClass_of_methodNamed B.named) (atoms_spec (ws := wy) B.pre) hK hZ (fun q h => Or.inr h) (fun pc ls v H locs cells slots u hd hv hp hP hD hS h1 h2 => ?_) ls hl hP hD.self va_S.rf
  refine W.widen h1 h2 ?_
  exact W.zret B.exec B.bytes B.returns (ht v hv) (fun t ht hW => ⟨⟨v, u, rfl, hp, by rw [ht]; exact hP, hD⟩, hS.F ht⟩) hS.2.2 hd B.notSynchronized
theorem wr_of_v {ws' : List Cond} {S0 : Type} {post : S0 → Prop} {wf : S0 → va_W} (hy : plainName y.cls = true) (hw : wy = Cond.code y cc maxL none :: ws') (hlen : (lg_sl As).length ≤ maxL)
    (body : ∀ (p : Program) (e : Env) (s : State) (m : MethodId) (args : Array Value) (below : List Frame) (meth : Method) (c : Code) (Q : State → Prop) (A : Nat → Prop), p.tables.exec = Jvm.exec → c.code = cc → c.maxLocals = maxL → s.vm.findClass y.cls = some m.cls → (∀ w ∈ wy, w.before args s = true) → KK G s → SF G A s s.heap → (∀ q, s.heap.size ≤ q → A q) → meth.name = y.name →
      (∀ (pc : Nat) (ls : Array Slot) (H : Heap) (locs : List Loc) (cells slots : Nat) (u : S0), decode cc pc = .ok (.return_, 1) → post u → va_P G.1 vwCl (wf u) H → va_D A (wf u) → va_S A s.heap H locs → cells ≤ mc → slots ≤ ms → W p l e rm s m args below meth c H locs cells slots Q (F0 m pc ls [])) →
      ∀ (ls : Array Slot), lv_has ls maxL (lv_args 0 As) → va_P G.1 vwCl wc s.heap → va_D A wc → va_S A s.heap s.heap [] → W p l e rm s m args below meth c s.heap [] 0 0 Q (F0 m 0 ls [])) : WrV l y wy rm G As wc post wf mc ms := by
  intro sz
  refine Met.ofW (cc := cc) (maxL := maxL) (ret := none) hy hw ?_
  intro p e s m args below meth c s₁ B hml hv
  obtain ⟨rfl, hsz, hP, hK, hZ, hD⟩ := hv
  subst hsz
  refine ent_ls (k := fun g => W p l e rm s m As.toArray below meth c s.heap [] 0 0 (MQ below (va_Qv post (wrEnd G (va_A wc s.heap.size) wf) (va_A wc s.heap.size)) As.toArray s mc ms (va_A wc s.heap.size)) g) hlen (fun ls hl => ?_)
  refine body p e s m As.toArray below meth c _ (va_A wc s.heap.size) B.exec B.bytes hml (findClass_of_methodNamed B.named) (atoms_spec (ws := wy) B.pre) hK hZ (fun q h => Or.inr h) (name_of_methodNamed B.named B.method).1 (fun pc ls H locs cells slots u hd hp hP hD hS h1 h2 => ?_) ls hl hP hD.self va_S.rf
  refine W.widen h1 h2 ?_
  exact W.vret B.exec B.bytes B.returns (fun t ht hW => ⟨⟨u, rfl, hp, by rw [ht]; exact hP, hD⟩, hS.F ht⟩) hS.2.2 hd B.notSynchronized
theorem wr_of_r {ws' : List Cond} {S0 : Type} {post : S0 → Prop} {wf : S0 → va_W} {ra : S0 → Nat} {t : FieldType} (hy : plainName y.cls = true) (hw : wy = Cond.code y cc maxL (some (.array t)) :: ws') (hlen : (lg_sl As).length ≤ maxL)
    (body : ∀ (p : Program) (e : Env) (s : State) (m : MethodId) (args : Array Value) (below : List Frame) (meth : Method) (c : Code) (Q : State → Prop) (A : Nat → Prop), p.tables.exec = Jvm.exec → c.code = cc → c.maxLocals = maxL → s.vm.findClass y.cls = some m.cls → (∀ w ∈ wy, w.before args s = true) → KK G s → SF G A s s.heap → (∀ q, s.heap.size ≤ q → A q) →
      (∀ (pc : Nat) (ls : Array Slot) (v : Value) (H : Heap) (locs : List Loc) (cells slots : Nat) (u : S0), decode cc pc = .ok (.areturn, 1) → v = .ref (ra u) → post u → va_P G.1 vwCl (wf u) H → va_D A (wf u) → va_S A s.heap H locs → cells ≤ mc → slots ≤ ms → W p l e rm s m args below meth c H locs cells slots Q (F0 m pc ls [v])) →
      ∀ (ls : Array Slot), lv_has ls maxL (lv_args 0 As) → va_P G.1 vwCl wc s.heap → va_D A wc → va_S A s.heap s.heap [] → W p l e rm s m args below meth c s.heap [] 0 0 Q (F0 m 0 ls [])) : WrR l y wy rm G As wc post wf ra mc ms := by
  intro sz
  refine Met.ofW (cc := cc) (maxL := maxL) (ret := some (.array t)) hy hw ?_
  intro p e s m args below meth c s₁ B hml hv
  obtain ⟨rfl, hsz, hP, hK, hZ, hD⟩ := hv
  subst hsz
  refine ent_ls (k := fun g => W p l e rm s m As.toArray below meth c s.heap [] 0 0 (MQ below (va_Qr post (fun u a t => a = ra u ∧ wrEnd G (va_A wc s.heap.size) wf u t) (va_A wc s.heap.size)) As.toArray s mc ms (va_A wc s.heap.size)) g) hlen (fun ls hl => ?_)
  refine body p e s m As.toArray below meth c _ (va_A wc s.heap.size) B.exec B.bytes hml (findClass_of_methodNamed B.named) (atoms_spec (ws := wy) B.pre) hK hZ (fun q h => Or.inr h) (fun pc ls v H locs cells slots u hd ev hp hP hD hS h1 h2 => ?_) ls hl hP hD.self va_S.rf
  subst ev
  refine W.widen h1 h2 ?_
  exact W.aret B.exec B.bytes B.returns (Or.inr ⟨_, rfl⟩) (Or.inr ⟨_, rfl⟩) (fun t ht hW => ⟨⟨u, ra u, rfl, hp, rfl, by rw [ht]; exact hP, hD⟩, hS.F ht⟩) hS.2.2 hd B.notSynchronized
-- a comparison of longs and its branch
theorem lc_lt (hx : p.tables.exec = Jvm.exec) (hb : c.code = cc) {x y : Int64} {off : Int} {tgt : Nat} (h1 : decode cc pc = .ok (.lcmp, 1)) (h2 : decode cc (pc + 1) = .ok (.ifCond .lt off, 3)) (ht : ((pc + 1 : Nat) : Int) + off = (tgt : Int))
    (kt : x < y → W p l e R s m args below meth c H locs cells slots Q (F0 m tgt ls rest)) (kf : ¬ x < y → W p l e R s m args below meth c H locs cells slots Q (F0 m (pc + 1 + 3) ls rest)) : W p l e R s m args below meth c H locs cells slots Q (F0 m pc ls (.long y :: .long x :: rest)) :=
  W.lcmp hx hb h1 (lv_if_lt hx hb h2 ht (fun c => kt ((lg_cmp_lt x y).mp c)) (fun c => kf (mt (lg_cmp_lt x y).mpr c)))
theorem lc_le (hx : p.tables.exec = Jvm.exec) (hb : c.code = cc) {x y : Int64} {off : Int} {tgt : Nat} (h1 : decode cc pc = .ok (.lcmp, 1)) (h2 : decode cc (pc + 1) = .ok (.ifCond .le off, 3)) (ht : ((pc + 1 : Nat) : Int) + off = (tgt : Int))
    (kt : x ≤ y → W p l e R s m args below meth c H locs cells slots Q (F0 m tgt ls rest)) (kf : ¬ x ≤ y → W p l e R s m args below meth c H locs cells slots Q (F0 m (pc + 1 + 3) ls rest)) : W p l e R s m args below meth c H locs cells slots Q (F0 m pc ls (.long y :: .long x :: rest)) :=
  W.lcmp hx hb h1 (lv_if_le hx hb h2 ht (fun c => kt ((lg_cmp_le x y).mp c)) (fun c => kf (mt (lg_cmp_le x y).mpr c)))
theorem lc_gt (hx : p.tables.exec = Jvm.exec) (hb : c.code = cc) {x y : Int64} {off : Int} {tgt : Nat} (h1 : decode cc pc = .ok (.lcmp, 1)) (h2 : decode cc (pc + 1) = .ok (.ifCond .gt off, 3)) (ht : ((pc + 1 : Nat) : Int) + off = (tgt : Int))
    (kt : y < x → W p l e R s m args below meth c H locs cells slots Q (F0 m tgt ls rest)) (kf : ¬ y < x → W p l e R s m args below meth c H locs cells slots Q (F0 m (pc + 1 + 3) ls rest)) : W p l e R s m args below meth c H locs cells slots Q (F0 m pc ls (.long y :: .long x :: rest)) :=
  W.lcmp hx hb h1 (lv_if_gt hx hb h2 ht (fun c => kt ((lg_cmp_gt x y).mp c)) (fun c => kf (mt (lg_cmp_gt x y).mpr c)))
theorem lc_ge (hx : p.tables.exec = Jvm.exec) (hb : c.code = cc) {x y : Int64} {off : Int} {tgt : Nat} (h1 : decode cc pc = .ok (.lcmp, 1)) (h2 : decode cc (pc + 1) = .ok (.ifCond .ge off, 3)) (ht : ((pc + 1 : Nat) : Int) + off = (tgt : Int))
    (kt : y ≤ x → W p l e R s m args below meth c H locs cells slots Q (F0 m tgt ls rest)) (kf : ¬ y ≤ x → W p l e R s m args below meth c H locs cells slots Q (F0 m (pc + 1 + 3) ls rest)) : W p l e R s m args below meth c H locs cells slots Q (F0 m pc ls (.long y :: .long x :: rest)) :=
  W.lcmp hx hb h1 (lv_if_ge hx hb h2 ht (fun c => kt ((lg_cmp_ge x y).mp c)) (fun c => kf (mt (lg_cmp_ge x y).mpr c)))
theorem lc_eq (hx : p.tables.exec = Jvm.exec) (hb : c.code = cc) {x y : Int64} {off : Int} {tgt : Nat} (h1 : decode cc pc = .ok (.lcmp, 1)) (h2 : decode cc (pc + 1) = .ok (.ifCond .eq off, 3)) (ht : ((pc + 1 : Nat) : Int) + off = (tgt : Int))
    (kt : x = y → W p l e R s m args below meth c H locs cells slots Q (F0 m tgt ls rest)) (kf : ¬ x = y → W p l e R s m args below meth c H locs cells slots Q (F0 m (pc + 1 + 3) ls rest)) : W p l e R s m args below meth c H locs cells slots Q (F0 m pc ls (.long y :: .long x :: rest)) :=
  W.lcmp hx hb h1 (lv_if_eq hx hb h2 ht (fun c => kt ((lg_cmp_eq x y).mp c)) (fun c => kf (mt (lg_cmp_eq x y).mpr c)))
theorem lc_ne (hx : p.tables.exec = Jvm.exec) (hb : c.code = cc) {x y : Int64} {off : Int} {tgt : Nat} (h1 : decode cc pc = .ok (.lcmp, 1)) (h2 : decode cc (pc + 1) = .ok (.ifCond .ne off, 3)) (ht : ((pc + 1 : Nat) : Int) + off = (tgt : Int))
    (kt : ¬ x = y → W p l e R s m args below meth c H locs cells slots Q (F0 m tgt ls rest)) (kf : x = y → W p l e R s m args below meth c H locs cells slots Q (F0 m (pc + 1 + 3) ls rest)) : W p l e R s m args below meth c H locs cells slots Q (F0 m pc ls (.long y :: .long x :: rest)) :=
  W.lcmp hx hb h1 (lv_if_ne hx hb h2 ht (fun c => kt (mt (lg_cmp_eq x y).mpr c)) (fun c => kf ((lg_cmp_eq x y).mp c)))
end BASEC
-- facts of ints as whole numbers
theorem ti_lt {x y : Int32} {a b : Int} (ha : x.toInt = a) (hb : y.toInt = b) : x < y ↔ a < b := by rw [fa_lt, ha, hb]
theorem ti_le {x y : Int32} {a b : Int} (ha : x.toInt = a) (hb : y.toInt = b) : x ≤ y ↔ a ≤ b := by rw [fa_le, ha, hb]
theorem ti_eq {x y : Int32} {a b : Int} (ha : x.toInt = a) (hb : y.toInt = b) : x = y ↔ a = b := by rw [fa_eq, ha, hb]
theorem tl_lt {x y : Int64} {a b : Int} (ha : x.toInt = a) (hb : y.toInt = b) : x < y ↔ a < b := by rw [fa_lt64, ha, hb]
theorem tl_le {x y : Int64} {a b : Int} (ha : x.toInt = a) (hb : y.toInt = b) : x ≤ y ↔ a ≤ b := by rw [fa_le64, ha, hb]
theorem tl_eq {x y : Int64} {a b : Int} (ha : x.toInt = a) (hb : y.toInt = b) : x = y ↔ a = b := by rw [fa_eq64, ha, hb]
theorem nar_int (v : Int32) (_ : v = 0 ∨ v = 1 ∨ FieldType.int = .int) : narrow .int (.int v) = .int v := rfl
theorem nar_bool (v : Int32) (h : v = 0 ∨ v = 1 ∨ FieldType.boolean = .int) : narrow .boolean (.int v) = .int v := by
  rcases h with rfl | rfl | h
  · rfl
  · rfl
  · cases h
end
section
/-! what a state of the system is: numbers; and what each call answers, as functions of it -/
abbrev Ord : Type := Int32 × Int32 × Int32 × Int32 × Int64 × Int64 × Int64 × Int64 × Int32
abbrev oK (o : Ord) : Int32 := o.1
abbrev oE (o : Ord) : Int32 := o.2.1
abbrev oW (o : Ord) : Int32 := o.2.2.1
abbrev oT (o : Ord) : Int32 := o.2.2.2.1
abbrev oF (o : Ord) : Int64 := o.2.2.2.2.1
abbrev oM (o : Ord) : Int64 := o.2.2.2.2.2.1
abbrev oU (o : Ord) : Int64 := o.2.2.2.2.2.2.1
abbrev oX (o : Ord) : Int64 := o.2.2.2.2.2.2.2.1
abbrev oP (o : Ord) : Int32 := o.2.2.2.2.2.2.2.2
abbrev oSU (o : Ord) (u : Int64) : Ord := (o.1, o.2.1, o.2.2.1, o.2.2.2.1, o.2.2.2.2.1, o.2.2.2.2.2.1, u, o.2.2.2.2.2.2.2.1, o.2.2.2.2.2.2.2.2)
abbrev oSX (o : Ord) (x : Int64) : Ord := (o.1, o.2.1, o.2.2.1, o.2.2.2.1, o.2.2.2.2.1, o.2.2.2.2.2.1, o.2.2.2.2.2.2.1, x, o.2.2.2.2.2.2.2.2)
abbrev oSP (o : Ord) (p : Int32) : Ord := (o.1, o.2.1, o.2.2.1, o.2.2.2.1, o.2.2.2.2.1, o.2.2.2.2.2.1, o.2.2.2.2.2.2.1, o.2.2.2.2.2.2.2.1, p)
abbrev fl (o : Ord) : List Value := [.int o.1, .int o.2.1, .int o.2.2.1, .int o.2.2.2.1, .long o.2.2.2.2.1, .long o.2.2.2.2.2.1, .long o.2.2.2.2.2.2.1, .long o.2.2.2.2.2.2.2.1, .int o.2.2.2.2.2.2.2.2]
def pO (oa : Nat → Nat) (od : Nat → Ord) (n : Nat) : va_W := (List.range n).map (fun i => (oa i, .inr (1, fl (od i))))
theorem pO_get {oa : Nat → Nat} {od : Nat → Ord} {n i : Nat} (h : i < n) : (pO oa od n)[i]? = some (oa i, .inr (1, fl (od i))) := by simp [pO, h]
theorem pO_len {oa : Nat → Nat} {od : Nat → Ord} {n : Nat} : (pO oa od n).length = n := by simp [pO]
theorem pO_cong {oa oa' : Nat → Nat} {od od' : Nat → Ord} {n : Nat} (h1 : ∀ i, i < n → oa i = oa' i) (h2 : ∀ i, i < n → od i = od' i) : pO oa od n = pO oa' od' n := by
  unfold pO
  refine List.map_congr_left fun i hi => ?_
  rw [h1 i (List.mem_range.mp hi), h2 i (List.mem_range.mp hi)]
theorem pO_set {oa : Nat → Nat} {od : Nat → Ord} {n i : Nat} (h : i < n) (o : Ord) : (pO oa od n).set i (oa i, .inr (1, fl o)) = pO oa (va_up od i o) n := by
  refine List.ext_getElem? fun j => ?_
  rw [List.getElem?_set]
  by_cases e : i = j
  · subst e
    rw [if_pos rfl, if_pos (by rw [pO_len]; exact h), pO_get h, va_up_self]
  · rw [if_neg e]
    by_cases hj : j < n
    · rw [pO_get hj, pO_get hj, va_up_ne _ _ (Ne.symm e)]
    · rw [List.getElem?_eq_none (by rw [pO_len]; omega), List.getElem?_eq_none (by rw [pO_len]; omega)]
theorem pO_push {oa : Nat → Nat} {od : Nat → Ord} {n q : Nat} {o : Ord} : pO oa od n ++ [(q, .inr (1, fl o))] = pO (va_up oa n q) (va_up od n o) (n + 1) := by
  have e : pO oa od n = pO (va_up oa n q) (va_up od n o) n := pO_cong (fun i hi => (va_up_ne _ _ (Nat.ne_of_lt hi)).symm) (fun i hi => (va_up_ne _ _ (Nat.ne_of_lt hi)).symm)
  rw [e]
  unfold pO
  rw [List.range_succ, List.map_append, List.map_cons, List.map_nil, va_up_self, va_up_self]
/-- the class's addresses: itself, its list, ranks, path, ring -/
abbrev AD : Type := Nat × Nat × Nat × Nat × Nat
def CW (G : GG) (a : AD) (rl : Int32) (now : Int64) (rk pa rg : Nat → Int32) (pl L : va_W) : va_W := (a.1, .inr (2, [.ref a.2.1, .ref a.2.2.1, .ref a.2.2.2.1, .ref a.2.2.2.2, .int rl, .long now])) :: aI G a.2.2.1 9 rk :: aI G a.2.2.2.1 100 pa :: aI G a.2.2.2.2 100 rg :: (pl ++ L)
def LW (G : GG) (h : Nat) (md : Int32) (a2 N : Nat) (f : Nat → Option Nat) (n : Nat) : va_W := (h, .inr (0, [.int md, if n = 0 then .ref (gS G) else .ref a2, .int (nI n)])) :: (if n = 0 then [] else [aO G a2 N f])
theorem CW_get {G : GG} {a : AD} {rl : Int32} {now : Int64} {rk pa rg : Nat → Int32} {oa : Nat → Nat} {od : Nat → Ord} {n : Nat} {L : va_W} {i : Nat} (hi : i < n) : (CW G a rl now rk pa rg (pO oa od n) L)[i + 4]? = some (oa i, .inr (1, fl (od i))) := by
  show (pO oa od n ++ L)[i]? = _
  rw [List.getElem?_append_left (by rw [pO_len]; exact hi)]
  exact pO_get hi
theorem CW_set {G : GG} {a : AD} {rl : Int32} {now : Int64} {rk pa rg : Nat → Int32} {oa : Nat → Nat} {od : Nat → Ord} {n : Nat} {L : va_W} {i : Nat} (hi : i < n) (o : Ord) : (CW G a rl now rk pa rg (pO oa od n) L).set (i + 4) (oa i, .inr (1, fl o)) = CW G a rl now rk pa rg (pO oa (va_up od i o) n) L := by
  show _ :: _ :: _ :: _ :: (pO oa od n ++ L).set i _ = _
  rw [List.set_append_left _ _ (by rw [pO_len]; exact hi), pO_set hi]
  rfl
theorem CW_list {G : GG} {a : AD} {rl : Int32} {now : Int64} {rk pa rg : Nat → Int32} {pl L : va_W} {H : Heap} (h : va_P G.1 vwCl (CW G a rl now rk pa rg pl L) H) : va_P G.1 vwCl L H := va_P.right (a := _ :: _ :: _ :: _ :: pl) h
theorem CW_ord {G : GG} {a : AD} {rl : Int32} {now : Int64} {rk pa rg : Nat → Int32} {oa : Nat → Nat} {od : Nat → Ord} {n : Nat} {L : va_W} {H : Heap} {i : Nat} (h : va_P G.1 vwCl (CW G a rl now rk pa rg (pO oa od n) L) H) (hi : i < n) : va_P G.1 vwCl [(oa i, .inr (1, fl (od i)))] H :=
  h.sub [i + 4] (by rw [List.filterMap_cons, CW_get hi]; rfl)
theorem LW_one {G : GG} {h : Nat} {md : Int32} {a2 N : Nat} {f : Nat → Option Nat} {n : Nat} {H : Heap} (hP : va_P G.1 vwCl (LW G h md a2 N f n) H) : va_P G.1 vwCl [(h, .inr (0, [.int md, if n = 0 then .ref (gS G) else .ref a2, .int (nI n)]))] H := hP.sub [0] rfl
theorem LW_pos {G : GG} {h : Nat} {md : Int32} {a2 N : Nat} {f : Nat → Option Nat} {n : Nat} (hn : n ≠ 0) : LW G h md a2 N f n = [(h, .inr (0, [.int md, .ref a2, .int (nI n)])), aO G a2 N f] := by
  unfold LW; rw [if_neg hn, if_neg hn]
theorem LW_zero {G : GG} {h : Nat} {md : Int32} {a2 N : Nat} {f : Nat → Option Nat} {n : Nat} (hn : n = 0) : LW G h md a2 N f n = [(h, .inr (0, [.int md, .ref (gS G), .int 0]))] := by
  subst hn; rfl
theorem va_P.put1 {G : GG} {A : Nat → Prop} {ws : va_W} {p a : Nat} {e0 e : va_E} {H H1 : Heap} (hP : va_P G.1 vwCl ws H) (hD : va_D A ws) (hp : ws[p]? = some (a, e0)) (hP1 : va_P G.1 vwCl [(a, e)] H1) (hk : ∀ q : Nat, q < H.size → ¬ va_A [(a, e0)] H.size q → H1[q]? = H[q]?) : va_P G.1 vwCl (ws.set p (a, e)) H1 := by
  intro k q hq
  rw [List.getElem?_set] at hq
  by_cases c : p = k
  · rw [if_pos c] at hq
    split at hq
    · cases hq
      exact hP1 0 _ rfl
    · cases hq
  · rw [if_neg c] at hq
    have h1 := hP k q hq
    refine h1.kept (hk q.1 h1.lt ?_)
    rintro (⟨j, e', hj⟩ | hs)
    · cases j with
      | zero =>
        cases hj
        exact c (hD.1 p k _ _ hp hq rfl)
      | succ j => simp at hj
    · exact absurd h1.lt (Nat.not_lt.mpr hs)
/-- the state: how many orders, the orders, the clock, the ranks, the ring told last -/
abbrev St : Type := Nat × (Nat → Ord) × Int64 × (Nat → Int32) × List Int32
abbrev sN (σ : St) : Nat := σ.1
abbrev sO (σ : St) : Nat → Ord := σ.2.1
abbrev sT (σ : St) : Int64 := σ.2.2.1
abbrev sR (σ : St) : Nat → Int32 := σ.2.2.2.1
abbrev sG (σ : St) : List Int32 := σ.2.2.2.2
abbrev sPut (σ : St) (i : Nat) (o : Ord) : St := (σ.1, va_up σ.2.1 i o, σ.2.2.1, σ.2.2.2.1, σ.2.2.2.2)
def OI (t : Int) (o : Ord) : Prop := 0 ≤ (oK o).toInt ∧ (oK o).toInt < 9 ∧ ((oK o).toInt < 3 → 1 ≤ (oT o).toInt ∧ (oT o).toInt ≤ 99) ∧ -1 ≤ (oW o).toInt ∧ (oW o).toInt ≤ 49 ∧ 0 ≤ (oF o).toInt ∧ (oF o).toInt ≤ (oU o).toInt ∧ (oU o).toInt ≤ 20000 ∧ 0 ≤ (oM o).toInt ∧ (oM o).toInt ≤ t ∧ 0 ≤ (oX o).toInt ∧ (oX o).toInt ≤ 20001 ∧ ((oP o).toInt = 0 ∨ (oP o).toInt = 1)
def SI (σ : St) : Prop := sN σ ≤ 200 ∧ 0 ≤ (sT σ).toInt ∧ (sT σ).toInt ≤ 20000 ∧ (∀ i, i < sN σ → OI (sT σ).toInt (sO σ i)) ∧ (sG σ).length ≤ 100
/-- the class's own numbers: changes, the row's address, its length and contents, the orders' addresses, path, ring -/
abbrev KP : Type := Int32 × Nat × Nat × (Nat → Option Nat) × (Nat → Nat) × (Nat → Int32) × (Nat → Int32)
def CI (κ : KP) (σ : St) : Prop := (0 < sN σ → sN σ ≤ κ.2.2.1 ∧ κ.2.2.1 ≤ 400 ∧ ∀ i, i < sN σ → κ.2.2.2.1 i = some (κ.2.2.2.2.1 i)) ∧ ∀ i, i < (sG σ).length → κ.2.2.2.2.2.2 i = (sG σ).getD i 0
abbrev WC (G : GG) (a : AD) (κ : KP) (σ : St) : va_W := CW G a (nI (sG σ).length) (sT σ) (sR σ) κ.2.2.2.2.2.1 κ.2.2.2.2.2.2 (pO κ.2.2.2.2.1 (sO σ) (sN σ)) (LW G a.2.1 κ.1 κ.2.1 κ.2.2.1 κ.2.2.2.1 (sN σ))
/-- the reference's rows -/
abbrev MP : Type := (Nat → Int32) × (Nat → Int32) × (Nat → Int32) × (Nat → Int32) × (Nat → Int64) × (Nat → Int64) × (Nat → Int64) × (Nat → Int32) × (Nat → Int64) × (Nat → Int32) × (Nat → Int32)
def MW (G : GG) (b : Nat → Nat) (th n : Int32) (fk fe fp ft : Nat → Int32) (ff fu fm : Nat → Int64) (fv : Nat → Int32) (fx : Nat → Int64) (rk : Nat → Int32) (now : Int64) (wy : Nat → Int32) (rl : Int32) (rg : Nat → Int32) : va_W :=
  [(b 0, .inr (3, [.int th, .int n, .ref (b 1), .ref (b 2), .ref (b 3), .ref (b 4), .ref (b 5), .ref (b 6), .ref (b 7), .ref (b 8), .ref (b 9), .ref (b 10), .long now, .ref (b 11), .int 0, .int rl, .ref (b 12)])), aI G (b 1) 201 fk, aI G (b 2) 201 fe, aI G (b 3) 201 fp, aI G (b 4) 201 ft, aJ G (b 5) 201 ff, aJ G (b 6) 201 fu, aJ G (b 7) 201 fm, aZ G (b 8) 201 fv, aJ G (b 9) 201 fx, aI G (b 10) 9 rk, aI G (b 11) 101 wy, aI G (b 12) 100 rg]
abbrev uK (μ : MP) : Nat → Int32 := μ.1
abbrev uE (μ : MP) : Nat → Int32 := μ.2.1
abbrev uP (μ : MP) : Nat → Int32 := μ.2.2.1
abbrev uT (μ : MP) : Nat → Int32 := μ.2.2.2.1
abbrev uF (μ : MP) : Nat → Int64 := μ.2.2.2.2.1
abbrev uU (μ : MP) : Nat → Int64 := μ.2.2.2.2.2.1
abbrev uM (μ : MP) : Nat → Int64 := μ.2.2.2.2.2.2.1
abbrev uV (μ : MP) : Nat → Int32 := μ.2.2.2.2.2.2.2.1
abbrev uX (μ : MP) : Nat → Int64 := μ.2.2.2.2.2.2.2.2.1
abbrev uW (μ : MP) : Nat → Int32 := μ.2.2.2.2.2.2.2.2.2.1
abbrev uG (μ : MP) : Nat → Int32 := μ.2.2.2.2.2.2.2.2.2.2
abbrev WM (G : GG) (b : Nat → Nat) (μ : MP) (σ : St) : va_W := MW G b 0 (nI (sN σ)) (uK μ) (uE μ) (uP μ) (uT μ) (uF μ) (uU μ) (uM μ) (uV μ) (uX μ) (sR σ) (sT σ) (uW μ) (nI (sG σ).length) (uG μ)
/-- the end of an order as the reference keeps it -/
def XI (x y : Int64) : Prop := (x.toInt = 20001 ∧ y.toInt = -1) ∨ (x.toInt ≠ 20001 ∧ y = x)
def MO (μ : MP) (j : Nat) (o : Ord) : Prop := uK μ j = oK o ∧ uE μ j = oE o ∧ uP μ j = oW o ∧ ((oK o).toInt < 3 → uT μ j = oT o) ∧ uF μ j = oF o ∧ uU μ j = oU o ∧ uM μ j = oM o ∧ uV μ j = oP o ∧ XI (oX o) (uX μ j)
def MI (μ : MP) (σ : St) : Prop := (∀ i, i < sN σ → MO μ (i + 1) (sO σ i)) ∧ (∀ j, sN σ < j → uV μ j = 0) ∧ ∀ i, i < (sG σ).length → uG μ i = (sG σ).getD i 0
-- what the calls answer
abbrev clk (σ : St) (t : Int64) : Prop := 0 ≤ t.toInt ∧ t.toInt ≤ 20000 ∧ (sT σ).toInt ≤ t.toInt
abbrev lapC (t : Int) (o : Ord) : Prop := (oP o).toInt = 0 ∧ (oX o).toInt = 20001 ∧ (oM o).toInt + 14 < t
def lap1 (t : Int) (o : Ord) : Ord := if lapC t o then oSX o (oM o + 15) else o
def mvO (σ : St) (t : Int) (k : Nat) : Nat → Ord := fun i => if i < k then lap1 t (sO σ i) else sO σ i
def cntL (σ : St) (t : Int) : Nat → Nat
  | 0 => 0
  | k + 1 => cntL σ t k + if lapC t (sO σ k) then 1 else 0
abbrev mvS (σ : St) (t : Int64) : St := (sN σ, mvO σ t.toInt (sN σ), t, sR σ, sG σ)
def fTick (σ : St) (t : Int64) : Int32 × St := if ¬ clk σ t then (-102, σ) else (nI (cntL σ t.toInt (sN σ)), mvS σ t)
def fOrder (σ : St) (k e w t : Int32) (f u : Int64) : Int32 × St :=
  if ¬ (1 ≤ e.toInt ∧ e.toInt ≤ 99) ∨ ¬ (-1 ≤ w.toInt ∧ w.toInt ≤ 49) ∨ ((0 ≤ k.toInt ∧ k.toInt < 3) ∧ ¬ (1 ≤ t.toInt ∧ t.toInt ≤ 99)) then (-101, σ)
  else if ¬ (0 ≤ k.toInt ∧ k.toInt < 9) ∨ f.toInt < 0 ∨ u.toInt < f.toInt ∨ 20000 < u.toInt ∨ ((0 ≤ k.toInt ∧ k.toInt < 3) ∧ t.toInt = e.toInt) then (-102, σ)
  else if 200 ≤ sN σ then (-104, σ)
  else (nI (sN σ + 1), (sN σ + 1, va_up (sO σ) (sN σ) (k, e, w, t, f, sT σ, u, 20001, 0), sT σ, sR σ, sG σ))
abbrev isO (σ : St) (o : Int32) : Prop := 1 ≤ o.toInt ∧ o.toInt ≤ (sN σ : Int)
abbrev oi (o : Int32) : Nat := (o.toInt - 1).toNat
def fProof (σ : St) (o g : Int32) (t : Int64) : Int32 × St :=
  if ¬ isO σ o then (-101, σ) else if ¬ clk σ t then (-102, σ)
  else if (oX (sO (mvS σ t) (oi o))).toInt ≠ 20001 ∨ (oP (sO (mvS σ t) (oi o))).toInt ≠ 0 then (-103, mvS σ t)
  else if g.toInt = 0 then (0, sPut (mvS σ t) (oi o) (oSX (sO (mvS σ t) (oi o)) t))
  else (1, sPut (mvS σ t) (oi o) (oSP (sO (mvS σ t) (oi o)) 1))
def dys (o : Ord) (t : Int) : Nat := ((oU o).toInt - (if (oF o).toInt < t then t else (oF o).toInt) + 1).toNat
def fWithdraw (σ : St) (o : Int32) (t : Int64) : Int32 × St :=
  if ¬ isO σ o then (-101, σ) else if ¬ clk σ t then (-102, σ)
  else if (oX (sO (mvS σ t) (oi o))).toInt ≠ 20001 then (-103, mvS σ t)
  else (nI (dys (sO (mvS σ t) (oi o)) t.toInt), sPut (mvS σ t) (oi o) (oSX (sO (mvS σ t) (oi o)) t))
def fExtend (σ : St) (o : Int32) (u : Int64) : Int32 × St :=
  if ¬ isO σ o then (-101, σ) else if ¬ (0 ≤ u.toInt ∧ u.toInt ≤ 20000) then (-102, σ)
  else if (oX (sO σ (oi o))).toInt ≠ 20001 then (-103, σ)
  else if u.toInt ≤ (oU (sO σ (oi o))).toInt then (0, σ) else (1, sPut σ (oi o) (oSU (sO σ (oi o)) u))
def fRank (σ : St) (k r : Int32) : Int32 × St :=
  if ¬ (0 ≤ k.toInt ∧ k.toInt < 9) ∨ ¬ (0 ≤ r.toInt ∧ r.toInt ≤ 100) then (-102, σ) else (sR σ k.toInt.toNat, (sN σ, sO σ, sT σ, upd (sR σ) k.toInt.toNat r, sG σ))
def fRing (σ : St) (i : Int32) : Int32 := if 0 ≤ i.toInt ∧ i.toInt < ((sG σ).length : Int) then (sG σ).getD i.toInt.toNat 0 else 0
abbrev frc (o : Ord) (d : Int) : Prop := (oF o).toInt ≤ d ∧ d ≤ (oU o).toInt ∧ d < (oX o).toInt
abbrev tdC (σ : St) (s : Int) (k : Nat) : Prop := (oW (sO σ k)).toInt = s ∧ (oP (sO σ k)).toInt ≠ 0 ∧ (oK (sO σ k)).toInt < 3 ∧ frc (sO σ k) (sT σ).toInt
def tdL (σ : St) (s i : Int) : Nat → Nat → Nat → Int32
  | 0, _, _ => 0
  | r + 1, k, c => if tdC σ s k then (if (c : Int) = i then nI (k + 1) else tdL σ s i r (k + 1) (c + 1)) else tdL σ s i r (k + 1) c
def fTold (σ : St) (s i : Int32) : Int32 := if ¬ (0 ≤ s.toInt ∧ s.toInt ≤ 49) then -101 else tdL σ s.toInt i.toInt (sN σ) 0 0
abbrev mtC (o : Ord) (a w k d : Int) : Prop := (oE o).toInt = a ∧ ((oW o).toInt = -1 ∨ (oW o).toInt = w) ∧ (oK o).toInt % 3 = k ∧ frc o d
abbrev rkI (σ : St) (i : Nat) : Int := (sR σ (oK (sO σ i)).toInt.toNat).toInt
def bst (σ : St) (a w k d : Int) : Nat → Option Nat
  | 0 => none
  | j + 1 => if mtC (sO σ j) a w k d then (match bst σ a w k d j with
    | none => some j
    | some b => if rkI σ b ≤ rkI σ j then some j else some b) else bst σ a w k d j
def fst1 (p : List Int32) (a : Int32) : Nat := fa_first (fun j => decide (p.getD j 0 = a)) p.length
def eff (σ : St) (w k d : Int) : Nat → List Int32 → Int32 → Int32 × List Int32
  | 0, _, _ => (-1, sG σ)
  | r + 1, p, a => if fst1 p a < p.length then (-1, p.drop (fst1 p a)) else (match bst σ a.toInt w k d (sN σ) with
    | none => (a, sG σ)
    | some b => if (oK (sO σ b)).toInt < 3 then eff σ w k d r (p ++ [a]) (oT (sO σ b)) else if (oK (sO σ b)).toInt < 6 then (0, sG σ) else (-2, sG σ))
abbrev sGs (σ : St) (g : List Int32) : St := (sN σ, sO σ, sT σ, sR σ, g)
def fEff (σ : St) (e w k : Int32) (d : Int64) : Int32 × St :=
  if ¬ (1 ≤ e.toInt ∧ e.toInt ≤ 99) ∨ ¬ (0 ≤ w.toInt ∧ w.toInt ≤ 49) then (-101, σ)
  else if ¬ (0 ≤ k.toInt ∧ k.toInt ≤ 2) ∨ ¬ (0 ≤ d.toInt ∧ d.toInt ≤ 20000) then (-102, σ)
  else ((eff σ w.toInt k.toInt d.toInt 100 [] e).1, sGs σ (eff σ w.toInt k.toInt d.toInt 100 [] e).2)
-- numbers
theorem nI_ofI {x : Int32} {k : Nat} (h : x.toInt = (k : Int)) : x = nI k := by
  rw [← fb_asI x, h]
  rfl
theorem ti_nI {k : Nat} (h : k < 2147483648) : (nI k).toInt = (k : Int) := nI_toInt h
theorem ti_add {x y : Int32} {a b : Int} (ha : x.toInt = a) (hb : y.toInt = b) (h1 : -2147483648 ≤ a + b) (h2 : a + b < 2147483648) : (x + y).toInt = a + b := by
  subst ha; subst hb; exact fb_addI h1 h2
theorem ti_sub {x y : Int32} {a b : Int} (ha : x.toInt = a) (hb : y.toInt = b) (h1 : -2147483648 ≤ a - b) (h2 : a - b < 2147483648) : (x - y).toInt = a - b := by
  subst ha; subst hb; exact fb_subI h1 h2
theorem tl_add {x y : Int64} {a b : Int} (ha : x.toInt = a) (hb : y.toInt = b) (h1 : -9223372036854775808 ≤ a + b) (h2 : a + b < 9223372036854775808) : (x + y).toInt = a + b := by
  subst ha; subst hb; exact fb_addL h1 h2
theorem tl_sub {x y : Int64} {a b : Int} (ha : x.toInt = a) (hb : y.toInt = b) (h1 : -9223372036854775808 ≤ a - b) (h2 : a - b < 9223372036854775808) : (x - y).toInt = a - b := by
  subst ha; subst hb; exact fb_subL h1 h2
theorem tl_i2l {x : Int32} {a : Int} (ha : x.toInt = a) : x.toInt64.toInt = a := by rw [Int32.toInt_toInt64, ha]
theorem ti_l2i {x : Int64} {a : Int} (ha : x.toInt = a) (h1 : -2147483648 ≤ a) (h2 : a < 2147483648) : x.toInt32.toInt = a := by
  rw [Int64.toInt_toInt32, ha]
  exact fb_bmod h1 h2
theorem ti_div3 {x : Int32} {a : Int} (ha : x.toInt = a) (h0 : 0 ≤ a) : (x / 3).toInt = a / 3 := by
  obtain ⟨k, hk⟩ := Int.eq_ofNat_of_zero_le h0
  have hr := fb_rng x
  have e : x = nI k := nI_ofI (ha.trans hk)
  have e2 := pk_div (a := k) (d := 3) (by omega) (by decide) (by decide)
  rw [e, show (3 : Int32) = nI 3 from rfl, e2, ti_nI (by omega)]
  omega
theorem ti_rem3 {x : Int32} {a : Int} (ha : x.toInt = a) (h0 : 0 ≤ a) : (x - x / 3 * 3).toInt = a % 3 := by
  obtain ⟨k, hk⟩ := Int.eq_ofNat_of_zero_le h0
  have hr := fb_rng x
  have e : x = nI k := nI_ofI (ha.trans hk)
  have e2 := pk_rem (a := k) (d := 3) (by omega) (by decide) (by decide)
  rw [e, show (3 : Int32) = nI 3 from rfl, e2, ti_nI (by omega)]
  omega
theorem tl_inj {x y : Int64} (h : x.toInt = y.toInt) : x = y := (fa_eq64 x y).mpr h
theorem ti_inj {x y : Int32} (h : x.toInt = y.toInt) : x = y := (fa_eq x y).mpr h
theorem vp_inI {x : Int32} {k n : Nat} (h : x.toInt = (k : Int)) (hk : k < n) : vp_in x n := vp_in_iff.mpr (by omega)
theorem ix_I {x : Int32} {k : Nat} (h : x.toInt = (k : Int)) : x.toNatClampNeg = k := by
  have hr := fb_rng x
  rw [nI_ofI h, nI_clamp (by omega)]
section MYARR
variable {p : Program} {l : Launch} {e : Env} {R : Room} {s : State} {m : MethodId} {args : Array Value} {below : List Frame} {meth : Method} {c : Code} {H : Heap} {locs : List Loc} {cells slots : Nat} {Q : State → Prop}
variable {cc : ByteArray} {pc : Nat} {ls : Array Slot} {rest : List Value} {G : GG} {A : Nat → Prop} {a : Nat} {ws : va_W} {H0 : Heap}
theorem my_iald (hx : p.tables.exec = Jvm.exec) (hb : c.code = cc) (hK : KK G s) (hP : va_P G.1 vwCl ws H) (q0 : Nat) {n : Nat} {f : Nat → Int32} (ha : ws[q0]? = some (a, .inl (gI G, n, .inl f))) {i : Int32} (k : Nat) (hi : i.toInt = (k : Int)) (hk : k < n) (hdg : decode cc pc = .ok (.iaload, 1))
    (kk : W p l e R s m args below meth c H locs cells slots Q (F0 m (pc + 1) ls (.int (f k) :: rest))) : W p l e R s m args below meth c H locs cells slots Q (F0 m pc ls (.int i :: .ref a :: rest)) :=
  va_iald hx hb hK.1 hP q0 0 ha rfl (vp_inI hi hk) hdg (by rw [ix_I hi]; exact kk)
theorem my_lald (hx : p.tables.exec = Jvm.exec) (hb : c.code = cc) (hK : KK G s) (hP : va_P G.1 vwCl ws H) (q0 : Nat) {n : Nat} {f : Nat → Int64} (ha : ws[q0]? = some (a, .inl (gJ G, n, .inr (.inl f)))) {i : Int32} (k : Nat) (hi : i.toInt = (k : Int)) (hk : k < n) (hdg : decode cc pc = .ok (.laload, 1))
    (kk : W p l e R s m args below meth c H locs cells slots Q (F0 m (pc + 1) ls (.long (f k) :: rest))) : W p l e R s m args below meth c H locs cells slots Q (F0 m pc ls (.int i :: .ref a :: rest)) :=
  va_lald hx hb hK.1 hP q0 1 ha rfl (vp_inI hi hk) hdg (by rw [ix_I hi]; exact kk)
theorem my_zald (hx : p.tables.exec = Jvm.exec) (hb : c.code = cc) (hK : KK G s) (hP : va_P G.1 vwCl ws H) (q0 : Nat) {n : Nat} {f : Nat → Int32} (ha : ws[q0]? = some (a, .inl (gZ G, n, .inl f))) {i : Int32} (k : Nat) (hi : i.toInt = (k : Int)) (hk : k < n) (hdg : decode cc pc = .ok (.baload, 1))
    (kk : W p l e R s m args below meth c H locs cells slots Q (F0 m (pc + 1) ls (.int (f k) :: rest))) : W p l e R s m args below meth c H locs cells slots Q (F0 m pc ls (.int i :: .ref a :: rest)) :=
  va_zald hx hb hK.1 hP q0 2 ha rfl (vp_inI hi hk) hdg (by rw [ix_I hi]; exact kk)
theorem my_iast (hx : p.tables.exec = Jvm.exec) (hb : c.code = cc) (hK : KK G s) (hP : va_P G.1 vwCl ws H) (hD : va_D A ws) (hS : va_S A H0 H locs) (q0 : Nat) {n : Nat} {f : Nat → Int32} (ha : ws[q0]? = some (a, .inl (gI G, n, .inl f))) {i x : Int32} (k : Nat) (hi : i.toInt = (k : Int)) (hk : k < n) (hdg : decode cc pc = .ok (.iastore, 1))
    (kk : ∀ (H1 : Heap) (locs1 : List Loc), va_P G.1 vwCl (ws.set q0 (a, .inl (gI G, n, .inl (upd f k x)))) H1 → va_D A (ws.set q0 (a, .inl (gI G, n, .inl (upd f k x)))) → va_S A H0 H1 locs1 → W p l e R s m args below meth c H1 locs1 cells slots Q (F0 m (pc + 1) ls rest)) : W p l e R s m args below meth c H locs cells slots Q (F0 m pc ls (.int x :: .int i :: .ref a :: rest)) :=
  va_iast hx hb hK.1 hP hD hS q0 0 ha rfl (vp_inI hi hk) hdg (by rw [ix_I hi]; exact kk)
theorem my_last (hx : p.tables.exec = Jvm.exec) (hb : c.code = cc) (hK : KK G s) (hP : va_P G.1 vwCl ws H) (hD : va_D A ws) (hS : va_S A H0 H locs) (q0 : Nat) {n : Nat} {f : Nat → Int64} (ha : ws[q0]? = some (a, .inl (gJ G, n, .inr (.inl f)))) {i : Int32} {x : Int64} (k : Nat) (hi : i.toInt = (k : Int)) (hk : k < n) (hdg : decode cc pc = .ok (.lastore, 1))
    (kk : ∀ (H1 : Heap) (locs1 : List Loc), va_P G.1 vwCl (ws.set q0 (a, .inl (gJ G, n, .inr (.inl (vp_updL f k x))))) H1 → va_D A (ws.set q0 (a, .inl (gJ G, n, .inr (.inl (vp_updL f k x))))) → va_S A H0 H1 locs1 → W p l e R s m args below meth c H1 locs1 cells slots Q (F0 m (pc + 1) ls rest)) : W p l e R s m args below meth c H locs cells slots Q (F0 m pc ls (.long x :: .int i :: .ref a :: rest)) :=
  va_last hx hb hK.1 hP hD hS q0 1 ha rfl (vp_inI hi hk) hdg (by rw [ix_I hi]; exact kk)
theorem my_zast (hx : p.tables.exec = Jvm.exec) (hb : c.code = cc) (hK : KK G s) (hP : va_P G.1 vwCl ws H) (hD : va_D A ws) (hS : va_S A H0 H locs) (q0 : Nat) {n : Nat} {f : Nat → Int32} (ha : ws[q0]? = some (a, .inl (gZ G, n, .inl f))) {i x : Int32} (k : Nat) (hi : i.toInt = (k : Int)) (hk : k < n) (hx01 : vp_nar .boolean x = x) (hdg : decode cc pc = .ok (.bastore, 1))
    (kk : ∀ (H1 : Heap) (locs1 : List Loc), va_P G.1 vwCl (ws.set q0 (a, .inl (gZ G, n, .inl (upd f k x)))) H1 → va_D A (ws.set q0 (a, .inl (gZ G, n, .inl (upd f k x)))) → va_S A H0 H1 locs1 → W p l e R s m args below meth c H1 locs1 cells slots Q (F0 m (pc + 1) ls rest)) : W p l e R s m args below meth c H locs cells slots Q (F0 m pc ls (.int x :: .int i :: .ref a :: rest)) :=
  va_zast hx hb hK.1 hP hD hS q0 2 ha rfl (vp_inI hi hk) hdg (by rw [ix_I hi, hx01]; exact kk)
end MYARR
theorem nar_01 {x : Int32} (h : x = 0 ∨ x = 1) : vp_nar .boolean x = x := by
  rcases h with rfl | rfl <;> rfl
end
section
-- ===== laid by wip/whole/gen.py out of the decode rows =====
abbrev rmX (f lo mc ms : Nat) : Room := { frames := f, cells := mc, slots := ms, locals := lo }
set_option maxHeartbeats 4000000 in
set_option maxRecDepth 100000 in
/-- X1_isAddress -/
theorem c_X1_isAddress (l : Launch) (G : GG) (x : Int32) : RdI l yX1_isAddress wsX1_isAddress (rmX 0 0 0 0) G [.int x] [] (fun r => ((r.toInt = 1 ∧ (1 ≤ (x).toInt ∧ (x).toInt ≤ 99)) ∨ (r.toInt = 0 ∧ ¬ (1 ≤ (x).toInt ∧ (x).toInt ≤ 99)))) := by
  refine rd_of_i (cc := cX1_isAddress) (maxL := 1) (t := .boolean) (by decide +kernel) rfl (Nat.le_of_ble_eq_true rfl) nar_bool ?_
  intro p e s m args below meth c Q hx hb hml hown hts hP hK hret ls hl
  have hown : s.vm.findClass RX1 = some m.cls := hown
  have hl : lv_has ls 1 [(0, .int x)] := hl
  refine lv_iload_n hx hb dX1_isAddress_0 rfl (lv_at hl 0 rfl) ?_
  refine lv_iconst (v := 1) hx hb dX1_isAddress_1 (by decide) ?_
  refine lv_icmp_lt (tgt := 15) hx hb dX1_isAddress_2 (by decide) (fun c2_1 => ?_) (fun c2_1 => ?_)
  · have c2_1 : (x).toInt < 1 := (ti_lt (x := x) (y := 1) (a := (x).toInt) (b := 1) rfl rfl).mp c2_1
    refine lv_iconst (v := 0) hx hb dX1_isAddress_15 (by decide) ?_
    exact hret _ _ _ dX1_isAddress_16 (Or.inl rfl) (Or.inr ⟨rfl, by omega⟩)
  · have c2_1 : ¬ ((x).toInt < 1) := mt (ti_lt (x := x) (y := 1) (a := (x).toInt) (b := 1) rfl rfl).mpr c2_1
    refine lv_iload_n hx hb dX1_isAddress_5 rfl (lv_at hl 0 rfl) ?_
    refine lv_bipush (v := 99) hx hb dX1_isAddress_6 (by decide) ?_
    refine lv_icmp_gt (tgt := 15) hx hb dX1_isAddress_8 (by decide) (fun c8_2 => ?_) (fun c8_2 => ?_)
    · have c8_2 : 99 < (x).toInt := (ti_lt (x := 99) (y := x) (a := 99) (b := (x).toInt) rfl rfl).mp c8_2
      refine lv_iconst (v := 0) hx hb dX1_isAddress_15 (by decide) ?_
      exact hret _ _ _ dX1_isAddress_16 (Or.inl rfl) (Or.inr ⟨rfl, by omega⟩)
    · have c8_2 : ¬ (99 < (x).toInt) := mt (ti_lt (x := 99) (y := x) (a := 99) (b := (x).toInt) rfl rfl).mpr c8_2
      refine lv_iconst (v := 1) hx hb dX1_isAddress_11 (by decide) ?_
      refine lv_goto (tgt := 16) hx hb dX1_isAddress_12 (by decide) ?_
      exact hret _ _ _ dX1_isAddress_16 (Or.inr (Or.inl rfl)) (Or.inl ⟨rfl, by omega⟩)

set_option maxHeartbeats 4000000 in
set_option maxRecDepth 100000 in
/-- X1_isPerson -/
theorem c_X1_isPerson (l : Launch) (G : GG) (x : Int32) : RdI l yX1_isPerson wsX1_isPerson (rmX 0 0 0 0) G [.int x] [] (fun r => ((r.toInt = 1 ∧ (0 ≤ (x).toInt ∧ (x).toInt ≤ 49)) ∨ (r.toInt = 0 ∧ ¬ (0 ≤ (x).toInt ∧ (x).toInt ≤ 49)))) := by
  refine rd_of_i (cc := cX1_isPerson) (maxL := 1) (t := .boolean) (by decide +kernel) rfl (Nat.le_of_ble_eq_true rfl) nar_bool ?_
  intro p e s m args below meth c Q hx hb hml hown hts hP hK hret ls hl
  have hown : s.vm.findClass RX1 = some m.cls := hown
  have hl : lv_has ls 1 [(0, .int x)] := hl
  refine lv_iload_n hx hb dX1_isPerson_0 rfl (lv_at hl 0 rfl) ?_
  refine lv_if_lt (tgt := 14) hx hb dX1_isPerson_1 (by decide) (fun c1_1 => ?_) (fun c1_1 => ?_)
  · have c1_1 : (x).toInt < 0 := (ti_lt (x := x) (y := 0) (a := (x).toInt) (b := 0) rfl rfl).mp c1_1
    refine lv_iconst (v := 0) hx hb dX1_isPerson_14 (by decide) ?_
    exact hret _ _ _ dX1_isPerson_15 (Or.inl rfl) (Or.inr ⟨rfl, by omega⟩)
  · have c1_1 : ¬ ((x).toInt < 0) := mt (ti_lt (x := x) (y := 0) (a := (x).toInt) (b := 0) rfl rfl).mpr c1_1
    refine lv_iload_n hx hb dX1_isPerson_4 rfl (lv_at hl 0 rfl) ?_
    refine lv_bipush (v := 49) hx hb dX1_isPerson_5 (by decide) ?_
    refine lv_icmp_gt (tgt := 14) hx hb dX1_isPerson_7 (by decide) (fun c7_2 => ?_) (fun c7_2 => ?_)
    · have c7_2 : 49 < (x).toInt := (ti_lt (x := 49) (y := x) (a := 49) (b := (x).toInt) rfl rfl).mp c7_2
      refine lv_iconst (v := 0) hx hb dX1_isPerson_14 (by decide) ?_
      exact hret _ _ _ dX1_isPerson_15 (Or.inl rfl) (Or.inr ⟨rfl, by omega⟩)
    · have c7_2 : ¬ (49 < (x).toInt) := mt (ti_lt (x := 49) (y := x) (a := 49) (b := (x).toInt) rfl rfl).mpr c7_2
      refine lv_iconst (v := 1) hx hb dX1_isPerson_10 (by decide) ?_
      refine lv_goto (tgt := 15) hx hb dX1_isPerson_11 (by decide) ?_
      exact hret _ _ _ dX1_isPerson_15 (Or.inr (Or.inl rfl)) (Or.inl ⟨rfl, by omega⟩)

set_option maxHeartbeats 4000000 in
set_option maxRecDepth 100000 in
/-- X1_isKind -/
theorem c_X1_isKind (l : Launch) (G : GG) (x : Int32) : RdI l yX1_isKind wsX1_isKind (rmX 0 0 0 0) G [.int x] [] (fun r => ((r.toInt = 1 ∧ (0 ≤ (x).toInt ∧ (x).toInt < 9)) ∨ (r.toInt = 0 ∧ ¬ (0 ≤ (x).toInt ∧ (x).toInt < 9)))) := by
  refine rd_of_i (cc := cX1_isKind) (maxL := 1) (t := .boolean) (by decide +kernel) rfl (Nat.le_of_ble_eq_true rfl) nar_bool ?_
  intro p e s m args below meth c Q hx hb hml hown hts hP hK hret ls hl
  have hown : s.vm.findClass RX1 = some m.cls := hown
  have hl : lv_has ls 1 [(0, .int x)] := hl
  refine lv_iload_n hx hb dX1_isKind_0 rfl (lv_at hl 0 rfl) ?_
  refine lv_if_lt (tgt := 14) hx hb dX1_isKind_1 (by decide) (fun c1_1 => ?_) (fun c1_1 => ?_)
  · have c1_1 : (x).toInt < 0 := (ti_lt (x := x) (y := 0) (a := (x).toInt) (b := 0) rfl rfl).mp c1_1
    refine lv_iconst (v := 0) hx hb dX1_isKind_14 (by decide) ?_
    exact hret _ _ _ dX1_isKind_15 (Or.inl rfl) (Or.inr ⟨rfl, by omega⟩)
  · have c1_1 : ¬ ((x).toInt < 0) := mt (ti_lt (x := x) (y := 0) (a := (x).toInt) (b := 0) rfl rfl).mpr c1_1
    refine lv_iload_n hx hb dX1_isKind_4 rfl (lv_at hl 0 rfl) ?_
    refine lv_bipush (v := 9) hx hb dX1_isKind_5 (by decide) ?_
    refine lv_icmp_ge (tgt := 14) hx hb dX1_isKind_7 (by decide) (fun c7_2 => ?_) (fun c7_2 => ?_)
    · have c7_2 : 9 ≤ (x).toInt := (ti_le (x := 9) (y := x) (a := 9) (b := (x).toInt) rfl rfl).mp c7_2
      refine lv_iconst (v := 0) hx hb dX1_isKind_14 (by decide) ?_
      exact hret _ _ _ dX1_isKind_15 (Or.inl rfl) (Or.inr ⟨rfl, by omega⟩)
    · have c7_2 : ¬ (9 ≤ (x).toInt) := mt (ti_le (x := 9) (y := x) (a := 9) (b := (x).toInt) rfl rfl).mpr c7_2
      refine lv_iconst (v := 1) hx hb dX1_isKind_10 (by decide) ?_
      refine lv_goto (tgt := 15) hx hb dX1_isKind_11 (by decide) ?_
      exact hret _ _ _ dX1_isKind_15 (Or.inr (Or.inl rfl)) (Or.inl ⟨rfl, by omega⟩)

set_option maxHeartbeats 4000000 in
set_option maxRecDepth 100000 in
/-- X1_isDay -/
theorem c_X1_isDay (l : Launch) (G : GG) (x : Int64) : RdI l yX1_isDay wsX1_isDay (rmX 0 0 0 0) G [.long x] [] (fun r => ((r.toInt = 1 ∧ (0 ≤ (x).toInt ∧ (x).toInt ≤ 20000)) ∨ (r.toInt = 0 ∧ ¬ (0 ≤ (x).toInt ∧ (x).toInt ≤ 20000)))) := by
  refine rd_of_i (cc := cX1_isDay) (maxL := 2) (t := .boolean) (by decide +kernel) rfl (Nat.le_of_ble_eq_true rfl) nar_bool ?_
  intro p e s m args below meth c Q hx hb hml hown hts hP hK hret ls hl
  have hown : s.vm.findClass RX1 = some m.cls := hown
  have hl : lv_has ls 2 [(0, .long x)] := hl
  have kl124 := hts (.constantLong RX1 124 (20000)) (by decide +kernel)
  refine lv_lload_n hx hb dX1_isDay_0 rfl (lv_at hl 0 rfl) ?_
  refine lv_lconst (v := 0) hx hb dX1_isDay_1 rfl ?_
  refine lc_lt (tgt := 18) hx hb dX1_isDay_2 dX1_isDay_3 (by decide) (fun c2_1 => ?_) (fun c2_1 => ?_)
  · have c2_1 : (x).toInt < 0 := (tl_lt (x := x) (y := 0) (a := (x).toInt) (b := 0) rfl rfl).mp c2_1
    refine lv_iconst (v := 0) hx hb dX1_isDay_18 (by decide) ?_
    exact hret _ _ _ dX1_isDay_19 (Or.inl rfl) (Or.inr ⟨rfl, by omega⟩)
  · have c2_1 : ¬ ((x).toInt < 0) := mt (tl_lt (x := x) (y := 0) (a := (x).toInt) (b := 0) rfl rfl).mpr c2_1
    refine lv_lload_n hx hb dX1_isDay_6 rfl (lv_at hl 0 rfl) ?_
    refine lv_ldc2 (v := 20000) hx hb hown kl124 dX1_isDay_7 ?_
    refine lc_gt (tgt := 18) hx hb dX1_isDay_10 dX1_isDay_11 (by decide) (fun c10_2 => ?_) (fun c10_2 => ?_)
    · have c10_2 : 20000 < (x).toInt := (tl_lt (x := 20000) (y := x) (a := 20000) (b := (x).toInt) rfl rfl).mp c10_2
      refine lv_iconst (v := 0) hx hb dX1_isDay_18 (by decide) ?_
      exact hret _ _ _ dX1_isDay_19 (Or.inl rfl) (Or.inr ⟨rfl, by omega⟩)
    · have c10_2 : ¬ (20000 < (x).toInt) := mt (tl_lt (x := 20000) (y := x) (a := 20000) (b := (x).toInt) rfl rfl).mpr c10_2
      refine lv_iconst (v := 1) hx hb dX1_isDay_14 (by decide) ?_
      refine lv_goto (tgt := 19) hx hb dX1_isDay_15 (by decide) ?_
      exact hret _ _ _ dX1_isDay_19 (Or.inr (Or.inl rfl)) (Or.inl ⟨rfl, by omega⟩)

set_option maxHeartbeats 4000000 in
set_option maxRecDepth 100000 in
/-- doneBy -/
theorem c_X1_doneBy (l : Launch) (G : GG) (x : Int32) (h0 : 0 ≤ (x).toInt) : RdI l yX1_doneBy wsX1_doneBy (rmX 0 0 0 0) G [.int x] [] (fun r => r.toInt = (x).toInt / 3) := by
  refine rd_of_i (cc := cX1_doneBy) (maxL := 1) (t := .int) (by decide +kernel) rfl (Nat.le_of_ble_eq_true rfl) nar_int ?_
  intro p e s m args below meth c Q hx hb hml hown hts hP hK hret ls hl
  have hown : s.vm.findClass RX1 = some m.cls := hown
  have hl : lv_has ls 1 [(0, .int x)] := hl
  refine lv_iload_n hx hb dX1_doneBy_0 rfl (lv_at hl 0 rfl) ?_
  refine lv_iconst (v := 3) hx hb dX1_doneBy_1 (by decide) ?_
  refine lv_idiv hx hb dX1_doneBy_2 (by decide) ?_
  refine lv_topi (fun y2_1 e2_1 => ?_)
  have v2_1 : (y2_1).toInt = ((x).toInt / 3) := by rw [e2_1]; exact ti_div3 rfl (by omega)
  exact hret _ _ _ dX1_doneBy_3 (Or.inr (Or.inr rfl)) v2_1

set_option maxHeartbeats 4000000 in
set_option maxRecDepth 100000 in
/-- isOver -/
theorem c_X0_isOver (l : Launch) (G : GG) (h : Nat) (o : Ord) : RdI l yX0_isOver wsX0_isOver (rmX 0 0 0 0) G [.ref h] [(h, .inr (1, fl o))] (fun r => ((r.toInt = 1 ∧ ((oX o).toInt ≠ 20001)) ∨ (r.toInt = 0 ∧ ¬ ((oX o).toInt ≠ 20001)))) := by
  refine rd_of_i (cc := cX0_isOver) (maxL := 1) (t := .boolean) (by decide +kernel) rfl (Nat.le_of_ble_eq_true rfl) nar_bool ?_
  intro p e s m args below meth c Q hx hb hml hown hts hP hK hret ls hl
  have hown : s.vm.findClass RX0 = some m.cls := hown
  have hl : lv_has ls 1 [(0, .ref h)] := hl
  have hP : va_P G.1 vwCl [(h, .inr (1, fl o))] s.heap := hP
  have hiX0 := (show ∀ w ∈ u_ws RX0 TX0 9, w ∈ wsX0_isOver by decide +kernel)
  have lf36 := hts (.fieldLink RX0 36 "OrderRows2$Order" "overFrom" "J") (by decide +kernel)
  have kl34 := hts (.constantLong RX0 34 (20001)) (by decide +kernel)
  refine lv_aload_n hx hb dX0_isOver_0 rfl (lv_at hl 0 rfl) ?_
  refine va_get (D := G.1) (ci := 1) (v := .long (oX o)) (own := RX0) (C := RX0) (T := TX0) (N := 9) hx hb hts hiX0 hown hK.1 hP 0 rfl rfl 7 (by decide) lf36 (fun _ h9 => h9) rfl dX0_isOver_1 ?_
  refine lv_ldc2 (v := 20001) hx hb hown kl34 dX0_isOver_4 ?_
  refine lc_eq (tgt := 15) hx hb dX0_isOver_7 dX0_isOver_8 (by decide) (fun c7_1 => ?_) (fun c7_1 => ?_)
  · have c7_1 : ((oX o)).toInt = 20001 := (tl_eq (x := (oX o)) (y := 20001) (a := ((oX o)).toInt) (b := 20001) rfl rfl).mp c7_1
    refine lv_iconst (v := 0) hx hb dX0_isOver_15 (by decide) ?_
    exact hret _ _ _ dX0_isOver_16 (Or.inl rfl) (Or.inr ⟨rfl, by omega⟩)
  · have c7_1 : ¬ (((oX o)).toInt = 20001) := mt (tl_eq (x := (oX o)) (y := 20001) (a := ((oX o)).toInt) (b := 20001) rfl rfl).mpr c7_1
    refine lv_iconst (v := 1) hx hb dX0_isOver_11 (by decide) ?_
    refine lv_goto (tgt := 16) hx hb dX0_isOver_12 (by decide) ?_
    exact hret _ _ _ dX0_isOver_16 (Or.inr (Or.inl rfl)) (Or.inl ⟨rfl, by omega⟩)

set_option maxHeartbeats 4000000 in
set_option maxRecDepth 100000 in
/-- sendsOn -/
theorem c_X0_sendsOn (l : Launch) (G : GG) (h : Nat) (o : Ord) (hk : 0 ≤ (oK o).toInt) : RdI l yX0_sendsOn wsX0_sendsOn (rmX 1 40 0 0) G [.ref h] [(h, .inr (1, fl o))] (fun r => ((r.toInt = 1 ∧ ((oK o).toInt < 3)) ∨ (r.toInt = 0 ∧ ¬ ((oK o).toInt < 3)))) := by
  refine rd_of_i (cc := cX0_sendsOn) (maxL := 1) (t := .boolean) (by decide +kernel) rfl (Nat.le_of_ble_eq_true rfl) nar_bool ?_
  intro p e s m args below meth c Q hx hb hml hown hts hP hK hret ls hl
  have hown : s.vm.findClass RX0 = some m.cls := hown
  have hl : lv_has ls 1 [(0, .ref h)] := hl
  have hP : va_P G.1 vwCl [(h, .inr (1, fl o))] s.heap := hP
  have hiX0 := (show ∀ w ∈ u_ws RX0 TX0 9, w ∈ wsX0_sendsOn by decide +kernel)
  have lf9 := hts (.fieldLink RX0 9 "OrderRows2$Order" "kind" "I") (by decide +kernel)
  refine lv_aload_n hx hb dX0_sendsOn_0 rfl (lv_at hl 0 rfl) ?_
  refine va_get (D := G.1) (ci := 1) (v := .int (oK o)) (own := RX0) (C := RX0) (T := TX0) (N := 9) hx hb hts hiX0 hown hK.1 hP 0 rfl rfl 0 (by decide) lf9 (fun _ h9 => h9) rfl dX0_sendsOn_1 ?_
  refine rdSN_i (host := RX1) (As := [.int (oK o)]) (rest := []) ⟨hx, hb, hml, hown, hts⟩ (c_X1_doneBy l G (oK o) (by omega)) ⟨va_cnB (R := (rmX 1 40 0 0)) (rm := (rmX 0 0 0 0)) (mc := 0) (ms := 0) 1 hts gX0_sendsOn_X1_doneBy_n43 rfl rfl rfl hK.2.2.2.2.2 (hts (.initialized RX1) (by decide +kernel)) (by decide +kernel) ⟨Nat.le_of_ble_eq_true rfl, Nat.le_of_ble_eq_true rfl⟩, hts (.static yX1_doneBy) (by decide +kernel), trivial⟩ hK va_P.nil rfl hl.1 rfl (Nat.le_of_ble_eq_true rfl) dX0_sendsOn_4 ⟨Nat.zero_le _, Nat.zero_le _⟩ (fun r1 w1 => ?_)
  have w1 : r1.toInt = ((oK o)).toInt / 3 := w1
  refine lv_if_ne (tgt := 14) hx hb dX0_sendsOn_7 (by decide) (fun c7_2 => ?_) (fun c7_2 => ?_)
  · have c7_2 : ¬ ((r1).toInt = 0) := mt (ti_eq (x := r1) (y := 0) (a := (r1).toInt) (b := 0) rfl rfl).mpr c7_2
    refine lv_iconst (v := 0) hx hb dX0_sendsOn_14 (by decide) ?_
    exact hret _ _ _ dX0_sendsOn_15 (Or.inl rfl) (Or.inr ⟨rfl, by omega⟩)
  · have c7_2 : (r1).toInt = 0 := (ti_eq (x := r1) (y := 0) (a := (r1).toInt) (b := 0) rfl rfl).mp c7_2
    refine lv_iconst (v := 1) hx hb dX0_sendsOn_10 (by decide) ?_
    refine lv_goto (tgt := 15) hx hb dX0_sendsOn_11 (by decide) ?_
    exact hret _ _ _ dX0_sendsOn_15 (Or.inr (Or.inl rfl)) (Or.inl ⟨rfl, by omega⟩)

set_option maxHeartbeats 4000000 in
set_option maxRecDepth 100000 in
/-- concerns -/
theorem c_X0_concerns (l : Launch) (G : GG) (h : Nat) (o : Ord) (a w k : Int32) (hk : 0 ≤ (oK o).toInt) : RdI l yX0_concerns wsX0_concerns (rmX 0 0 0 0) G [.ref h, .int a, .int w, .int k] [(h, .inr (1, fl o))] (fun r => ((r.toInt = 1 ∧ ((oE o).toInt = (a).toInt ∧ ((oW o).toInt = -1 ∨ (oW o).toInt = (w).toInt) ∧ (oK o).toInt % 3 = (k).toInt)) ∨ (r.toInt = 0 ∧ ¬ ((oE o).toInt = (a).toInt ∧ ((oW o).toInt = -1 ∨ (oW o).toInt = (w).toInt) ∧ (oK o).toInt % 3 = (k).toInt)))) := by
  refine rd_of_i (cc := cX0_concerns) (maxL := 4) (t := .boolean) (by decide +kernel) rfl (Nat.le_of_ble_eq_true rfl) nar_bool ?_
  intro p e s m args below meth c Q hx hb hml hown hts hP hK hret ls hl
  have hown : s.vm.findClass RX0 = some m.cls := hown
  have hl : lv_has ls 4 [(0, .ref h), (1, .int a), (2, .int w), (3, .int k)] := hl
  have hP : va_P G.1 vwCl [(h, .inr (1, fl o))] s.heap := hP
  have hiX0 := (show ∀ w ∈ u_ws RX0 TX0 9, w ∈ wsX0_concerns by decide +kernel)
  have lf15 := hts (.fieldLink RX0 15 "OrderRows2$Order" "entry" "I") (by decide +kernel)
  have lf18 := hts (.fieldLink RX0 18 "OrderRows2$Order" "who" "I") (by decide +kernel)
  have lf9 := hts (.fieldLink RX0 9 "OrderRows2$Order" "kind" "I") (by decide +kernel)
  refine lv_aload_n hx hb dX0_concerns_0 rfl (lv_at hl 0 rfl) ?_
  refine va_get (D := G.1) (ci := 1) (v := .int (oE o)) (own := RX0) (C := RX0) (T := TX0) (N := 9) hx hb hts hiX0 hown hK.1 hP 0 rfl rfl 1 (by decide) lf15 (fun _ h9 => h9) rfl dX0_concerns_1 ?_
  refine lv_iload_n hx hb dX0_concerns_4 rfl (lv_at hl 1 rfl) ?_
  refine lv_icmp_ne (tgt := 38) hx hb dX0_concerns_5 (by decide) (fun c5_1 => ?_) (fun c5_1 => ?_)
  · have c5_1 : ¬ (((oE o)).toInt = (a).toInt) := mt (ti_eq (x := (oE o)) (y := a) (a := ((oE o)).toInt) (b := (a).toInt) rfl rfl).mpr c5_1
    refine lv_iconst (v := 0) hx hb dX0_concerns_38 (by decide) ?_
    exact hret _ _ _ dX0_concerns_39 (Or.inl rfl) (Or.inr ⟨rfl, by omega⟩)
  · have c5_1 : ((oE o)).toInt = (a).toInt := (ti_eq (x := (oE o)) (y := a) (a := ((oE o)).toInt) (b := (a).toInt) rfl rfl).mp c5_1
    refine lv_aload_n hx hb dX0_concerns_8 rfl (lv_at hl 0 rfl) ?_
    refine va_get (D := G.1) (ci := 1) (v := .int (oW o)) (own := RX0) (C := RX0) (T := TX0) (N := 9) hx hb hts hiX0 hown hK.1 hP 0 rfl rfl 2 (by decide) lf18 (fun _ h9 => h9) rfl dX0_concerns_9 ?_
    refine lv_iconst (v := (-1)) hx hb dX0_concerns_12 (by decide) ?_
    refine lv_icmp_eq (tgt := 24) hx hb dX0_concerns_13 (by decide) (fun c13_2 => ?_) (fun c13_2 => ?_)
    · have c13_2 : ((oW o)).toInt = (-1) := (ti_eq (x := (oW o)) (y := (-1)) (a := ((oW o)).toInt) (b := (-1)) rfl rfl).mp c13_2
      refine lv_aload_n hx hb dX0_concerns_24 rfl (lv_at hl 0 rfl) ?_
      refine va_get (D := G.1) (ci := 1) (v := .int (oK o)) (own := RX0) (C := RX0) (T := TX0) (N := 9) hx hb hts hiX0 hown hK.1 hP 0 rfl rfl 0 (by decide) lf9 (fun _ h9 => h9) rfl dX0_concerns_25 ?_
      refine lv_iconst (v := 3) hx hb dX0_concerns_28 (by decide) ?_
      refine lv_irem hx hb dX0_concerns_29 (by decide) ?_
      refine lv_topi (fun y29_3 e29_3 => ?_)
      have v29_3 : (y29_3).toInt = (((oK o)).toInt % 3) := by rw [e29_3]; exact ti_rem3 rfl (by omega)
      refine lv_iload_n hx hb dX0_concerns_30 rfl (lv_at hl 3 rfl) ?_
      refine lv_icmp_ne (tgt := 38) hx hb dX0_concerns_31 (by decide) (fun c31_4 => ?_) (fun c31_4 => ?_)
      · have c31_4 : ¬ ((((oK o)).toInt % 3) = (k).toInt) := mt (ti_eq (x := y29_3) (y := k) (a := (((oK o)).toInt % 3)) (b := (k).toInt) v29_3 rfl).mpr c31_4
        refine lv_iconst (v := 0) hx hb dX0_concerns_38 (by decide) ?_
        exact hret _ _ _ dX0_concerns_39 (Or.inl rfl) (Or.inr ⟨rfl, by omega⟩)
      · have c31_4 : (((oK o)).toInt % 3) = (k).toInt := (ti_eq (x := y29_3) (y := k) (a := (((oK o)).toInt % 3)) (b := (k).toInt) v29_3 rfl).mp c31_4
        refine lv_iconst (v := 1) hx hb dX0_concerns_34 (by decide) ?_
        refine lv_goto (tgt := 39) hx hb dX0_concerns_35 (by decide) ?_
        exact hret _ _ _ dX0_concerns_39 (Or.inr (Or.inl rfl)) (Or.inl ⟨rfl, by omega⟩)
    · have c13_2 : ¬ (((oW o)).toInt = (-1)) := mt (ti_eq (x := (oW o)) (y := (-1)) (a := ((oW o)).toInt) (b := (-1)) rfl rfl).mpr c13_2
      refine lv_aload_n hx hb dX0_concerns_16 rfl (lv_at hl 0 rfl) ?_
      refine va_get (D := G.1) (ci := 1) (v := .int (oW o)) (own := RX0) (C := RX0) (T := TX0) (N := 9) hx hb hts hiX0 hown hK.1 hP 0 rfl rfl 2 (by decide) lf18 (fun _ h9 => h9) rfl dX0_concerns_17 ?_
      refine lv_iload_n hx hb dX0_concerns_20 rfl (lv_at hl 2 rfl) ?_
      refine lv_icmp_ne (tgt := 38) hx hb dX0_concerns_21 (by decide) (fun c21_5 => ?_) (fun c21_5 => ?_)
      · have c21_5 : ¬ (((oW o)).toInt = (w).toInt) := mt (ti_eq (x := (oW o)) (y := w) (a := ((oW o)).toInt) (b := (w).toInt) rfl rfl).mpr c21_5
        refine lv_iconst (v := 0) hx hb dX0_concerns_38 (by decide) ?_
        exact hret _ _ _ dX0_concerns_39 (Or.inl rfl) (Or.inr ⟨rfl, by omega⟩)
      · have c21_5 : ((oW o)).toInt = (w).toInt := (ti_eq (x := (oW o)) (y := w) (a := ((oW o)).toInt) (b := (w).toInt) rfl rfl).mp c21_5
        refine lv_aload_n hx hb dX0_concerns_24 rfl (lv_at hl 0 rfl) ?_
        refine va_get (D := G.1) (ci := 1) (v := .int (oK o)) (own := RX0) (C := RX0) (T := TX0) (N := 9) hx hb hts hiX0 hown hK.1 hP 0 rfl rfl 0 (by decide) lf9 (fun _ h9 => h9) rfl dX0_concerns_25 ?_
        refine lv_iconst (v := 3) hx hb dX0_concerns_28 (by decide) ?_
        refine lv_irem hx hb dX0_concerns_29 (by decide) ?_
        refine lv_topi (fun y29_6 e29_6 => ?_)
        have v29_6 : (y29_6).toInt = (((oK o)).toInt % 3) := by rw [e29_6]; exact ti_rem3 rfl (by omega)
        refine lv_iload_n hx hb dX0_concerns_30 rfl (lv_at hl 3 rfl) ?_
        refine lv_icmp_ne (tgt := 38) hx hb dX0_concerns_31 (by decide) (fun c31_7 => ?_) (fun c31_7 => ?_)
        · have c31_7 : ¬ ((((oK o)).toInt % 3) = (k).toInt) := mt (ti_eq (x := y29_6) (y := k) (a := (((oK o)).toInt % 3)) (b := (k).toInt) v29_6 rfl).mpr c31_7
          refine lv_iconst (v := 0) hx hb dX0_concerns_38 (by decide) ?_
          exact hret _ _ _ dX0_concerns_39 (Or.inl rfl) (Or.inr ⟨rfl, by omega⟩)
        · have c31_7 : (((oK o)).toInt % 3) = (k).toInt := (ti_eq (x := y29_6) (y := k) (a := (((oK o)).toInt % 3)) (b := (k).toInt) v29_6 rfl).mp c31_7
          refine lv_iconst (v := 1) hx hb dX0_concerns_34 (by decide) ?_
          refine lv_goto (tgt := 39) hx hb dX0_concerns_35 (by decide) ?_
          exact hret _ _ _ dX0_concerns_39 (Or.inr (Or.inl rfl)) (Or.inl ⟨rfl, by omega⟩)

set_option maxHeartbeats 4000000 in
set_option maxRecDepth 100000 in
/-- isInForce -/
theorem c_X0_isInForce (l : Launch) (G : GG) (h : Nat) (o : Ord) (d : Int64) : RdI l yX0_isInForce wsX0_isInForce (rmX 0 0 0 0) G [.ref h, .long d] [(h, .inr (1, fl o))] (fun r => ((r.toInt = 1 ∧ ((oF o).toInt ≤ (d).toInt ∧ (d).toInt ≤ (oU o).toInt ∧ (d).toInt < (oX o).toInt)) ∨ (r.toInt = 0 ∧ ¬ ((oF o).toInt ≤ (d).toInt ∧ (d).toInt ≤ (oU o).toInt ∧ (d).toInt < (oX o).toInt)))) := by
  refine rd_of_i (cc := cX0_isInForce) (maxL := 3) (t := .boolean) (by decide +kernel) rfl (Nat.le_of_ble_eq_true rfl) nar_bool ?_
  intro p e s m args below meth c Q hx hb hml hown hts hP hK hret ls hl
  have hown : s.vm.findClass RX0 = some m.cls := hown
  have hl : lv_has ls 3 [(0, .ref h), (1, .long d)] := hl
  have hP : va_P G.1 vwCl [(h, .inr (1, fl o))] s.heap := hP
  have hiX0 := (show ∀ w ∈ u_ws RX0 TX0 9, w ∈ wsX0_isInForce by decide +kernel)
  have lf24 := hts (.fieldLink RX0 24 "OrderRows2$Order" "from" "J") (by decide +kernel)
  have lf28 := hts (.fieldLink RX0 28 "OrderRows2$Order" "until" "J") (by decide +kernel)
  have lf36 := hts (.fieldLink RX0 36 "OrderRows2$Order" "overFrom" "J") (by decide +kernel)
  refine lv_aload_n hx hb dX0_isInForce_0 rfl (lv_at hl 0 rfl) ?_
  refine va_get (D := G.1) (ci := 1) (v := .long (oF o)) (own := RX0) (C := RX0) (T := TX0) (N := 9) hx hb hts hiX0 hown hK.1 hP 0 rfl rfl 4 (by decide) lf24 (fun _ h9 => h9) rfl dX0_isInForce_1 ?_
  refine lv_lload_n hx hb dX0_isInForce_4 rfl (lv_at hl 1 rfl) ?_
  refine lc_gt (tgt := 31) hx hb dX0_isInForce_5 dX0_isInForce_6 (by decide) (fun c5_1 => ?_) (fun c5_1 => ?_)
  · have c5_1 : (d).toInt < ((oF o)).toInt := (tl_lt (x := d) (y := (oF o)) (a := (d).toInt) (b := ((oF o)).toInt) rfl rfl).mp c5_1
    refine lv_iconst (v := 0) hx hb dX0_isInForce_31 (by decide) ?_
    exact hret _ _ _ dX0_isInForce_32 (Or.inl rfl) (Or.inr ⟨rfl, by omega⟩)
  · have c5_1 : ¬ ((d).toInt < ((oF o)).toInt) := mt (tl_lt (x := d) (y := (oF o)) (a := (d).toInt) (b := ((oF o)).toInt) rfl rfl).mpr c5_1
    refine lv_lload_n hx hb dX0_isInForce_9 rfl (lv_at hl 1 rfl) ?_
    refine lv_aload_n hx hb dX0_isInForce_10 rfl (lv_at hl 0 rfl) ?_
    refine va_get (D := G.1) (ci := 1) (v := .long (oU o)) (own := RX0) (C := RX0) (T := TX0) (N := 9) hx hb hts hiX0 hown hK.1 hP 0 rfl rfl 6 (by decide) lf28 (fun _ h9 => h9) rfl dX0_isInForce_11 ?_
    refine lc_gt (tgt := 31) hx hb dX0_isInForce_14 dX0_isInForce_15 (by decide) (fun c14_2 => ?_) (fun c14_2 => ?_)
    · have c14_2 : ((oU o)).toInt < (d).toInt := (tl_lt (x := (oU o)) (y := d) (a := ((oU o)).toInt) (b := (d).toInt) rfl rfl).mp c14_2
      refine lv_iconst (v := 0) hx hb dX0_isInForce_31 (by decide) ?_
      exact hret _ _ _ dX0_isInForce_32 (Or.inl rfl) (Or.inr ⟨rfl, by omega⟩)
    · have c14_2 : ¬ (((oU o)).toInt < (d).toInt) := mt (tl_lt (x := (oU o)) (y := d) (a := ((oU o)).toInt) (b := (d).toInt) rfl rfl).mpr c14_2
      refine lv_lload_n hx hb dX0_isInForce_18 rfl (lv_at hl 1 rfl) ?_
      refine lv_aload_n hx hb dX0_isInForce_19 rfl (lv_at hl 0 rfl) ?_
      refine va_get (D := G.1) (ci := 1) (v := .long (oX o)) (own := RX0) (C := RX0) (T := TX0) (N := 9) hx hb hts hiX0 hown hK.1 hP 0 rfl rfl 7 (by decide) lf36 (fun _ h9 => h9) rfl dX0_isInForce_20 ?_
      refine lc_ge (tgt := 31) hx hb dX0_isInForce_23 dX0_isInForce_24 (by decide) (fun c23_3 => ?_) (fun c23_3 => ?_)
      · have c23_3 : ((oX o)).toInt ≤ (d).toInt := (tl_le (x := (oX o)) (y := d) (a := ((oX o)).toInt) (b := (d).toInt) rfl rfl).mp c23_3
        refine lv_iconst (v := 0) hx hb dX0_isInForce_31 (by decide) ?_
        exact hret _ _ _ dX0_isInForce_32 (Or.inl rfl) (Or.inr ⟨rfl, by omega⟩)
      · have c23_3 : ¬ (((oX o)).toInt ≤ (d).toInt) := mt (tl_le (x := (oX o)) (y := d) (a := ((oX o)).toInt) (b := (d).toInt) rfl rfl).mpr c23_3
        refine lv_iconst (v := 1) hx hb dX0_isInForce_27 (by decide) ?_
        refine lv_goto (tgt := 32) hx hb dX0_isInForce_28 (by decide) ?_
        exact hret _ _ _ dX0_isInForce_32 (Or.inr (Or.inl rfl)) (Or.inl ⟨rfl, by omega⟩)

theorem mx_if (x y : Int64) : (if y < x then x else y).toInt = if x.toInt < y.toInt then y.toInt else x.toInt := by
  by_cases c : y < x
  · have h := (fa_lt64 y x).mp c
    rw [if_pos c, if_neg (by omega)]
  · have h := mt (fa_lt64 y x).mpr c
    rw [if_neg c]
    by_cases c2 : x.toInt < y.toInt
    · rw [if_pos c2]
    · rw [if_neg c2]; omega

set_option maxHeartbeats 4000000 in
set_option maxRecDepth 100000 in
/-- daysOfSpanFrom -/
theorem c_X0_daysOfSpanFrom (l : Launch) (G : GG) (h : Nat) (o : Ord) (d : Int64) (h1 : 0 ≤ (oF o).toInt) (h2 : (oF o).toInt ≤ (oU o).toInt) (h3 : (oU o).toInt ≤ 20000) (h4 : 0 ≤ (d).toInt) (h5 : (d).toInt ≤ 20000) : RdI l yX0_daysOfSpanFrom wsX0_daysOfSpanFrom (rmX 1 40 0 0) G [.ref h, .long d] [(h, .inr (1, fl o))] (fun r => r = nI (dys o d.toInt)) := by
  refine rd_of_i (cc := cX0_daysOfSpanFrom) (maxL := 5) (t := .int) (by decide +kernel) rfl (Nat.le_of_ble_eq_true rfl) nar_int ?_
  intro p e s m args below meth c Q hx hb hml hown hts hP hK hret ls hl
  have hown : s.vm.findClass RX0 = some m.cls := hown
  have hl : lv_has ls 5 [(0, .ref h), (1, .long d)] := hl
  have hP : va_P G.1 vwCl [(h, .inr (1, fl o))] s.heap := hP
  have hiX0 := (show ∀ w ∈ u_ws RX0 TX0 9, w ∈ wsX0_daysOfSpanFrom by decide +kernel)
  have lf24 := hts (.fieldLink RX0 24 "OrderRows2$Order" "from" "J") (by decide +kernel)
  have lf28 := hts (.fieldLink RX0 28 "OrderRows2$Order" "until" "J") (by decide +kernel)
  refine lv_aload_n hx hb dX0_daysOfSpanFrom_0 rfl (lv_at hl 0 rfl) ?_
  refine va_get (D := G.1) (ci := 1) (v := .long (oF o)) (own := RX0) (C := RX0) (T := TX0) (N := 9) hx hb hts hiX0 hown hK.1 hP 0 rfl rfl 4 (by decide) lf24 (fun _ h9 => h9) rfl dX0_daysOfSpanFrom_1 ?_
  refine lv_lload_n hx hb dX0_daysOfSpanFrom_4 rfl (lv_at hl 1 rfl) ?_
  refine va_mmax_long hx hb (by rw [hml]; exact hl.1.symm) hown (hts (.methodLink RX0 47 Lib.MathLoose.max_long.x) (by decide +kernel)) (hts (.static Lib.MathLoose.max_long.x) (by decide +kernel)) (hts (.initialized "java/lang/Math") (by decide +kernel)) (hts (.code Lib.MathLoose.max_long.x Lib.MathLoose.max_long.code 4 (some .long)) (by decide +kernel)) (Nat.le_of_ble_eq_true rfl) (Nat.le_of_ble_eq_true rfl) (Nat.zero_le _) (Nat.zero_le _) dX0_daysOfSpanFrom_5 ?_
  refine lv_topl (fun ym eym => ?_)
  have vym : ym.toInt = if ((oF o)).toInt < (d).toInt then (d).toInt else ((oF o)).toInt := by rw [eym]; exact mx_if (oF o) d
  refine lv_lstore_n (lv' := [(3, .long ym), (0, .ref h), (1, .long d)]) hx hb dX0_daysOfSpanFrom_8 rfl hl (by decide) rfl (fun ls hl => ?_)
  refine lv_lload_n hx hb dX0_daysOfSpanFrom_9 rfl (lv_at hl 0 rfl) ?_
  refine lv_aload_n hx hb dX0_daysOfSpanFrom_10 rfl (lv_at hl 1 rfl) ?_
  refine va_get (D := G.1) (ci := 1) (v := .long (oU o)) (own := RX0) (C := RX0) (T := TX0) (N := 9) hx hb hts hiX0 hown hK.1 hP 0 rfl rfl 6 (by decide) lf28 (fun _ h9 => h9) rfl dX0_daysOfSpanFrom_11 ?_
  refine lc_le (tgt := 22) hx hb dX0_daysOfSpanFrom_14 dX0_daysOfSpanFrom_15 (by decide) (fun c14_1 => ?_) (fun c14_1 => ?_)
  · have c14_1 : (ym).toInt ≤ ((oU o)).toInt := (tl_le (x := ym) (y := (oU o)) (a := (ym).toInt) (b := ((oU o)).toInt) rfl rfl).mp c14_1
    refine lv_aload_n hx hb dX0_daysOfSpanFrom_22 rfl (lv_at hl 1 rfl) ?_
    refine va_get (D := G.1) (ci := 1) (v := .long (oU o)) (own := RX0) (C := RX0) (T := TX0) (N := 9) hx hb hts hiX0 hown hK.1 hP 0 rfl rfl 6 (by decide) lf28 (fun _ h9 => h9) rfl dX0_daysOfSpanFrom_23 ?_
    refine lv_lload_n hx hb dX0_daysOfSpanFrom_26 rfl (lv_at hl 0 rfl) ?_
    refine lv_lsub hx hb dX0_daysOfSpanFrom_27 ?_
    refine lv_topl (fun y27_2 e27_2 => ?_)
    have v27_2 : (y27_2).toInt = (((oU o)).toInt - (ym).toInt) := by rw [e27_2]; exact tl_sub (a := ((oU o)).toInt) (b := (ym).toInt) rfl rfl (by omega) (by omega)
    refine lv_lconst (v := 1) hx hb dX0_daysOfSpanFrom_28 rfl ?_
    refine lv_ladd hx hb dX0_daysOfSpanFrom_29 ?_
    refine lv_topl (fun y29_3 e29_3 => ?_)
    have v29_3 : (y29_3).toInt = ((((oU o)).toInt - (ym).toInt) + 1) := by rw [e29_3]; exact tl_add (a := (((oU o)).toInt - (ym).toInt)) (b := 1) v27_2 rfl (by omega) (by omega)
    refine lv_l2i hx hb dX0_daysOfSpanFrom_30 rfl ?_
    refine lv_topi (fun y30_4 e30_4 => ?_)
    have v30_4 : (y30_4).toInt = ((((oU o)).toInt - (ym).toInt) + 1) := by rw [e30_4]; exact ti_l2i v29_3 (by omega) (by omega)
    exact hret _ _ _ dX0_daysOfSpanFrom_31 (Or.inr (Or.inr rfl)) (nI_ofI (k := dys o d.toInt) (v30_4.trans (by unfold dys; split at vym <;> split <;> omega)))
  · have c14_1 : ¬ ((ym).toInt ≤ ((oU o)).toInt) := mt (tl_le (x := ym) (y := (oU o)) (a := (ym).toInt) (b := ((oU o)).toInt) rfl rfl).mpr c14_1
    refine lv_iconst (v := 0) hx hb dX0_daysOfSpanFrom_18 (by decide) ?_
    refine lv_goto (tgt := 31) hx hb dX0_daysOfSpanFrom_19 (by decide) ?_
    exact hret _ _ _ dX0_daysOfSpanFrom_31 (Or.inr (Or.inr rfl)) (nI_ofI (k := dys o d.toInt) (show (0 : Int32).toInt = _ by unfold dys; show (0 : Int) = _; split at vym <;> split <;> omega))

theorem lap1_n {t : Int} {o : Ord} (h : ¬ lapC t o) : lap1 t o = o := if_neg h
theorem lap1_y {t : Int} {o : Ord} {x : Int64} (h : lapC t o) (hx : x = oM o + 15) : lap1 t o = oSX o x := by subst hx; exact if_pos h

set_option maxHeartbeats 4000000 in
set_option maxRecDepth 100000 in
/-- lapseIfDue -/
theorem c_X0_lapseIfDue (l : Launch) (G : GG) (h : Nat) (o : Ord) (t : Int64) (hm : 0 ≤ (oM o).toInt) (hm2 : (oM o).toInt ≤ 20000) : WrI l yX0_lapseIfDue wsX0_lapseIfDue (rmX 1 40 0 0) G [.ref h, .long t] [(h, .inr (1, fl o))] (fun (r : Int32) (u : Unit) => ((r.toInt = 1 ∧ ((oP o).toInt = 0 ∧ (oX o).toInt = 20001 ∧ (oM o).toInt + 14 < (t).toInt)) ∨ (r.toInt = 0 ∧ ¬ ((oP o).toInt = 0 ∧ (oX o).toInt = 20001 ∧ (oM o).toInt + 14 < (t).toInt)))) (fun u : Unit => [(h, .inr (1, fl (lap1 t.toInt o)))]) 0 0 := by
  refine wr_of_i (cc := cX0_lapseIfDue) (maxL := 3) (t := .boolean) (by decide +kernel) rfl (Nat.le_of_ble_eq_true rfl) nar_bool ?_
  intro p e s m args below meth c Q A hx hb hml hown hts hK hZ hA hret ls hl hP hD hS
  have hown : s.vm.findClass RX0 = some m.cls := hown
  have hl : lv_has ls 3 [(0, .ref h), (1, .long t)] := hl
  have hP : va_P G.1 vwCl [(h, .inr (1, fl o))] s.heap := hP
  have hD : va_D A [(h, .inr (1, fl o))] := hD
  have hiX0 := (show ∀ w ∈ u_ws RX0 TX0 9, w ∈ wsX0_lapseIfDue by decide +kernel)
  have lf39 := hts (.fieldLink RX0 39 "OrderRows2$Order" "isProved" "Z") (by decide +kernel)
  have cw53 := cwV (R := (rmX 1 40 0 0)) (s := s) (args := args) (rm := (rmX 0 0 0 0)) (mc := 0) (ms := 0) 0 hts gX0_lapseIfDue_X0_isOver rfl rfl rfl (by decide +kernel) ⟨Nat.le_of_ble_eq_true rfl, Nat.le_of_ble_eq_true rfl⟩
  have lf31 := hts (.fieldLink RX0 31 "OrderRows2$Order" "made" "J") (by decide +kernel)
  have kl57 := hts (.constantLong RX0 57 (14)) (by decide +kernel)
  have lf36 := hts (.fieldLink RX0 36 "OrderRows2$Order" "overFrom" "J") (by decide +kernel)
  refine lv_aload_n hx hb dX0_lapseIfDue_0 rfl (lv_at hl 0 rfl) ?_
  refine va_get (D := G.1) (ci := 1) (v := .int (oP o)) (own := RX0) (C := RX0) (T := TX0) (N := 9) hx hb hts hiX0 hown hK.1 hP 0 rfl rfl 8 (by decide) lf39 (fun _ h9 => h9) rfl dX0_lapseIfDue_1 ?_
  refine lv_if_ne (tgt := 27) hx hb dX0_lapseIfDue_4 (by decide) (fun c4_1 => ?_) (fun c4_1 => ?_)
  · have c4_1 : ¬ (((oP o)).toInt = 0) := mt (ti_eq (x := (oP o)) (y := 0) (a := ((oP o)).toInt) (b := 0) rfl rfl).mpr c4_1
    refine lv_iconst (v := 0) hx hb dX0_lapseIfDue_27 (by decide) ?_
    have el := lap1_n (t := t.toInt) (o := o) (by omega)
    exact hret _ _ _ _ _ _ _ () dX0_lapseIfDue_28 (Or.inl rfl) (Or.inr ⟨rfl, by omega⟩) (by rw [el]; exact hP) (by rw [el]; exact hD) hS (Nat.le_refl _) (Nat.le_refl _)
  · have c4_1 : ((oP o)).toInt = 0 := (ti_eq (x := (oP o)) (y := 0) (a := ((oP o)).toInt) (b := 0) rfl rfl).mp c4_1
    refine lv_aload_n hx hb dX0_lapseIfDue_7 rfl (lv_at hl 0 rfl) ?_
    refine rdV_i (b := h) (As := []) (rest := []) ⟨hx, hb, hml, hown, hts⟩ (c_X0_isOver l G h o ) cw53 hK hP 1 rfl rfl rfl rfl hl.1 rfl (Nat.le_of_ble_eq_true rfl) dX0_lapseIfDue_8 ⟨Nat.zero_le _, Nat.zero_le _⟩ (fun r8_2 w8_2 => ?_)
    have w8_2 : ((r8_2.toInt = 1 ∧ ((oX o).toInt ≠ 20001)) ∨ (r8_2.toInt = 0 ∧ ¬ ((oX o).toInt ≠ 20001))) := w8_2
    refine lv_if_ne (tgt := 27) hx hb dX0_lapseIfDue_11 (by decide) (fun c11_3 => ?_) (fun c11_3 => ?_)
    · have c11_3 : ¬ ((r8_2).toInt = 0) := mt (ti_eq (x := r8_2) (y := 0) (a := (r8_2).toInt) (b := 0) rfl rfl).mpr c11_3
      refine lv_iconst (v := 0) hx hb dX0_lapseIfDue_27 (by decide) ?_
      have el := lap1_n (t := t.toInt) (o := o) (by omega)
      exact hret _ _ _ _ _ _ _ () dX0_lapseIfDue_28 (Or.inl rfl) (Or.inr ⟨rfl, by omega⟩) (by rw [el]; exact hP) (by rw [el]; exact hD) hS (Nat.le_refl _) (Nat.le_refl _)
    · have c11_3 : (r8_2).toInt = 0 := (ti_eq (x := r8_2) (y := 0) (a := (r8_2).toInt) (b := 0) rfl rfl).mp c11_3
      refine lv_lload_n hx hb dX0_lapseIfDue_14 rfl (lv_at hl 1 rfl) ?_
      refine lv_aload_n hx hb dX0_lapseIfDue_15 rfl (lv_at hl 0 rfl) ?_
      refine va_get (D := G.1) (ci := 1) (v := .long (oM o)) (own := RX0) (C := RX0) (T := TX0) (N := 9) hx hb hts hiX0 hown hK.1 hP 0 rfl rfl 5 (by decide) lf31 (fun _ h9 => h9) rfl dX0_lapseIfDue_16 ?_
      refine lv_ldc2 (v := 14) hx hb hown kl57 dX0_lapseIfDue_19 ?_
      refine lv_ladd hx hb dX0_lapseIfDue_22 ?_
      refine lv_topl (fun y22_4 e22_4 => ?_)
      have v22_4 : (y22_4).toInt = (((oM o)).toInt + 14) := by rw [e22_4]; exact tl_add (a := ((oM o)).toInt) (b := 14) rfl rfl (by omega) (by omega)
      refine lc_gt (tgt := 29) hx hb dX0_lapseIfDue_23 dX0_lapseIfDue_24 (by decide) (fun c23_5 => ?_) (fun c23_5 => ?_)
      · have c23_5 : (((oM o)).toInt + 14) < (t).toInt := (tl_lt (x := y22_4) (y := t) (a := (((oM o)).toInt + 14)) (b := (t).toInt) v22_4 rfl).mp c23_5
        refine lv_aload_n hx hb dX0_lapseIfDue_29 rfl (lv_at hl 0 rfl) ?_
        refine lv_aload_n hx hb dX0_lapseIfDue_30 rfl (lv_at hl 0 rfl) ?_
        refine va_get (D := G.1) (ci := 1) (v := .long (oM o)) (own := RX0) (C := RX0) (T := TX0) (N := 9) hx hb hts hiX0 hown hK.1 hP 0 rfl rfl 5 (by decide) lf31 (fun _ h9 => h9) rfl dX0_lapseIfDue_31 ?_
        refine lv_ldc2 (v := 14) hx hb hown kl57 dX0_lapseIfDue_34 ?_
        refine lv_ladd hx hb dX0_lapseIfDue_37 ?_
        refine lv_topl (fun y37_6 e37_6 => ?_)
        have v37_6 : (y37_6).toInt = (((oM o)).toInt + 14) := by rw [e37_6]; exact tl_add (a := ((oM o)).toInt) (b := 14) rfl rfl (by omega) (by omega)
        refine lv_lconst (v := 1) hx hb dX0_lapseIfDue_38 rfl ?_
        refine lv_ladd hx hb dX0_lapseIfDue_39 ?_
        refine lv_topl (fun y39_7 e39_7 => ?_)
        have v39_7 : (y39_7).toInt = ((((oM o)).toInt + 14) + 1) := by rw [e39_7]; exact tl_add (a := (((oM o)).toInt + 14)) (b := 1) v37_6 rfl (by omega) (by omega)
        have e15 : (oM o + 15 : Int64).toInt = (oM o).toInt + 15 := tl_add rfl rfl (by omega) (by omega)
        have hlap : y39_7 = oM o + 15 := tl_inj (by rw [v39_7, e15]; omega)
        refine va_put (D := G.1) (ci := 1) (v := .long y39_7) (ty := .long) (own := RX0) (C := RX0) (T := TX0) (N := 9) hx hb hts hiX0 tyX0 tyX0_ok nmX0 hown hK.1 hP hD hS 0 rfl rfl 7 (by decide) lf36 (fun _ h9 => h9) rfl (by decide +kernel) rfl rfl (Nat.le_of_ble_eq_true rfl) dX0_lapseIfDue_40 (fun H locs hP hD hS => ?_)
        have hP : va_P G.1 vwCl [(h, .inr (1, [.int (oK o), .int (oE o), .int (oW o), .int (oT o), .long (oF o), .long (oM o), .long (oU o), .long y39_7, .int (oP o)]))] H := hP
        have hD : va_D A [(h, .inr (1, [.int (oK o), .int (oE o), .int (oW o), .int (oT o), .long (oF o), .long (oM o), .long (oU o), .long y39_7, .int (oP o)]))] := hD
        refine lv_iconst (v := 1) hx hb dX0_lapseIfDue_43 (by decide) ?_
        have el := lap1_y (t := t.toInt) (o := o) (by omega) hlap
        exact hret _ _ _ _ _ _ _ () dX0_lapseIfDue_44 (Or.inr (Or.inl rfl)) (Or.inl ⟨rfl, by omega⟩) (by rw [el]; exact hP) (by rw [el]; exact hD) hS (Nat.le_refl _) (Nat.le_refl _)
      · have c23_5 : ¬ ((((oM o)).toInt + 14) < (t).toInt) := mt (tl_lt (x := y22_4) (y := t) (a := (((oM o)).toInt + 14)) (b := (t).toInt) v22_4 rfl).mpr c23_5
        refine lv_iconst (v := 0) hx hb dX0_lapseIfDue_27 (by decide) ?_
        have el := lap1_n (t := t.toInt) (o := o) (by omega)
        exact hret _ _ _ _ _ _ _ () dX0_lapseIfDue_28 (Or.inl rfl) (Or.inr ⟨rfl, by omega⟩) (by rw [el]; exact hP) (by rw [el]; exact hD) hS (Nat.le_refl _) (Nat.le_refl _)

set_option maxHeartbeats 4000000 in
set_option maxRecDepth 100000 in
/-- checkIndex -/
theorem c_J3_checkIndex_8e157 (l : Launch) (G : GG) (i n : Int32) (h1 : 0 ≤ (i).toInt) (h2 : (i).toInt < (n).toInt) : RdI l yJ3_checkIndex_8e157 wsJ3_checkIndex_8e157 (rmX 0 0 0 0) G [.int i, .int n, .null] [] (fun r => r = i) := by
  refine rd_of_i (cc := cJ3_checkIndex_8e157) (maxL := 3) (t := .int) (by decide +kernel) rfl (Nat.le_of_ble_eq_true rfl) nar_int ?_
  intro p e s m args below meth c Q hx hb hml hown hts hP hK hret ls hl
  have hown : s.vm.findClass RJ3 = some m.cls := hown
  have hl : lv_has ls 3 [(0, .int i), (1, .int n), (2, .null)] := hl
  refine lv_iload_n hx hb dJ3_checkIndex_8e157_0 rfl (lv_at hl 0 rfl) ?_
  refine lv_if_lt (tgt := 9) hx hb dJ3_checkIndex_8e157_1 (by decide) (fun c1_1 => ?_) (fun c1_1 => ?_)
  · have c1_1 : (i).toInt < 0 := (ti_lt (x := i) (y := 0) (a := (i).toInt) (b := 0) rfl rfl).mp c1_1
    exfalso; omega
  · have c1_1 : ¬ ((i).toInt < 0) := mt (ti_lt (x := i) (y := 0) (a := (i).toInt) (b := 0) rfl rfl).mpr c1_1
    refine lv_iload_n hx hb dJ3_checkIndex_8e157_4 rfl (lv_at hl 0 rfl) ?_
    refine lv_iload_n hx hb dJ3_checkIndex_8e157_5 rfl (lv_at hl 1 rfl) ?_
    refine lv_icmp_lt (tgt := 16) hx hb dJ3_checkIndex_8e157_6 (by decide) (fun c6_2 => ?_) (fun c6_2 => ?_)
    · have c6_2 : (i).toInt < (n).toInt := (ti_lt (x := i) (y := n) (a := (i).toInt) (b := (n).toInt) rfl rfl).mp c6_2
      refine lv_iload_n hx hb dJ3_checkIndex_8e157_16 rfl (lv_at hl 0 rfl) ?_
      exact hret _ _ _ dJ3_checkIndex_8e157_17 (Or.inr (Or.inr rfl)) rfl
    · have c6_2 : ¬ ((i).toInt < (n).toInt) := mt (ti_lt (x := i) (y := n) (a := (i).toInt) (b := (n).toInt) rfl rfl).mpr c6_2
      exfalso; omega

set_option maxHeartbeats 4000000 in
set_option maxRecDepth 100000 in
/-- checkIndex -/
theorem c_J15_checkIndex_7cf53 (l : Launch) (G : GG) (i n : Int32) (h1 : 0 ≤ (i).toInt) (h2 : (i).toInt < (n).toInt) : RdI l yJ15_checkIndex_7cf53 wsJ15_checkIndex_7cf53 (rmX 1 40 0 0) G [.int i, .int n] [] (fun r => r = i) := by
  refine rd_of_i (cc := cJ15_checkIndex_7cf53) (maxL := 2) (t := .int) (by decide +kernel) rfl (Nat.le_of_ble_eq_true rfl) nar_int ?_
  intro p e s m args below meth c Q hx hb hml hown hts hP hK hret ls hl
  have hown : s.vm.findClass RJ15 = some m.cls := hown
  have hl : lv_has ls 2 [(0, .int i), (1, .int n)] := hl
  have cw105 := va_cwS (R := (rmX 1 40 0 0)) (s := s) (args := args) (rm := (rmX 0 0 0 0)) (mc := 0) (ms := 0) 3 hts gJ15_checkIndex_7cf53_J3_checkIndex_8e157 rfl rfl rfl (by decide +kernel) ⟨Nat.le_of_ble_eq_true rfl, Nat.le_of_ble_eq_true rfl⟩
  refine lv_iload_n hx hb dJ15_checkIndex_7cf53_0 rfl (lv_at hl 0 rfl) ?_
  refine lv_iload_n hx hb dJ15_checkIndex_7cf53_1 rfl (lv_at hl 1 rfl) ?_
  refine lv_null hx hb dJ15_checkIndex_7cf53_2 ?_
  refine rdS_i (As := [.int i, .int n, .null]) (rest := []) ⟨hx, hb, hml, hown, hts⟩ (c_J3_checkIndex_8e157 l G i n (by omega) (by omega)) cw105 hK va_P.nil rfl hl.1 rfl (Nat.le_of_ble_eq_true rfl) dJ15_checkIndex_7cf53_3 ⟨Nat.zero_le _, Nat.zero_le _⟩ (fun r1 w1 => ?_)
  exact hret _ _ _ dJ15_checkIndex_7cf53_6 (Or.inr (Or.inr rfl)) w1

set_option maxHeartbeats 4000000 in
set_option maxRecDepth 100000 in
/-- ArrayList.size -/
theorem c_Jx4a65c_size_8abf5 (l : Launch) (G : GG) (h : Nat) (md z : Int32) (ed : Value) : RdI l yJx4a65c_size_8abf5 wsJx4a65c_size_8abf5 (rmX 0 0 0 0) G [.ref h] [(h, .inr (0, [.int md, ed, .int z]))] (fun r => r = z) := by
  refine rd_of_i (cc := cJx4a65c_size_8abf5) (maxL := 1) (t := .int) (by decide +kernel) rfl (Nat.le_of_ble_eq_true rfl) nar_int ?_
  intro p e s m args below meth c Q hx hb hml hown hts hP hK hret ls hl
  have hown : s.vm.findClass RJx4a65c = some m.cls := hown
  have hl : lv_has ls 1 [(0, .ref h)] := hl
  have hP : va_P G.1 vwCl [(h, .inr (0, [.int md, ed, .int z]))] s.heap := hP
  have hiJx4a65c := (show ∀ w ∈ u_ws RJx4a65c TJx4a65c 3, w ∈ wsJx4a65c_size_8abf5 by decide +kernel)
  have lf48 := hts (.fieldLink RJx4a65c 48 "java/util/ArrayList" "size" "I") (by decide +kernel)
  refine lv_aload_n hx hb dJx4a65c_size_8abf5_0 rfl (lv_at hl 0 rfl) ?_
  refine va_get (D := G.1) (ci := 0) (v := .int z) (own := RJx4a65c) (C := RJx4a65c) (T := TJx4a65c) (N := 3) hx hb hts hiJx4a65c hown hK.1 hP 0 rfl rfl 2 (by decide) lf48 (fun _ h9 => h9) rfl dJx4a65c_size_8abf5_1 ?_
  exact hret _ _ _ dJx4a65c_size_8abf5_4 (Or.inr (Or.inr rfl)) rfl

set_option maxHeartbeats 4000000 in
set_option maxRecDepth 100000 in
/-- ArrayList.elementData -/
theorem c_Jx4a65c_elementData_915e3 (l : Launch) (G : GG) (h : Nat) (md z i : Int32) (a2 N k : Nat) (f : Nat → Option Nat) (hi : (i).toInt = (k : Int)) (hk : k < N) : RdQ l yJx4a65c_elementData_915e3 wsJx4a65c_elementData_915e3 (rmX 0 0 0 0) G [.ref h, .int i] [(h, .inr (0, [.int md, .ref a2, .int z])), aO G a2 N f] (fun r => r = f k) := by
  refine rd_of_q (cc := cJx4a65c_elementData_915e3) (maxL := 2) (by decide +kernel) rfl (Nat.le_of_ble_eq_true rfl) ?_
  intro p e s m args below meth c Q hx hb hml hown hts hP hK hret ls hl
  have hown : s.vm.findClass RJx4a65c = some m.cls := hown
  have hl : lv_has ls 2 [(0, .ref h), (1, .int i)] := hl
  have hP : va_P G.1 vwCl [(h, .inr (0, [.int md, .ref a2, .int z])), aO G a2 N f] s.heap := hP
  have hiJx4a65c := (show ∀ w ∈ u_ws RJx4a65c TJx4a65c 3, w ∈ wsJx4a65c_elementData_915e3 by decide +kernel)
  have lf9 := hts (.fieldLink RJx4a65c 9 "java/util/ArrayList" "elementData" "[Ljava/lang/Object;") (by decide +kernel)
  refine lv_aload_n hx hb dJx4a65c_elementData_915e3_0 rfl (lv_at hl 0 rfl) ?_
  refine va_get (D := G.1) (ci := 0) (v := .ref a2) (own := RJx4a65c) (C := RJx4a65c) (T := TJx4a65c) (N := 3) hx hb hts hiJx4a65c hown hK.1 hP 0 rfl rfl 1 (by decide) lf9 (fun _ h9 => h9) rfl dJx4a65c_elementData_915e3_1 ?_
  refine lv_iload_n hx hb dJx4a65c_elementData_915e3_4 rfl (lv_at hl 1 rfl) ?_
  refine va_aldq hx hb hK.1 hP 1 3 rfl rfl (i := i) (vp_inI hi (by omega)) dJx4a65c_elementData_915e3_5 ?_
  rw [ix_I hi]
  exact hret _ _ _ _ dJx4a65c_elementData_915e3_6 rfl rfl

set_option maxHeartbeats 4000000 in
set_option maxRecDepth 100000 in
/-- ArrayList.get -/
theorem c_Jx4a65c_get_915e3 (l : Launch) (G : GG) (h : Nat) (md i : Int32) (a2 N n k : Nat) (f : Nat → Option Nat) (hi : (i).toInt = (k : Int)) (hk : k < n) (hn : n ≤ N) (hn2 : n ≤ 200) : RdQ l yJx4a65c_get_915e3 wsJx4a65c_get_915e3 (rmX 2 70 0 0) G [.ref h, .int i] [(h, .inr (0, [.int md, .ref a2, .int (nI n)])), aO G a2 N f] (fun r => r = f k) := by
  refine rd_of_q (cc := cJx4a65c_get_915e3) (maxL := 2) (by decide +kernel) rfl (Nat.le_of_ble_eq_true rfl) ?_
  intro p e s m args below meth c Q hx hb hml hown hts hP hK hret ls hl
  have hown : s.vm.findClass RJx4a65c = some m.cls := hown
  have hl : lv_has ls 2 [(0, .ref h), (1, .int i)] := hl
  have hP : va_P G.1 vwCl [(h, .inr (0, [.int md, .ref a2, .int (nI n)])), aO G a2 N f] s.heap := hP
  have hiJx4a65c := (show ∀ w ∈ u_ws RJx4a65c TJx4a65c 3, w ∈ wsJx4a65c_get_915e3 by decide +kernel)
  have lf48 := hts (.fieldLink RJx4a65c 48 "java/util/ArrayList" "size" "I") (by decide +kernel)
  have cw118 := va_cwS (R := (rmX 2 70 0 0)) (s := s) (args := args) (rm := (rmX 1 40 0 0)) (mc := 0) (ms := 0) 2 hts gJx4a65c_get_915e3_J15_checkIndex_7cf53 rfl rfl rfl (by decide +kernel) ⟨Nat.le_of_ble_eq_true rfl, Nat.le_of_ble_eq_true rfl⟩
  have cw123 := cwV (R := (rmX 2 70 0 0)) (s := s) (args := args) (rm := (rmX 0 0 0 0)) (mc := 0) (ms := 0) 1 hts gJx4a65c_get_915e3_Jx4a65c_elementData_915e3 rfl rfl rfl (by decide +kernel) ⟨Nat.le_of_ble_eq_true rfl, Nat.le_of_ble_eq_true rfl⟩
  refine lv_iload_n hx hb dJx4a65c_get_915e3_0 rfl (lv_at hl 1 rfl) ?_
  refine lv_aload_n hx hb dJx4a65c_get_915e3_1 rfl (lv_at hl 0 rfl) ?_
  refine va_get (D := G.1) (ci := 0) (v := .int (nI n)) (own := RJx4a65c) (C := RJx4a65c) (T := TJx4a65c) (N := 3) hx hb hts hiJx4a65c hown hK.1 hP 0 rfl rfl 2 (by decide) lf48 (fun _ h9 => h9) rfl dJx4a65c_get_915e3_2 ?_
  have va2 : ((nI n)).toInt = ((n : Nat) : Int) := (ti_nI (by omega))
  refine rdS_i (As := [.int i, .int (nI n)]) (rest := []) ⟨hx, hb, hml, hown, hts⟩ (c_J15_checkIndex_7cf53 l G i (nI n) (by omega) (by omega)) cw118 hK va_P.nil rfl hl.1 rfl (Nat.le_of_ble_eq_true rfl) dJx4a65c_get_915e3_5 ⟨Nat.zero_le _, Nat.zero_le _⟩ (fun r1 w1 => ?_)
  refine lv_pop hx hb dJx4a65c_get_915e3_8 rfl ?_
  refine lv_aload_n hx hb dJx4a65c_get_915e3_9 rfl (lv_at hl 0 rfl) ?_
  refine lv_iload_n hx hb dJx4a65c_get_915e3_10 rfl (lv_at hl 1 rfl) ?_
  refine rdV_q (b := h) (As := [.int i]) (rest := []) ⟨hx, hb, hml, hown, hts⟩ (c_Jx4a65c_elementData_915e3 l G h md (nI n) i a2 N k f hi (by omega)) cw123 hK hP 0 rfl rfl rfl rfl hl.1 rfl (Nat.le_of_ble_eq_true rfl) dJx4a65c_get_915e3_11 ⟨Nat.zero_le _, Nat.zero_le _⟩ (fun r3 w3 => ?_)
  exact hret _ _ _ _ dJx4a65c_get_915e3_14 rfl w3

set_option maxHeartbeats 4000000 in
set_option maxRecDepth 100000 in
/-- canBeClock -/
theorem c_X1_canBeClock (l : Launch) (G : GG) (a : AD) (κ : KP) (σ : St) (hI : SI σ) (hC : CI κ σ) (t : Int64) : RdI l yX1_canBeClock wsX1_canBeClock (rmX 1 40 0 0) G [.ref a.1, .long t] (WC G a κ σ) (fun r => ((r.toInt = 1 ∧ (0 ≤ (t).toInt ∧ (t).toInt ≤ 20000 ∧ (sT σ).toInt ≤ (t).toInt)) ∨ (r.toInt = 0 ∧ ¬ (0 ≤ (t).toInt ∧ (t).toInt ≤ 20000 ∧ (sT σ).toInt ≤ (t).toInt)))) := by
  refine rd_of_i (cc := cX1_canBeClock) (maxL := 3) (t := .boolean) (by decide +kernel) rfl (Nat.le_of_ble_eq_true rfl) nar_bool ?_
  intro p e s m args below meth c Q hx hb hml hown hts hP hK hret ls hl
  have hown : s.vm.findClass RX1 = some m.cls := hown
  have hl : lv_has ls 3 [(0, .ref a.1), (1, .long t)] := hl
  have hP : va_P G.1 vwCl (CW G a (nI (sG σ).length) (sT σ) (sR σ) κ.2.2.2.2.2.1 κ.2.2.2.2.2.2 (pO κ.2.2.2.2.1 (sO σ) (sN σ)) (LW G a.2.1 κ.1 κ.2.1 κ.2.2.1 κ.2.2.2.1 (sN σ))) s.heap := hP
  obtain ⟨hI1, hI2, hI3, hI4, hI5⟩ := id hI
  have cw48 := va_cwS (R := (rmX 1 40 0 0)) (s := s) (args := args) (rm := (rmX 0 0 0 0)) (mc := 0) (ms := 0) 1 hts gX1_canBeClock_X1_isDay rfl rfl rfl (by decide +kernel) ⟨Nat.le_of_ble_eq_true rfl, Nat.le_of_ble_eq_true rfl⟩
  have hiX1 := (show ∀ w ∈ u_ws RX1 TX1 6, w ∈ wsX1_canBeClock by decide +kernel)
  have lf30 := hts (.fieldLink RX1 30 "OrderRows2" "clock" "J") (by decide +kernel)
  refine lv_lload_n hx hb dX1_canBeClock_0 rfl (lv_at hl 1 rfl) ?_
  refine rdS_i (As := [.long t]) (rest := []) ⟨hx, hb, hml, hown, hts⟩ (c_X1_isDay l G t) cw48 hK va_P.nil rfl hl.1 rfl (Nat.le_of_ble_eq_true rfl) dX1_canBeClock_1 ⟨Nat.zero_le _, Nat.zero_le _⟩ (fun r1_1 w1_1 => ?_)
  have w1_1 : ((r1_1.toInt = 1 ∧ (0 ≤ (t).toInt ∧ (t).toInt ≤ 20000)) ∨ (r1_1.toInt = 0 ∧ ¬ (0 ≤ (t).toInt ∧ (t).toInt ≤ 20000))) := w1_1
  refine lv_if_eq (tgt := 20) hx hb dX1_canBeClock_4 (by decide) (fun c4_2 => ?_) (fun c4_2 => ?_)
  · have c4_2 : (r1_1).toInt = 0 := (ti_eq (x := r1_1) (y := 0) (a := (r1_1).toInt) (b := 0) rfl rfl).mp c4_2
    refine lv_iconst (v := 0) hx hb dX1_canBeClock_20 (by decide) ?_
    exact hret _ _ _ dX1_canBeClock_21 (Or.inl rfl) (Or.inr ⟨rfl, by omega⟩)
  · have c4_2 : ¬ ((r1_1).toInt = 0) := mt (ti_eq (x := r1_1) (y := 0) (a := (r1_1).toInt) (b := 0) rfl rfl).mpr c4_2
    refine lv_lload_n hx hb dX1_canBeClock_7 rfl (lv_at hl 1 rfl) ?_
    refine lv_aload_n hx hb dX1_canBeClock_8 rfl (lv_at hl 0 rfl) ?_
    refine va_get (D := G.1) (ci := 2) (v := .long (sT σ)) (own := RX1) (C := RX1) (T := TX1) (N := 6) hx hb hts hiX1 hown hK.1 hP 0 rfl rfl 5 (by decide) lf30 (fun _ h9 => h9) rfl dX1_canBeClock_9 ?_
    refine lc_lt (tgt := 20) hx hb dX1_canBeClock_12 dX1_canBeClock_13 (by decide) (fun c12_3 => ?_) (fun c12_3 => ?_)
    · have c12_3 : (t).toInt < ((sT σ)).toInt := (tl_lt (x := t) (y := (sT σ)) (a := (t).toInt) (b := ((sT σ)).toInt) rfl rfl).mp c12_3
      refine lv_iconst (v := 0) hx hb dX1_canBeClock_20 (by decide) ?_
      exact hret _ _ _ dX1_canBeClock_21 (Or.inl rfl) (Or.inr ⟨rfl, by omega⟩)
    · have c12_3 : ¬ ((t).toInt < ((sT σ)).toInt) := mt (tl_lt (x := t) (y := (sT σ)) (a := (t).toInt) (b := ((sT σ)).toInt) rfl rfl).mpr c12_3
      refine lv_iconst (v := 1) hx hb dX1_canBeClock_16 (by decide) ?_
      refine lv_goto (tgt := 21) hx hb dX1_canBeClock_17 (by decide) ?_
      exact hret _ _ _ dX1_canBeClock_21 (Or.inr (Or.inl rfl)) (Or.inl ⟨rfl, by omega⟩)

set_option maxHeartbeats 4000000 in
set_option maxRecDepth 100000 in
/-- find -/
theorem c_X1_find (l : Launch) (G : GG) (a : AD) (κ : KP) (σ : St) (hI : SI σ) (hC : CI κ σ) (o : Int32) : RdQ l yX1_find wsX1_find (rmX 3 100 0 0) G [.ref a.1, .int o] (WC G a κ σ) (fun r => ((r = none ∧ ¬ (1 ≤ (o).toInt ∧ (o).toInt ≤ ((sN σ : Nat) : Int))) ∨ (∃ i, i < sN σ ∧ (o).toInt = (i : Int) + 1 ∧ r = some (κ.2.2.2.2.1 i)))) := by
  refine rd_of_q (cc := cX1_find) (maxL := 2) (by decide +kernel) rfl (Nat.le_of_ble_eq_true rfl) ?_
  intro p e s m args below meth c Q hx hb hml hown hts hP hK hret ls hl
  have hown : s.vm.findClass RX1 = some m.cls := hown
  have hl : lv_has ls 2 [(0, .ref a.1), (1, .int o)] := hl
  have hP : va_P G.1 vwCl (CW G a (nI (sG σ).length) (sT σ) (sR σ) κ.2.2.2.2.2.1 κ.2.2.2.2.2.2 (pO κ.2.2.2.2.1 (sO σ) (sN σ)) (LW G a.2.1 κ.1 κ.2.1 κ.2.2.1 κ.2.2.2.1 (sN σ))) s.heap := hP
  obtain ⟨hI1, hI2, hI3, hI4, hI5⟩ := id hI
  have hiX1 := (show ∀ w ∈ u_ws RX1 TX1 6, w ∈ wsX1_find by decide +kernel)
  have lf10 := hts (.fieldLink RX1 10 "OrderRows2" "orders" "Ljava/util/ArrayList;") (by decide +kernel)
  have cw52 := cwV (R := (rmX 3 100 0 0)) (s := s) (args := args) (rm := (rmX 0 0 0 0)) (mc := 0) (ms := 0) 0 hts gX1_find_Jx4a65c_size_8abf5 rfl rfl rfl (by decide +kernel) ⟨Nat.le_of_ble_eq_true rfl, Nat.le_of_ble_eq_true rfl⟩
  have cw114 := cwV (R := (rmX 3 100 0 0)) (s := s) (args := args) (rm := (rmX 2 70 0 0)) (mc := 0) (ms := 0) 1 hts gX1_find_Jx4a65c_get_915e3 rfl rfl rfl (by decide +kernel) ⟨Nat.le_of_ble_eq_true rfl, Nat.le_of_ble_eq_true rfl⟩
  have cl56 := hts (.classLink RX1 56 RX0) (by decide +kernel)
  refine lv_iload_n hx hb dX1_find_0 rfl (lv_at hl 1 rfl) ?_
  refine lv_iconst (v := 1) hx hb dX1_find_1 (by decide) ?_
  refine lv_icmp_lt (tgt := 16) hx hb dX1_find_2 (by decide) (fun c2_1 => ?_) (fun c2_1 => ?_)
  · have c2_1 : (o).toInt < 1 := (ti_lt (x := o) (y := 1) (a := (o).toInt) (b := 1) rfl rfl).mp c2_1
    refine lv_null hx hb dX1_find_16 ?_
    refine lv_goto (tgt := 33) hx hb dX1_find_17 (by decide) ?_
    exact hret _ _ none _ dX1_find_33 rfl (Or.inl ⟨rfl, by omega⟩)
  · have c2_1 : ¬ ((o).toInt < 1) := mt (ti_lt (x := o) (y := 1) (a := (o).toInt) (b := 1) rfl rfl).mpr c2_1
    refine lv_iload_n hx hb dX1_find_5 rfl (lv_at hl 1 rfl) ?_
    refine lv_aload_n hx hb dX1_find_6 rfl (lv_at hl 0 rfl) ?_
    refine va_get (D := G.1) (ci := 2) (v := .ref a.2.1) (own := RX1) (C := RX1) (T := TX1) (N := 6) hx hb hts hiX1 hown hK.1 hP 0 rfl rfl 0 (by decide) lf10 (fun _ h9 => h9) rfl dX1_find_7 ?_
    refine rdV_i (b := a.2.1) (As := []) (rest := [.int o]) ⟨hx, hb, hml, hown, hts⟩ (c_Jx4a65c_size_8abf5 l G a.2.1 κ.1 (nI (sN σ)) _) cw52 hK (LW_one (CW_list hP)) 0 rfl rfl rfl rfl hl.1 rfl (Nat.le_of_ble_eq_true rfl) dX1_find_10 ⟨Nat.zero_le _, Nat.zero_le _⟩ (fun r2 w2 => ?_)
    have w2 : r2.toInt = (((sN σ) : Nat) : Int) := by rw [w2]; exact ti_nI (by omega)
    refine lv_icmp_le (tgt := 20) hx hb dX1_find_13 (by decide) (fun c13_3 => ?_) (fun c13_3 => ?_)
    · have c13_3 : (o).toInt ≤ (((sN σ) : Nat) : Int) := (ti_le (x := o) (y := r2) (a := (o).toInt) (b := (((sN σ) : Nat) : Int)) rfl w2).mp c13_3
      refine lv_aload_n hx hb dX1_find_20 rfl (lv_at hl 0 rfl) ?_
      refine va_get (D := G.1) (ci := 2) (v := .ref a.2.1) (own := RX1) (C := RX1) (T := TX1) (N := 6) hx hb hts hiX1 hown hK.1 hP 0 rfl rfl 0 (by decide) lf10 (fun _ h9 => h9) rfl dX1_find_21 ?_
      refine lv_iload_n hx hb dX1_find_24 rfl (lv_at hl 1 rfl) ?_
      refine lv_iconst (v := 1) hx hb dX1_find_25 (by decide) ?_
      refine lv_isub hx hb dX1_find_26 ?_
      refine lv_topi (fun y26_4 e26_4 => ?_)
      have v26_4 : (y26_4).toInt = ((o).toInt - 1) := by rw [e26_4]; exact ti_sub (a := (o).toInt) (b := 1) rfl rfl (by omega) (by omega)
      have hk5 : (((o).toInt - 1)).toNat < (sN σ) := by omega
      obtain ⟨hc5, hd5, he5⟩ := hC.1 (by omega)
      refine rdV_q (b := a.2.1) (As := [.int y26_4]) (rest := []) ⟨hx, hb, hml, hown, hts⟩ (c_Jx4a65c_get_915e3 l G a.2.1 κ.1 y26_4 κ.2.1 κ.2.2.1 (sN σ) ((((o).toInt - 1)).toNat) κ.2.2.2.1 (v26_4.trans (by omega)) hk5 hc5 (by omega)) cw114 hK (LW_pos (show (sN σ) ≠ 0 by omega) ▸ CW_list hP) 0 rfl rfl rfl rfl hl.1 rfl (Nat.le_of_ble_eq_true rfl) dX1_find_27 ⟨Nat.zero_le _, Nat.zero_le _⟩ (fun r5 w5 => ?_)
      obtain rfl : r5 = some (κ.2.2.2.2.1 ((((o).toInt - 1)).toNat)) := w5.trans (he5 ((((o).toInt - 1)).toNat) hk5)
      refine W.eq (g2 := F0 m 30 ls [.ref (κ.2.2.2.2.1 ((((o).toInt - 1)).toNat))]) rfl ?_
      refine va_castS (own := RX1) (nm := RX0) hx hb hown cl56 (hK.1.1 1 _ rfl).2 (va_recv hK.1 hP (ci := 1) (q0 := ((((o).toInt - 1)).toNat) + 4) rfl (CW_get hk5)) dX1_find_30 ?_
      exact hret _ _ (some (κ.2.2.2.2.1 ((((o).toInt - 1)).toNat))) _ dX1_find_33 rfl (Or.inr ⟨((((o).toInt - 1)).toNat), hk5, by omega, rfl⟩)
    · have c13_3 : ¬ ((o).toInt ≤ (((sN σ) : Nat) : Int)) := mt (ti_le (x := o) (y := r2) (a := (o).toInt) (b := (((sN σ) : Nat) : Int)) rfl w2).mpr c13_3
      refine lv_null hx hb dX1_find_16 ?_
      refine lv_goto (tgt := 33) hx hb dX1_find_17 (by decide) ?_
      exact hret _ _ none _ dX1_find_33 rfl (Or.inl ⟨rfl, by omega⟩)
end
section
/-! plain facts of the state's functions -/
theorem ff_found {p : Nat → Bool} {n j : Nat} (hj : j < n) (h : p j = true) (hb : ∀ i, i < j → p i = false) : fa_first p n = j := by
  have h1 := fa_first_le p n
  have h2 := fa_first_no p n
  rcases Nat.lt_trichotomy (fa_first p n) j with q | q | q
  · have h3 := fa_first_yes p n (by omega)
    rw [hb _ q] at h3
    cases h3
  · exact q
  · have h3 := h2 j q
    rw [h] at h3
    cases h3
theorem ff_none {p : Nat → Bool} {n : Nat} (hb : ∀ i, i < n → p i = false) : fa_first p n = n := by
  have h1 := fa_first_le p n
  rcases Nat.lt_or_ge (fa_first p n) n with q | q
  · have h3 := fa_first_yes p n q
    rw [hb _ q] at h3
    cases h3
  · omega
theorem ff_cong {p q : Nat → Bool} {n : Nat} (h : ∀ i, i < n → p i = q i) : fa_first p n = fa_first q n := by
  induction n with
  | zero => rfl
  | succ n ih =>
    have e := ih (fun i hi => h i (by omega))
    simp only [fa_first]
    rw [e, h n (by omega)]
theorem bst_no {σ : St} {a w k d : Int} {j : Nat} (h : ¬ mtC (sO σ j) a w k d) : bst σ a w k d (j + 1) = bst σ a w k d j := by
  rw [bst, if_neg h]
theorem bst_first {σ : St} {a w k d : Int} {j : Nat} (h : mtC (sO σ j) a w k d) (hb : bst σ a w k d j = none) : bst σ a w k d (j + 1) = some j := by
  rw [bst, if_pos h, hb]
theorem bst_up {σ : St} {a w k d : Int} {j b : Nat} (h : mtC (sO σ j) a w k d) (hb : bst σ a w k d j = some b) (hr : rkI σ b ≤ rkI σ j) : bst σ a w k d (j + 1) = some j := by
  rw [bst, if_pos h, hb]
  exact if_pos hr
theorem bst_keep {σ : St} {a w k d : Int} {j b : Nat} (h : mtC (sO σ j) a w k d) (hb : bst σ a w k d j = some b) (hr : ¬ rkI σ b ≤ rkI σ j) : bst σ a w k d (j + 1) = some b := by
  rw [bst, if_pos h, hb]
  exact if_neg hr
theorem bst_lt {σ : St} {a w k d : Int} : ∀ {j b : Nat}, bst σ a w k d j = some b → b < j := by
  intro j
  induction j with
  | zero => intro b h; cases h
  | succ j ih =>
    intro b h
    by_cases hm : mtC (sO σ j) a w k d
    · cases hb : bst σ a w k d j with
      | none =>
        rw [bst_first hm hb] at h
        cases h; omega
      | some b0 =>
        have h0 := ih hb
        by_cases hr : rkI σ b0 ≤ rkI σ j
        · rw [bst_up hm hb hr] at h
          cases h; omega
        · rw [bst_keep hm hb hr] at h
          cases h; omega
    · rw [bst_no hm] at h
      have := ih h
      omega
theorem cntL_y {σ : St} {t : Int} {k : Nat} (h : lapC t (sO σ k)) : cntL σ t (k + 1) = cntL σ t k + 1 := by rw [cntL, if_pos h]
theorem cntL_n {σ : St} {t : Int} {k : Nat} (h : ¬ lapC t (sO σ k)) : cntL σ t (k + 1) = cntL σ t k := by rw [cntL, if_neg h, Nat.add_zero]
theorem cntL_le {σ : St} {t : Int} : ∀ k : Nat, cntL σ t k ≤ k := by
  intro k
  induction k with
  | zero => exact Nat.le_refl 0
  | succ k ih =>
    by_cases h : lapC t (sO σ k)
    · rw [cntL_y h]; omega
    · rw [cntL_n h]; omega
theorem mvO_at {σ : St} {t : Int} {k : Nat} : mvO σ t k k = sO σ k := if_neg (Nat.lt_irrefl k)
theorem mvO_0 {σ : St} {t : Int} : mvO σ t 0 = sO σ := funext fun i => if_neg (Nat.not_lt_zero i)
theorem mvO_up {σ : St} {t : Int} {k : Nat} : va_up (mvO σ t k) k (lap1 t (mvO σ t k k)) = mvO σ t (k + 1) := by
  funext j
  by_cases e : j = k
  · subst e
    rw [va_up_self, mvO_at]
    exact (if_pos (Nat.lt_succ_self j)).symm
  · rw [va_up_ne _ _ e]
    unfold mvO
    by_cases c : j < k
    · rw [if_pos c, if_pos (by omega)]
    · rw [if_neg c, if_neg (by omega)]
theorem CW_ordD {G : GG} {A : Nat → Prop} {a : AD} {rl : Int32} {now : Int64} {rk pa rg : Nat → Int32} {oa : Nat → Nat} {od : Nat → Ord} {n : Nat} {L : va_W} {i : Nat} (h : va_D A (CW G a rl now rk pa rg (pO oa od n) L)) (hi : i < n) : va_D A [(oa i, .inr (1, fl (od i)))] := by
  refine ⟨fun x y p q hx hy _ => ?_, fun x q hx => ?_⟩
  · have h1 := (List.getElem?_eq_some_iff.mp hx).1
    have h2 := (List.getElem?_eq_some_iff.mp hy).1
    simp only [List.length_cons, List.length_nil] at h1 h2
    omega
  · have h1 := (List.getElem?_eq_some_iff.mp hx).1
    simp only [List.length_cons, List.length_nil] at h1
    have e : x = 0 := by omega
    subst e
    cases hx
    exact h.2 _ _ (CW_get hi)
-- what the calls keep
theorem OI_lap {t : Int} {o : Ord} {t0 : Int} (h : OI t0 o) (h1 : t0 ≤ t) (h2 : t ≤ 20000) : OI t (lap1 t o) := by
  unfold lap1
  by_cases c : lapC t o
  · rw [if_pos c]
    have e : (oM o + 15 : Int64).toInt = (oM o).toInt + 15 := by
      unfold OI at h
      exact tl_add rfl rfl (by omega) (by omega)
    unfold OI at h ⊢
    show _ ∧ _ ∧ _ ∧ _ ∧ _ ∧ _ ∧ _ ∧ _ ∧ _ ∧ _ ∧ 0 ≤ (oM o + 15 : Int64).toInt ∧ (oM o + 15 : Int64).toInt ≤ 20001 ∧ _
    rw [e]
    have c1 : (oM o).toInt + 14 < t := c.2.2
    refine ⟨h.1, h.2.1, h.2.2.1, h.2.2.2.1, h.2.2.2.2.1, h.2.2.2.2.2.1, h.2.2.2.2.2.2.1, h.2.2.2.2.2.2.2.1, h.2.2.2.2.2.2.2.2.1, Int.le_trans h.2.2.2.2.2.2.2.2.2.1 h1, by omega, by omega, h.2.2.2.2.2.2.2.2.2.2.2.2⟩
  · rw [if_neg c]
    unfold OI at h ⊢
    refine ⟨h.1, h.2.1, h.2.2.1, h.2.2.2.1, h.2.2.2.2.1, h.2.2.2.2.2.1, h.2.2.2.2.2.2.1, h.2.2.2.2.2.2.2.1, h.2.2.2.2.2.2.2.2.1, by omega, h.2.2.2.2.2.2.2.2.2.2.1, h.2.2.2.2.2.2.2.2.2.2.2.1, h.2.2.2.2.2.2.2.2.2.2.2.2⟩
theorem SI_mv {σ : St} {t : Int64} (h : SI σ) (hc : clk σ t) : SI (mvS σ t) := by
  obtain ⟨h1, h2, h3, h4, h5⟩ := h
  refine ⟨h1, hc.1, hc.2.1, fun i hi => ?_, h5⟩
  have e : mvO σ t.toInt (sN σ) i = lap1 t.toInt (sO σ i) := if_pos hi
  show OI t.toInt (mvO σ t.toInt (sN σ) i)
  rw [e]
  exact OI_lap (h4 i hi) hc.2.2 hc.2.1
theorem SI_put {σ : St} {i : Nat} {o : Ord} (h : SI σ) (ho : OI (sT σ).toInt o) : SI (sPut σ i o) := by
  obtain ⟨h1, h2, h3, h4, h5⟩ := h
  refine ⟨h1, h2, h3, fun j hj => ?_, h5⟩
  show OI (sT σ).toInt (va_up (sO σ) i o j)
  by_cases e : j = i
  · subst e; rw [va_up_self]; exact ho
  · rw [va_up_ne _ _ e]; exact h4 j hj
theorem CI_put {κ : KP} {σ : St} {i : Nat} {o : Ord} (h : CI κ σ) : CI κ (sPut σ i o) := h
theorem CI_mv {κ : KP} {σ : St} {t : Int64} (h : CI κ σ) : CI κ (mvS σ t) := h
theorem tdL_y {σ : St} {s i : Int} {r k c : Nat} (h : tdC σ s k) (hc : (c : Int) = i) : tdL σ s i (r + 1) k c = nI (k + 1) := by rw [tdL, if_pos h, if_pos hc]
theorem tdL_m {σ : St} {s i : Int} {r k c : Nat} (h : tdC σ s k) (hc : ¬ (c : Int) = i) : tdL σ s i (r + 1) k c = tdL σ s i r (k + 1) (c + 1) := by rw [tdL, if_pos h, if_neg hc]
theorem tdL_n {σ : St} {s i : Int} {r k c : Nat} (h : ¬ tdC σ s k) : tdL σ s i (r + 1) k c = tdL σ s i r (k + 1) c := by rw [tdL, if_neg h]
theorem eff_ring {σ : St} {w k d : Int} {r : Nat} {q : List Int32} {a : Int32} (h : fst1 q a < q.length) : eff σ w k d (r + 1) q a = (-1, q.drop (fst1 q a)) := by rw [eff, if_pos h]
theorem eff_none {σ : St} {w k d : Int} {r : Nat} {q : List Int32} {a : Int32} (h : ¬ fst1 q a < q.length) (hb : bst σ a.toInt w k d (sN σ) = none) : eff σ w k d (r + 1) q a = (a, sG σ) := by rw [eff, if_neg h, hb]
theorem eff_go {σ : St} {w k d : Int} {r b : Nat} {q : List Int32} {a : Int32} (h : ¬ fst1 q a < q.length) (hb : bst σ a.toInt w k d (sN σ) = some b) (hk : (oK (sO σ b)).toInt < 3) : eff σ w k d (r + 1) q a = eff σ w k d r (q ++ [a]) (oT (sO σ b)) := by
  rw [eff, if_neg h, hb]
  exact if_pos hk
theorem eff_held {σ : St} {w k d : Int} {r b : Nat} {q : List Int32} {a : Int32} (h : ¬ fst1 q a < q.length) (hb : bst σ a.toInt w k d (sN σ) = some b) (hk : ¬ (oK (sO σ b)).toInt < 3) (h6 : (oK (sO σ b)).toInt < 6) : eff σ w k d (r + 1) q a = (0, sG σ) := by
  rw [eff, if_neg h, hb]
  exact (if_neg hk).trans (if_pos h6)
theorem eff_refused {σ : St} {w k d : Int} {r b : Nat} {q : List Int32} {a : Int32} (h : ¬ fst1 q a < q.length) (hb : bst σ a.toInt w k d (sN σ) = some b) (hk : ¬ (oK (sO σ b)).toInt < 3) (h6 : ¬ (oK (sO σ b)).toInt < 6) : eff σ w k d (r + 1) q a = (-2, sG σ) := by
  rw [eff, if_neg h, hb]
  exact (if_neg hk).trans (if_neg h6)
abbrev kPR (κ : KP) (p g : Nat → Int32) : KP := (κ.1, κ.2.1, κ.2.2.1, κ.2.2.2.1, κ.2.2.2.2.1, p, g)
theorem gD_app {q : List Int32} {a : Int32} {i : Nat} (h : i < q.length) : (q ++ [a]).getD i 0 = q.getD i 0 := by
  rw [List.getD_eq_getElem?_getD, List.getD_eq_getElem?_getD, List.getElem?_append_left h]
theorem gD_last {q : List Int32} {a : Int32} : (q ++ [a]).getD q.length 0 = a := by
  rw [List.getD_eq_getElem?_getD, List.getElem?_append_right (Nat.le_refl _), Nat.sub_self]
  rfl
theorem gD_drop {q : List Int32} {i m : Nat} : (q.drop i).getD m 0 = q.getD (i + m) 0 := by
  rw [List.getD_eq_getElem?_getD, List.getD_eq_getElem?_getD, List.getElem?_drop]
theorem len_app {q : List Int32} {a : Int32} : (q ++ [a]).length = q.length + 1 := by rw [List.length_append]; rfl
theorem fst1_eq {pa : Nat → Int32} {q : List Int32} {a : Int32} (h : ∀ i, i < q.length → pa i = q.getD i 0) : fa_first (fun j => decide (pa j = a)) q.length = fst1 q a := ff_cong fun i hi => by rw [h i hi]
theorem pa_app {pa : Nat → Int32} {q : List Int32} {a : Int32} (h : ∀ i, i < q.length → pa i = q.getD i 0) : ∀ i, i < (q ++ [a]).length → upd pa q.length a i = (q ++ [a]).getD i 0 := by
  intro i hi
  rw [len_app] at hi
  rcases Nat.lt_or_eq_of_le (Nat.lt_succ_iff.mp hi) with z | z
  · rw [pk_un (Nat.ne_of_lt z), gD_app z, h i z]
  · subst z
    rw [pk_us, gD_last]
theorem fEff_of {σ : St} {e w k v : Int32} {d : Int64} {g : List Int32} (h1 : ¬ (¬ (1 ≤ e.toInt ∧ e.toInt ≤ 99) ∨ ¬ (0 ≤ w.toInt ∧ w.toInt ≤ 49))) (h2 : ¬ (¬ (0 ≤ k.toInt ∧ k.toInt ≤ 2) ∨ ¬ (0 ≤ d.toInt ∧ d.toInt ≤ 20000))) (hE : eff σ w.toInt k.toInt d.toInt 100 [] e = (v, g)) : fEff σ e w k d = (v, sGs σ g) := by
  unfold fEff
  rw [if_neg h1, if_neg h2, hE]
theorem app_last {α : Type} {ws : List α} {x : α} : (ws ++ [x])[ws.length]? = some x := by
  rw [List.getElem?_append_right (Nat.le_refl _), Nat.sub_self]; rfl
theorem set_last {α : Type} {ws : List α} {x y : α} : (ws ++ [x]).set ws.length y = ws ++ [y] := by
  rw [List.set_append_right _ _ (Nat.le_refl _), Nat.sub_self]; rfl
theorem re_P {D : va_G} {cl : List vw_C} {H : Heap} {x y z : Nat × va_E} {tl : va_W} (h : va_P D cl (x :: y :: (tl ++ [z])) H) : va_P D cl (x :: z :: tl) H := by
  intro k q hq
  match k, hq with
  | 0, hq => exact h 0 q hq
  | 1, hq => exact h (tl.length + 2) q (by show (tl ++ [z])[tl.length]? = _; rw [app_last]; exact hq)
  | k + 2, hq =>
    have hq : tl[k]? = some q := hq
    exact h (k + 2) q (by show (tl ++ [z])[k]? = _; rw [List.getElem?_append_left (List.getElem?_eq_some_iff.mp hq).1]; exact hq)
theorem re_D {A : Nat → Prop} {x y z : Nat × va_E} {tl : va_W} (h : va_D A (x :: y :: (tl ++ [z]))) : va_D A (x :: z :: tl) := by
  refine h.by (fun k => if k = 0 then 0 else if k = 1 then tl.length + 2 else k) (fun k q hq => ?_) (fun i j hi hj e => ?_)
  · match k, hq with
    | 0, hq => exact hq
    | 1, hq => show (tl ++ [z])[tl.length]? = _; rw [app_last]; exact hq
    | k + 2, hq =>
      have hq : tl[k]? = some q := hq
      show (x :: y :: (tl ++ [z]))[if k + 2 = 0 then 0 else if k + 2 = 1 then tl.length + 2 else k + 2]? = _
      rw [if_neg (by omega), if_neg (by omega)]
      show (tl ++ [z])[k]? = _
      rw [List.getElem?_append_left (List.getElem?_eq_some_iff.mp hq).1]; exact hq
  · have hi : i < tl.length + 2 := hi
    have hj : j < tl.length + 2 := hj
    split at e <;> split at e <;> (try split at e) <;> (try split at e) <;> omega
theorem re0_P {D : va_G} {cl : List vw_C} {H : Heap} {x z : Nat × va_E} {tl : va_W} (h : va_P D cl (x :: (tl ++ [z])) H) : va_P D cl (x :: z :: tl) H := by
  intro k q hq
  match k, hq with
  | 0, hq => exact h 0 q hq
  | 1, hq => exact h (tl.length + 1) q (by show (tl ++ [z])[tl.length]? = _; rw [app_last]; exact hq)
  | k + 2, hq =>
    have hq : tl[k]? = some q := hq
    exact h (k + 1) q (by show (tl ++ [z])[k]? = _; rw [List.getElem?_append_left (List.getElem?_eq_some_iff.mp hq).1]; exact hq)
theorem re0_D {A : Nat → Prop} {x z : Nat × va_E} {tl : va_W} (h : va_D A (x :: (tl ++ [z]))) : va_D A (x :: z :: tl) := by
  refine h.by (fun k => if k = 0 then 0 else if k = 1 then tl.length + 1 else k - 1) (fun k q hq => ?_) (fun i j hi hj e => ?_)
  · match k, hq with
    | 0, hq => exact hq
    | 1, hq => show (tl ++ [z])[tl.length]? = _; rw [app_last]; exact hq
    | k + 2, hq =>
      have hq : tl[k]? = some q := hq
      show (x :: (tl ++ [z]))[if k + 2 = 0 then 0 else if k + 2 = 1 then tl.length + 1 else k + 2 - 1]? = _
      rw [if_neg (by omega), if_neg (by omega)]
      show (tl ++ [z])[k]? = _
      rw [List.getElem?_append_left (List.getElem?_eq_some_iff.mp hq).1]; exact hq
  · have hi : i < tl.length + 2 := hi
    have hj : j < tl.length + 2 := hj
    split at e <;> split at e <;> (try split at e) <;> (try split at e) <;> omega
theorem ti_shr1 {x : Int32} {k : Nat} (h : x.toInt = (k : Int)) : (x >>> ((1 : Int32) &&& 31)).toInt = ((k / 2 : Nat) : Int) := by
  have hr := fb_rng x
  have e := pk_shrN (n := k) (by omega) ((1 : Int32) &&& 31) 1 (by decide)
  rw [Nat.pow_one] at e
  rw [nI_ofI h, e, ti_nI (by omega)]
theorem mxi_if (x y : Int32) : (if x < y then y else x).toInt = if x.toInt < y.toInt then y.toInt else x.toInt := by
  by_cases c : x < y
  · have h := (fa_lt x y).mp c
    rw [if_pos c, if_pos h]
  · have h := mt (fa_lt x y).mpr c
    rw [if_neg c, if_neg h]
theorem mni_if (x y : Int32) : (if y < x then y else x).toInt = if y.toInt < x.toInt then y.toInt else x.toInt := by
  by_cases c : y < x
  · have h := (fa_lt y x).mp c
    rw [if_pos c, if_pos h]
  · have h := mt (fa_lt y x).mpr c
    rw [if_neg c, if_neg h]
theorem arr_recv {G : GG} {s : State} {H : Heap} {a2 N : Nat} {f : Nat → Option Nat} {ws : va_W} (hK : KK G s) (hP : va_P G.1 vwCl ws H) (h0 : ws[0]? = some (aO G a2 N f)) : ∃ cell : Cell, H[a2]? = some cell ∧ cell.vm.isStatics = false ∧ s.vm.findClass "[Ljava/lang/Object;" = some cell.cls :=
  ⟨_, hP 0 _ h0, rfl, va_nmO (hK.1.2 3 _ rfl).2 (by decide +kernel)⟩
theorem ord_any {G : GG} {s : State} {H : Heap} {v j : Nat} {fs : List Value} {ws : va_W} (hK : KK G s) (hP : va_P G.1 vwCl ws H) (h : ws[j]? = some (v, .inr (1, fs))) : va_Any "java/lang/Object" s H v :=
  va_rAny hK.1 hP h (r := (RX0, TX0, 9)) rfl (vb_asgC hK.2.2.2.2.1)
def CX (G : GG) (a : AD) (rl : Int32) (now : Int64) (rk pa rg : Nat → Int32) : va_W := [(a.1, .inr (2, [.ref a.2.1, .ref a.2.2.1, .ref a.2.2.2.1, .ref a.2.2.2.2, .int rl, .long now])), aI G a.2.2.1 9 rk, aI G a.2.2.2.1 100 pa, aI G a.2.2.2.2 100 rg]
theorem ord_D {A : Nat → Prop} {x pl L nw : va_W} (h : va_D A ((x ++ (pl ++ L)) ++ nw)) : va_D A (x ++ (L ++ (pl ++ nw))) := by
  rw [← List.append_assoc] at h
  have h1 := va_D.swap h
  rw [List.append_assoc x pl nw] at h1
  have h2 := va_D.swap h1
  rw [List.append_assoc] at h2
  exact h2
theorem ord_P {D : va_G} {cl : List vw_C} {H : Heap} {x pl L nw : va_W} (h : va_P D cl ((x ++ (pl ++ L)) ++ nw) H) : va_P D cl (x ++ (L ++ (pl ++ nw))) H :=
  va_P.app h.left.left (va_P.app h.left.right.right (va_P.app h.left.right.left h.right))
theorem back_D {A : Nat → Prop} {x L tl : va_W} (h : va_D A (x ++ (L ++ tl))) : va_D A (x ++ (tl ++ L)) := by
  rw [← List.append_assoc] at h
  have h1 := va_D.swap h
  rw [List.append_assoc] at h1
  exact h1
theorem back_P {D : va_G} {cl : List vw_C} {H : Heap} {x L tl : va_W} (h : va_P D cl (x ++ (L ++ tl)) H) : va_P D cl (x ++ (tl ++ L)) H := va_P.app h.left h.right.comm
abbrev kNew (κ : KP) (ux : Int32 × Nat × Nat × (Nat → Option Nat)) (n q : Nat) : KP := (ux.1, ux.2.1, ux.2.2.1, ux.2.2.2, va_up κ.2.2.2.2.1 n q, κ.2.2.2.2.2.1, κ.2.2.2.2.2.2)
theorem tl_get {oa : Nat → Nat} {od : Nat → Ord} {n i : Nat} {nw : va_W} (h : i < n) : (pO oa od n ++ nw)[i]? = some (oa i, .inr (1, fl (od i))) := by
  rw [List.getElem?_append_left (by rw [pO_len]; exact h)]; exact pO_get h
theorem tl_new {oa : Nat → Nat} {od : Nat → Ord} {n : Nat} {x : Nat × va_E} : (pO oa od n ++ [x])[n]? = some x := by
  have h := app_last (ws := pO oa od n) (x := x)
  rw [pO_len] at h
  exact h
theorem CI_new {κ : KP} {σ : St} {ux : Int32 × Nat × Nat × (Nat → Option Nat)} {q : Nat} {o : Ord} (hC : CI κ σ) (h1 : sN σ + 1 ≤ ux.2.2.1) (h2 : ux.2.2.1 ≤ 400) (h3 : ux.2.2.2 (sN σ) = some q) (h4 : ∀ i, i < sN σ → ux.2.2.2 i = some (κ.2.2.2.2.1 i)) : CI (kNew κ ux (sN σ) q) (sN σ + 1, va_up (sO σ) (sN σ) o, sT σ, sR σ, sG σ) := by
  refine ⟨fun _ => ⟨h1, h2, fun i hi => ?_⟩, hC.2⟩
  show ux.2.2.2 i = some (va_up κ.2.2.2.2.1 (sN σ) q i)
  rcases Nat.lt_or_eq_of_le (Nat.lt_succ_iff.mp hi) with z | z
  · rw [va_up_ne _ _ (Nat.ne_of_lt z)]; exact h4 i z
  · rw [z, va_up_self]; exact h3
abbrev κ0 : KP := (0, 0, 0, fun _ => none, fun _ => 0, fun _ => 0, fun _ => 0)
abbrev σ0 : St := (0, fun _ => (0, 0, 0, 0, 0, 0, 0, 0, 0), 0, fun _ => 0, [])
end
section
-- ===== laid by wip/whole/gen.py out of the decode rows =====
set_option maxHeartbeats 4000000 in
set_option maxRecDepth 100000 in
/-- stepAt -/
theorem c_X1_stepAt (l : Launch) (G : GG) (a : AD) (κ : KP) (σ : St) (hI : SI σ) (hC : CI κ σ) (x y : Int32) (k : Nat) (hk : (y).toInt = (k : Int)) (hk2 : k ≤ 100) : RdI l yX1_stepAt wsX1_stepAt (rmX 0 0 0 0) G [.ref a.1, .int x, .int y] (WC G a κ σ) (fun r => r.toInt = (fa_first (fun j => decide (κ.2.2.2.2.2.1 j = x)) k : Int)) := by
  refine rd_of_i (cc := cX1_stepAt) (maxL := 4) (t := .int) (by decide +kernel) rfl (Nat.le_of_ble_eq_true rfl) nar_int ?_
  intro p e s m args below meth c Q hx hb hml hown hts hP hK hret ls hl
  have hown : s.vm.findClass RX1 = some m.cls := hown
  have hl : lv_has ls 4 [(0, .ref a.1), (1, .int x), (2, .int y)] := hl
  have hP : va_P G.1 vwCl (CW G a (nI (sG σ).length) (sT σ) (sR σ) κ.2.2.2.2.2.1 κ.2.2.2.2.2.2 (pO κ.2.2.2.2.1 (sO σ) (sN σ)) (LW G a.2.1 κ.1 κ.2.1 κ.2.2.1 κ.2.2.2.1 (sN σ))) s.heap := hP
  obtain ⟨hI1, hI2, hI3, hI4, hI5⟩ := id hI
  have hiX1 := (show ∀ w ∈ u_ws RX1 TX1 6, w ∈ wsX1_stepAt by decide +kernel)
  have lf20 := hts (.fieldLink RX1 20 "OrderRows2" "path" "[I") (by decide +kernel)
  refine lv_iconst (v := 0) hx hb dX1_stepAt_0 (by decide) ?_
  refine lv_istore_n (lv' := [(3, .int 0), (0, .ref a.1), (1, .int x), (2, .int y)]) hx hb dX1_stepAt_1 rfl hl (by decide) rfl (fun ls hl => ?_)
  have loop2 : ∀ (fu : Nat) (j : Nat) (x3 : Int32), k < j + fu → j ≤ k → x3.toInt = (j : Int) → (∀ i, i < j → decide (κ.2.2.2.2.2.1 i = x) = false) → ∀ ls : Array Slot, lv_has ls 4 [(3, .int x3), (0, .ref a.1), (1, .int x), (2, .int y)] → W p l e (rmX 0 0 0 0) s m args below meth c s.heap [] 0 0 Q (F0 m 2 ls []) := by
    intro fu
    induction fu with
    | zero =>
      intro j x3 hfu hjk ej hno
      exact absurd hfu (by omega)
    | succ fu ih2 =>
      intro j x3 hfu hjk ej hno ls hl
      refine lv_iload_n hx hb dX1_stepAt_2 rfl (lv_at hl 0 rfl) ?_
      refine lv_iload_n hx hb dX1_stepAt_3 rfl (lv_at hl 3 rfl) ?_
      refine lv_icmp_ge (tgt := 25) hx hb dX1_stepAt_4 (by decide) (fun c4_1 => ?_) (fun c4_1 => ?_)
      · have c4_1 : ((k : Nat) : Int) ≤ ((j : Nat) : Int) := (ti_le (x := y) (y := x3) (a := ((k : Nat) : Int)) (b := ((j : Nat) : Int)) hk ej).mp c4_1
        refine lv_iload_n hx hb dX1_stepAt_25 rfl (lv_at hl 3 rfl) ?_
        exact hret _ _ _ dX1_stepAt_26 (Or.inr (Or.inr rfl)) (by rw [ff_none (p := fun j => decide (κ.2.2.2.2.2.1 j = x)) (fun i hi => hno i (by omega))]; exact hk)
      · have c4_1 : ¬ (((k : Nat) : Int) ≤ ((j : Nat) : Int)) := mt (ti_le (x := y) (y := x3) (a := ((k : Nat) : Int)) (b := ((j : Nat) : Int)) hk ej).mpr c4_1
        refine lv_aload_n hx hb dX1_stepAt_7 rfl (lv_at hl 1 rfl) ?_
        refine va_get (D := G.1) (ci := 2) (v := .ref a.2.2.2.1) (own := RX1) (C := RX1) (T := TX1) (N := 6) hx hb hts hiX1 hown hK.1 hP 0 rfl rfl 2 (by decide) lf20 (fun _ h9 => h9) rfl dX1_stepAt_8 ?_
        refine lv_iload_n hx hb dX1_stepAt_11 rfl (lv_at hl 0 rfl) ?_
        refine my_iald hx hb hK hP 2 rfl j ej (by omega) dX1_stepAt_12 ?_
        refine lv_iload_n hx hb dX1_stepAt_13 rfl (lv_at hl 2 rfl) ?_
        refine lv_icmp_ne (tgt := 19) hx hb dX1_stepAt_14 (by decide) (fun c14_2 => ?_) (fun c14_2 => ?_)
        · have c14_2 : ¬ (((κ.2.2.2.2.2.1 j)).toInt = (x).toInt) := mt (ti_eq (x := (κ.2.2.2.2.2.1 j)) (y := x) (a := ((κ.2.2.2.2.2.1 j)).toInt) (b := (x).toInt) rfl rfl).mpr c14_2
          have c14 := c14_2
          obtain ⟨x19_3, e19_3⟩ : ∃ y : Int32, y = x3 + 1 := ⟨_, rfl⟩
          have v19_3 : (x19_3).toInt = (((j + 1) : Nat) : Int) := by rw [e19_3]; exact (ti_add (a := ((j : Nat) : Int)) (b := 1) ej rfl (by omega) (by omega)).trans (by omega)
          refine lv_iinc (v := x19_3) (lv' := [(3, .int x19_3), (0, .ref a.1), (1, .int x), (2, .int y)]) hx hb dX1_stepAt_19 hl (k := 0) rfl (by rw [e19_3]; rfl) (by decide) rfl (fun ls hl => ?_)
          refine lv_goto (tgt := 2) hx hb dX1_stepAt_22 (by decide) ?_
          have hno2 : ∀ i, i < j + 1 → decide (κ.2.2.2.2.2.1 i = x) = false := fun i hi => by
            rcases Nat.lt_or_eq_of_le (Nat.lt_succ_iff.mp hi) with q | q
            · exact hno i q
            · subst q; exact decide_eq_false (fun z => c14 (by rw [z]))
          exact ih2 (j + 1) x19_3 (by omega) (by omega) v19_3 hno2 ls (lv_sub hl [0, 1, 2, 3] rfl)
        · have c14_2 : ((κ.2.2.2.2.2.1 j)).toInt = (x).toInt := (ti_eq (x := (κ.2.2.2.2.2.1 j)) (y := x) (a := ((κ.2.2.2.2.2.1 j)).toInt) (b := (x).toInt) rfl rfl).mp c14_2
          have c14 := c14_2
          refine lv_iload_n hx hb dX1_stepAt_17 rfl (lv_at hl 0 rfl) ?_
          exact hret _ _ _ dX1_stepAt_18 (Or.inr (Or.inr rfl)) (by rw [ff_found (j := j) (p := fun j => decide (κ.2.2.2.2.2.1 j = x)) (by omega) (decide_eq_true (ti_inj c14)) hno]; exact ej)
  exact loop2 (k + 1) 0 0 (by omega) (Nat.zero_le _) rfl (fun i hi => absurd hi (Nat.not_lt_zero i)) ls (lv_sub hl [0, 1, 2, 3] rfl)

set_option maxHeartbeats 4000000 in
set_option maxRecDepth 100000 in
/-- tellRing -/
theorem c_X1_tellRing (l : Launch) (G : GG) (a : AD) (κ : KP) (σ : St) (hI : SI σ) (hC : CI κ σ) (x y : Int32) (i j : Nat) (hx1 : (x).toInt = (i : Int)) (hy1 : (y).toInt = (j : Int)) (hij : i ≤ j) (hj : j ≤ 100) : WrV l yX1_tellRing wsX1_tellRing (rmX 0 0 0 0) G [.ref a.1, .int x, .int y] (WC G a κ σ) (fun u : (Nat → Int32) => ∀ q, q < j - i → u q = κ.2.2.2.2.2.1 (i + q)) (fun u : (Nat → Int32) => (CW G a (nI (j - i)) (sT σ) (sR σ) κ.2.2.2.2.2.1 u (pO κ.2.2.2.2.1 (sO σ) (sN σ)) (LW G a.2.1 κ.1 κ.2.1 κ.2.2.1 κ.2.2.2.1 (sN σ)))) 0 0 := by
  refine wr_of_v (cc := cX1_tellRing) (maxL := 4) (by decide +kernel) rfl (Nat.le_of_ble_eq_true rfl) ?_
  intro p e s m args below meth c Q A hx hb hml hown hts hK hZ hA hin hret ls hl hP hD hS
  have hown : s.vm.findClass RX1 = some m.cls := hown
  have hl : lv_has ls 4 [(0, .ref a.1), (1, .int x), (2, .int y)] := hl
  have hP : va_P G.1 vwCl (CW G a (nI (sG σ).length) (sT σ) (sR σ) κ.2.2.2.2.2.1 κ.2.2.2.2.2.2 (pO κ.2.2.2.2.1 (sO σ) (sN σ)) (LW G a.2.1 κ.1 κ.2.1 κ.2.2.1 κ.2.2.2.1 (sN σ))) s.heap := hP
  have hD : va_D A (CW G a (nI (sG σ).length) (sT σ) (sR σ) κ.2.2.2.2.2.1 κ.2.2.2.2.2.2 (pO κ.2.2.2.2.1 (sO σ) (sN σ)) (LW G a.2.1 κ.1 κ.2.1 κ.2.2.1 κ.2.2.2.1 (sN σ))) := hD
  obtain ⟨hI1, hI2, hI3, hI4, hI5⟩ := id hI
  have hiX1 := (show ∀ w ∈ u_ws RX1 TX1 6, w ∈ wsX1_tellRing by decide +kernel)
  have lf26 := hts (.fieldLink RX1 26 "OrderRows2" "ringLength" "I") (by decide +kernel)
  have lf23 := hts (.fieldLink RX1 23 "OrderRows2" "ringTold" "[I") (by decide +kernel)
  have lf20 := hts (.fieldLink RX1 20 "OrderRows2" "path" "[I") (by decide +kernel)
  refine lv_iload_n hx hb dX1_tellRing_0 rfl (lv_at hl 1 rfl) ?_
  refine lv_istore_n (lv' := [(3, .int x), (0, .ref a.1), (1, .int x), (2, .int y)]) hx hb dX1_tellRing_1 rfl hl (by decide) rfl (fun ls hl => ?_)
  have loop2 : ∀ (fu : Nat) (mq : Nat) (x3 : Int32) (g : Nat → Int32), j < i + mq + fu → i + mq ≤ j → x3.toInt = ((i + mq : Nat) : Int) → (∀ q, q < mq → g q = κ.2.2.2.2.2.1 (i + q)) → ∀ (H : Heap) (locs : List Loc), va_P G.1 vwCl (CW G a (nI (sG σ).length) (sT σ) (sR σ) κ.2.2.2.2.2.1 g (pO κ.2.2.2.2.1 (sO σ) (sN σ)) (LW G a.2.1 κ.1 κ.2.1 κ.2.2.1 κ.2.2.2.1 (sN σ))) H → va_D A (CW G a (nI (sG σ).length) (sT σ) (sR σ) κ.2.2.2.2.2.1 g (pO κ.2.2.2.2.1 (sO σ) (sN σ)) (LW G a.2.1 κ.1 κ.2.1 κ.2.2.1 κ.2.2.2.1 (sN σ))) → va_S A s.heap H locs → ∀ ls : Array Slot, lv_has ls 4 [(3, .int x3), (0, .ref a.1), (1, .int x), (2, .int y)] → W p l e (rmX 0 0 0 0) s m args below meth c H locs 0 0 Q (F0 m 2 ls []) := by
    intro fu
    induction fu with
    | zero =>
      intro mq x3 g hfu hmk ej hg
      exact absurd hfu (by omega)
    | succ fu ih2 =>
      intro mq x3 g hfu hmk ej hg H locs hP hD hS ls hl
      refine lv_iload_n hx hb dX1_tellRing_2 rfl (lv_at hl 0 rfl) ?_
      refine lv_iload_n hx hb dX1_tellRing_3 rfl (lv_at hl 3 rfl) ?_
      refine lv_icmp_ge (tgt := 27) hx hb dX1_tellRing_4 (by decide) (fun c4_1 => ?_) (fun c4_1 => ?_)
      · have c4_1 : ((j : Nat) : Int) ≤ (((i + mq) : Nat) : Int) := (ti_le (x := y) (y := x3) (a := ((j : Nat) : Int)) (b := (((i + mq) : Nat) : Int)) hy1 ej).mp c4_1
        refine lv_aload_n hx hb dX1_tellRing_27 rfl (lv_at hl 1 rfl) ?_
        refine lv_iload_n hx hb dX1_tellRing_28 rfl (lv_at hl 3 rfl) ?_
        refine lv_iload_n hx hb dX1_tellRing_29 rfl (lv_at hl 2 rfl) ?_
        refine lv_isub hx hb dX1_tellRing_30 ?_
        refine lv_topi (fun y30_2 e30_2 => ?_)
        have v30_2 : (y30_2).toInt = (((j : Nat) : Int) - ((i : Nat) : Int)) := by rw [e30_2]; exact ti_sub (a := ((j : Nat) : Int)) (b := ((i : Nat) : Int)) hy1 hx1 (by omega) (by omega)
        refine va_put (D := G.1) (ci := 2) (v := .int y30_2) (ty := .int) (own := RX1) (C := RX1) (T := TX1) (N := 6) hx hb hts hiX1 tyX1 tyX1_ok nmX1 hown hK.1 hP hD hS 0 rfl rfl 4 (by decide) lf26 (fun _ h9 => h9) rfl (by decide +kernel) rfl rfl (Nat.le_of_ble_eq_true rfl) dX1_tellRing_31 (fun H locs hP hD hS => ?_)
        have hP : va_P G.1 vwCl (CW G a y30_2 (sT σ) (sR σ) κ.2.2.2.2.2.1 g (pO κ.2.2.2.2.1 (sO σ) (sN σ)) (LW G a.2.1 κ.1 κ.2.1 κ.2.2.1 κ.2.2.2.1 (sN σ))) H := hP
        have hD : va_D A (CW G a y30_2 (sT σ) (sR σ) κ.2.2.2.2.2.1 g (pO κ.2.2.2.2.1 (sO σ) (sN σ)) (LW G a.2.1 κ.1 κ.2.1 κ.2.2.1 κ.2.2.2.1 (sN σ))) := hD
        obtain rfl : y30_2 = nI (j - i) := nI_ofI (v30_2.trans (by omega))
        exact hret _ _ _ _ _ _ g dX1_tellRing_34 (fun q hq => hg q (by omega)) hP hD hS (Nat.le_refl _) (Nat.le_refl _)
      · have c4_1 : ¬ (((j : Nat) : Int) ≤ (((i + mq) : Nat) : Int)) := mt (ti_le (x := y) (y := x3) (a := ((j : Nat) : Int)) (b := (((i + mq) : Nat) : Int)) hy1 ej).mpr c4_1
        refine lv_aload_n hx hb dX1_tellRing_7 rfl (lv_at hl 1 rfl) ?_
        refine va_get (D := G.1) (ci := 2) (v := .ref a.2.2.2.2) (own := RX1) (C := RX1) (T := TX1) (N := 6) hx hb hts hiX1 hown hK.1 hP 0 rfl rfl 3 (by decide) lf23 (fun _ h9 => h9) rfl dX1_tellRing_8 ?_
        refine lv_iload_n hx hb dX1_tellRing_11 rfl (lv_at hl 0 rfl) ?_
        refine lv_iload_n hx hb dX1_tellRing_12 rfl (lv_at hl 2 rfl) ?_
        refine lv_isub hx hb dX1_tellRing_13 ?_
        refine lv_topi (fun y13_3 e13_3 => ?_)
        have v13_3 : (y13_3).toInt = ((((i + mq) : Nat) : Int) - ((i : Nat) : Int)) := by rw [e13_3]; exact ti_sub (a := (((i + mq) : Nat) : Int)) (b := ((i : Nat) : Int)) ej hx1 (by omega) (by omega)
        refine lv_aload_n hx hb dX1_tellRing_14 rfl (lv_at hl 1 rfl) ?_
        refine va_get (D := G.1) (ci := 2) (v := .ref a.2.2.2.1) (own := RX1) (C := RX1) (T := TX1) (N := 6) hx hb hts hiX1 hown hK.1 hP 0 rfl rfl 2 (by decide) lf20 (fun _ h9 => h9) rfl dX1_tellRing_15 ?_
        refine lv_iload_n hx hb dX1_tellRing_18 rfl (lv_at hl 0 rfl) ?_
        refine my_iald hx hb hK hP 2 rfl (i + mq) ej (by omega) dX1_tellRing_19 ?_
        refine my_iast hx hb hK hP hD hS 3 rfl (x := (κ.2.2.2.2.2.1 (i + mq))) mq (v13_3.trans (by omega)) (by omega) dX1_tellRing_20 (fun H locs hP hD hS => ?_)
        have hP : va_P G.1 vwCl (CW G a (nI (sG σ).length) (sT σ) (sR σ) κ.2.2.2.2.2.1 (upd g mq (κ.2.2.2.2.2.1 (i + mq))) (pO κ.2.2.2.2.1 (sO σ) (sN σ)) (LW G a.2.1 κ.1 κ.2.1 κ.2.2.1 κ.2.2.2.1 (sN σ))) H := hP
        have hD : va_D A (CW G a (nI (sG σ).length) (sT σ) (sR σ) κ.2.2.2.2.2.1 (upd g mq (κ.2.2.2.2.2.1 (i + mq))) (pO κ.2.2.2.2.1 (sO σ) (sN σ)) (LW G a.2.1 κ.1 κ.2.1 κ.2.2.1 κ.2.2.2.1 (sN σ))) := hD
        obtain ⟨x21_4, e21_4⟩ : ∃ y : Int32, y = x3 + 1 := ⟨_, rfl⟩
        have v21_4 : (x21_4).toInt = ((((i + mq) + 1) : Nat) : Int) := by rw [e21_4]; exact (ti_add (a := (((i + mq) : Nat) : Int)) (b := 1) ej rfl (by omega) (by omega)).trans (by omega)
        refine lv_iinc (v := x21_4) (lv' := [(3, .int x21_4), (0, .ref a.1), (1, .int x), (2, .int y)]) hx hb dX1_tellRing_21 hl (k := 0) rfl (by rw [e21_4]; rfl) (by decide) rfl (fun ls hl => ?_)
        refine lv_goto (tgt := 2) hx hb dX1_tellRing_24 (by decide) ?_
        have hg2 : ∀ q, q < mq + 1 → (upd g mq (κ.2.2.2.2.2.1 (i + mq))) q = κ.2.2.2.2.2.1 (i + q) := fun q hq => by
          rcases Nat.lt_or_eq_of_le (Nat.lt_succ_iff.mp hq) with z | z
          · rw [pk_un (Nat.ne_of_lt z)]; exact hg q z
          · subst z; exact pk_us
        exact ih2 (mq + 1) x21_4 (upd g mq (κ.2.2.2.2.2.1 (i + mq))) (by omega) (by omega) (v21_4.trans (by omega)) hg2 _ _ hP hD hS ls (lv_sub hl [0, 1, 2, 3] rfl)
  exact loop2 (j + 1) 0 x κ.2.2.2.2.2.2 (by omega) (by omega) hx1 (fun q hq => absurd hq (Nat.not_lt_zero q)) _ _ hP hD hS ls (lv_sub hl [0, 1, 2, 3] rfl)

set_option maxHeartbeats 4000000 in
set_option maxRecDepth 100000 in
/-- ring -/
theorem c_X1_ring (l : Launch) (G : GG) (a : AD) (κ : KP) (σ : St) (hI : SI σ) (hC : CI κ σ) (i : Int32) : RdI l yX1_ring wsX1_ring (rmX 0 0 0 0) G [.ref a.1, .int i] (WC G a κ σ) (fun r => r = fRing σ i) := by
  refine rd_of_i (cc := cX1_ring) (maxL := 2) (t := .int) (by decide +kernel) rfl (Nat.le_of_ble_eq_true rfl) nar_int ?_
  intro p e s m args below meth c Q hx hb hml hown hts hP hK hret ls hl
  have hown : s.vm.findClass RX1 = some m.cls := hown
  have hl : lv_has ls 2 [(0, .ref a.1), (1, .int i)] := hl
  have hP : va_P G.1 vwCl (CW G a (nI (sG σ).length) (sT σ) (sR σ) κ.2.2.2.2.2.1 κ.2.2.2.2.2.2 (pO κ.2.2.2.2.1 (sO σ) (sN σ)) (LW G a.2.1 κ.1 κ.2.1 κ.2.2.1 κ.2.2.2.1 (sN σ))) s.heap := hP
  obtain ⟨hI1, hI2, hI3, hI4, hI5⟩ := id hI
  have hiX1 := (show ∀ w ∈ u_ws RX1 TX1 6, w ∈ wsX1_ring by decide +kernel)
  have lf26 := hts (.fieldLink RX1 26 "OrderRows2" "ringLength" "I") (by decide +kernel)
  have lf23 := hts (.fieldLink RX1 23 "OrderRows2" "ringTold" "[I") (by decide +kernel)
  refine lv_iload_n hx hb dX1_ring_0 rfl (lv_at hl 1 rfl) ?_
  refine lv_if_lt (tgt := 12) hx hb dX1_ring_1 (by decide) (fun c1_1 => ?_) (fun c1_1 => ?_)
  · have c1_1 : (i).toInt < 0 := (ti_lt (x := i) (y := 0) (a := (i).toInt) (b := 0) rfl rfl).mp c1_1
    refine lv_iconst (v := 0) hx hb dX1_ring_12 (by decide) ?_
    refine lv_goto (tgt := 22) hx hb dX1_ring_13 (by decide) ?_
    exact hret _ _ _ dX1_ring_22 (Or.inr (Or.inr rfl)) (if_neg (by omega)).symm
  · have c1_1 : ¬ ((i).toInt < 0) := mt (ti_lt (x := i) (y := 0) (a := (i).toInt) (b := 0) rfl rfl).mpr c1_1
    refine lv_iload_n hx hb dX1_ring_4 rfl (lv_at hl 1 rfl) ?_
    refine lv_aload_n hx hb dX1_ring_5 rfl (lv_at hl 0 rfl) ?_
    refine va_get (D := G.1) (ci := 2) (v := .int (nI (sG σ).length)) (own := RX1) (C := RX1) (T := TX1) (N := 6) hx hb hts hiX1 hown hK.1 hP 0 rfl rfl 4 (by decide) lf26 (fun _ h9 => h9) rfl dX1_ring_6 ?_
    refine lv_icmp_lt (tgt := 16) hx hb dX1_ring_9 (by decide) (fun c9_2 => ?_) (fun c9_2 => ?_)
    · have c9_2 : (i).toInt < (((sG σ).length : Nat) : Int) := (ti_lt (x := i) (y := (nI (sG σ).length)) (a := (i).toInt) (b := (((sG σ).length : Nat) : Int)) rfl (ti_nI (by omega))).mp c9_2
      refine lv_aload_n hx hb dX1_ring_16 rfl (lv_at hl 0 rfl) ?_
      refine va_get (D := G.1) (ci := 2) (v := .ref a.2.2.2.2) (own := RX1) (C := RX1) (T := TX1) (N := 6) hx hb hts hiX1 hown hK.1 hP 0 rfl rfl 3 (by decide) lf23 (fun _ h9 => h9) rfl dX1_ring_17 ?_
      refine lv_iload_n hx hb dX1_ring_20 rfl (lv_at hl 1 rfl) ?_
      refine my_iald hx hb hK hP 3 rfl ((i).toInt.toNat) (show (i).toInt = (((i).toInt.toNat : Nat) : Int) by omega) (by omega) dX1_ring_21 ?_
      exact hret _ _ _ dX1_ring_22 (Or.inr (Or.inr rfl)) ((hC.2 (i).toInt.toNat (by omega)).trans (if_pos (show 0 ≤ (i).toInt ∧ (i).toInt < ((sG σ).length : Int) by omega)).symm)
    · have c9_2 : ¬ ((i).toInt < (((sG σ).length : Nat) : Int)) := mt (ti_lt (x := i) (y := (nI (sG σ).length)) (a := (i).toInt) (b := (((sG σ).length : Nat) : Int)) rfl (ti_nI (by omega))).mpr c9_2
      refine lv_iconst (v := 0) hx hb dX1_ring_12 (by decide) ?_
      refine lv_goto (tgt := 22) hx hb dX1_ring_13 (by decide) ?_
      exact hret _ _ _ dX1_ring_22 (Or.inr (Or.inr rfl)) (if_neg (by omega)).symm

set_option maxHeartbeats 4000000 in
set_option maxRecDepth 100000 in
/-- strongest -/
theorem c_X1_strongest (l : Launch) (G : GG) (a : AD) (κ : KP) (σ : St) (hI : SI σ) (hC : CI κ σ) (ad wh kd : Int32) (dy : Int64) : RdQ l yX1_strongest wsX1_strongest (rmX 3 110 0 0) G [.ref a.1, .int ad, .int wh, .int kd, .long dy] (WC G a κ σ) (fun r => r = (bst σ ad.toInt wh.toInt kd.toInt dy.toInt (sN σ)).map κ.2.2.2.2.1) := by
  refine rd_of_q (cc := cX1_strongest) (maxL := 9) (by decide +kernel) rfl (Nat.le_of_ble_eq_true rfl) ?_
  intro p e s m args below meth c Q hx hb hml hown hts hP hK hret ls hl
  have hown : s.vm.findClass RX1 = some m.cls := hown
  have hl : lv_has ls 9 [(0, .ref a.1), (1, .int ad), (2, .int wh), (3, .int kd), (4, .long dy)] := hl
  have hP : va_P G.1 vwCl (CW G a (nI (sG σ).length) (sT σ) (sR σ) κ.2.2.2.2.2.1 κ.2.2.2.2.2.2 (pO κ.2.2.2.2.1 (sO σ) (sN σ)) (LW G a.2.1 κ.1 κ.2.1 κ.2.2.1 κ.2.2.2.1 (sN σ))) s.heap := hP
  obtain ⟨hI1, hI2, hI3, hI4, hI5⟩ := id hI
  have hiX1 := (show ∀ w ∈ u_ws RX1 TX1 6, w ∈ wsX1_strongest by decide +kernel)
  have lf10 := hts (.fieldLink RX1 10 "OrderRows2" "orders" "Ljava/util/ArrayList;") (by decide +kernel)
  have cw52 := cwV (R := (rmX 3 110 0 0)) (s := s) (args := args) (rm := (rmX 0 0 0 0)) (mc := 0) (ms := 0) 0 hts gX1_strongest_Jx4a65c_size_8abf5 rfl rfl rfl (by decide +kernel) ⟨Nat.le_of_ble_eq_true rfl, Nat.le_of_ble_eq_true rfl⟩
  have cw114 := cwV (R := (rmX 3 110 0 0)) (s := s) (args := args) (rm := (rmX 2 70 0 0)) (mc := 0) (ms := 0) 1 hts gX1_strongest_Jx4a65c_get_915e3 rfl rfl rfl (by decide +kernel) ⟨Nat.le_of_ble_eq_true rfl, Nat.le_of_ble_eq_true rfl⟩
  have cl56 := hts (.classLink RX1 56 RX0) (by decide +kernel)
  have cw129 := cwV (R := (rmX 3 110 0 0)) (s := s) (args := args) (rm := (rmX 0 0 0 0)) (mc := 0) (ms := 0) 3 hts gX1_strongest_X0_concerns rfl rfl rfl (by decide +kernel) ⟨Nat.le_of_ble_eq_true rfl, Nat.le_of_ble_eq_true rfl⟩
  have cw121 := cwV (R := (rmX 3 110 0 0)) (s := s) (args := args) (rm := (rmX 0 0 0 0)) (mc := 0) (ms := 0) 1 hts gX1_strongest_X0_isInForce rfl rfl rfl (by decide +kernel) ⟨Nat.le_of_ble_eq_true rfl, Nat.le_of_ble_eq_true rfl⟩
  have lf16 := hts (.fieldLink RX1 16 "OrderRows2" "rankOfKind" "[I") (by decide +kernel)
  have hiX0 := (show ∀ w ∈ u_ws RX0 TX0 9, w ∈ wsX1_strongest by decide +kernel)
  have lf105 := hts (.fieldLink RX1 105 "OrderRows2$Order" "kind" "I") (by decide +kernel)
  refine lv_null hx hb dX1_strongest_0 ?_
  refine lv_astoreN (lv' := [(6, .null), (0, .ref a.1), (1, .int ad), (2, .int wh), (3, .int kd), (4, .long dy)]) hx hb dX1_strongest_1 hl (by decide) rfl (fun ls hl => ?_)
  refine lv_iconst (v := 0) hx hb dX1_strongest_3 (by decide) ?_
  refine lv_istore (lv' := [(7, .int 0), (6, .null), (0, .ref a.1), (1, .int ad), (2, .int wh), (3, .int kd), (4, .long dy)]) hx hb dX1_strongest_4 hl (by decide) rfl (fun ls hl => ?_)
  have loop6 : ∀ (fu : Nat) (j : Nat) (x7 : Int32), sN σ < j + fu → j ≤ sN σ → x7.toInt = (j : Int) → ∀ ls : Array Slot, lv_has ls 9 [(7, .int x7), (6, (va_rf ((bst σ ad.toInt wh.toInt kd.toInt dy.toInt j).map κ.2.2.2.2.1))), (0, .ref a.1), (1, .int ad), (2, .int wh), (3, .int kd), (4, .long dy)] → W p l e (rmX 3 110 0 0) s m args below meth c s.heap [] 0 0 Q (F0 m 6 ls []) := by
    intro fu
    induction fu with
    | zero =>
      intro j x7 hfu hjk ej
      exact absurd hfu (by omega)
    | succ fu ih6 =>
      intro j x7 hfu hjk ej ls hl
      cases hbs : (bst σ ad.toInt wh.toInt kd.toInt dy.toInt j) with
      | none =>
        rw [hbs] at hl
        have hl : lv_has ls 9 [(7, .int x7), (6, .null), (0, .ref a.1), (1, .int ad), (2, .int wh), (3, .int kd), (4, .long dy)] := hl
        refine lv_iload hx hb dX1_strongest_6 (lv_at hl 0 rfl) ?_
        refine lv_aload_n hx hb dX1_strongest_8 rfl (lv_at hl 2 rfl) ?_
        refine va_get (D := G.1) (ci := 2) (v := .ref a.2.1) (own := RX1) (C := RX1) (T := TX1) (N := 6) hx hb hts hiX1 hown hK.1 hP 0 rfl rfl 0 (by decide) lf10 (fun _ h9 => h9) rfl dX1_strongest_9 ?_
        refine rdV_i (b := a.2.1) (As := []) (rest := [.int x7]) ⟨hx, hb, hml, hown, hts⟩ (c_Jx4a65c_size_8abf5 l G a.2.1 κ.1 (nI (sN σ)) _) cw52 hK (LW_one (CW_list hP)) 0 rfl rfl rfl rfl hl.1 rfl (Nat.le_of_ble_eq_true rfl) dX1_strongest_12 ⟨Nat.zero_le _, Nat.zero_le _⟩ (fun r1 w1 => ?_)
        have w1 : r1.toInt = (((sN σ) : Nat) : Int) := by rw [w1]; exact ti_nI (by omega)
        refine lv_icmp_ge (tgt := 91) hx hb dX1_strongest_15 (by decide) (fun c15_2 => ?_) (fun c15_2 => ?_)
        · have c15_2 : (((sN σ) : Nat) : Int) ≤ ((j : Nat) : Int) := (ti_le (x := r1) (y := x7) (a := (((sN σ) : Nat) : Int)) (b := ((j : Nat) : Int)) w1 ej).mp c15_2
          refine lv_aloadN hx hb dX1_strongest_91 (lv_at hl 1 rfl) ?_
          obtain rfl : j = sN σ := by omega
          exact hret _ _ none _ dX1_strongest_93 rfl (by rw [hbs]; rfl)
        · have c15_2 : ¬ ((((sN σ) : Nat) : Int) ≤ ((j : Nat) : Int)) := mt (ti_le (x := r1) (y := x7) (a := (((sN σ) : Nat) : Int)) (b := ((j : Nat) : Int)) w1 ej).mpr c15_2
          refine lv_aload_n hx hb dX1_strongest_18 rfl (lv_at hl 2 rfl) ?_
          refine va_get (D := G.1) (ci := 2) (v := .ref a.2.1) (own := RX1) (C := RX1) (T := TX1) (N := 6) hx hb hts hiX1 hown hK.1 hP 0 rfl rfl 0 (by decide) lf10 (fun _ h9 => h9) rfl dX1_strongest_19 ?_
          refine lv_iload hx hb dX1_strongest_22 (lv_at hl 0 rfl) ?_
          have hk3 : j < (sN σ) := by omega
          obtain ⟨hc3, hd3, he3⟩ := hC.1 (by omega)
          refine rdV_q (b := a.2.1) (As := [.int x7]) (rest := []) ⟨hx, hb, hml, hown, hts⟩ (c_Jx4a65c_get_915e3 l G a.2.1 κ.1 x7 κ.2.1 κ.2.2.1 (sN σ) j κ.2.2.2.1 ej hk3 hc3 (by omega)) cw114 hK (LW_pos (show (sN σ) ≠ 0 by omega) ▸ CW_list hP) 0 rfl rfl rfl rfl hl.1 rfl (Nat.le_of_ble_eq_true rfl) dX1_strongest_24 ⟨Nat.zero_le _, Nat.zero_le _⟩ (fun r3 w3 => ?_)
          obtain rfl : r3 = some (κ.2.2.2.2.1 j) := w3.trans (he3 j hk3)
          refine W.eq (g2 := F0 m 27 ls [.ref (κ.2.2.2.2.1 j)]) rfl ?_
          refine va_castS (own := RX1) (nm := RX0) hx hb hown cl56 (hK.1.1 1 _ rfl).2 (va_recv hK.1 hP (ci := 1) (q0 := j + 4) rfl (CW_get hk3)) dX1_strongest_27 ?_
          have hoj := hI4 j hk3
          unfold OI at hoj
          refine lv_astore (lv' := [(8, .ref (κ.2.2.2.2.1 j)), (7, .int x7), (6, .null), (0, .ref a.1), (1, .int ad), (2, .int wh), (3, .int kd), (4, .long dy)]) hx hb dX1_strongest_30 hl (by decide) rfl (fun ls hl => ?_)
          refine lv_aload hx hb dX1_strongest_32 (lv_at hl 0 rfl) ?_
          refine lv_iload_n hx hb dX1_strongest_34 rfl (lv_at hl 4 rfl) ?_
          refine lv_iload_n hx hb dX1_strongest_35 rfl (lv_at hl 5 rfl) ?_
          refine lv_iload_n hx hb dX1_strongest_36 rfl (lv_at hl 6 rfl) ?_
          refine rdV_i (b := (κ.2.2.2.2.1 j)) (As := [.int ad, .int wh, .int kd]) (rest := []) ⟨hx, hb, hml, hown, hts⟩ (c_X0_concerns l G (κ.2.2.2.2.1 j) ((sO σ) j) ad wh kd (by omega)) cw129 hK (CW_ord hP hk3) 1 rfl rfl rfl rfl hl.1 rfl (Nat.le_of_ble_eq_true rfl) dX1_strongest_37 ⟨Nat.zero_le _, Nat.zero_le _⟩ (fun r37_4 w37_4 => ?_)
          have w37_4 : ((r37_4.toInt = 1 ∧ ((oE ((sO σ) j)).toInt = (ad).toInt ∧ ((oW ((sO σ) j)).toInt = -1 ∨ (oW ((sO σ) j)).toInt = (wh).toInt) ∧ (oK ((sO σ) j)).toInt % 3 = (kd).toInt)) ∨ (r37_4.toInt = 0 ∧ ¬ ((oE ((sO σ) j)).toInt = (ad).toInt ∧ ((oW ((sO σ) j)).toInt = -1 ∨ (oW ((sO σ) j)).toInt = (wh).toInt) ∧ (oK ((sO σ) j)).toInt % 3 = (kd).toInt))) := w37_4
          refine lv_if_eq (tgt := 85) hx hb dX1_strongest_40 (by decide) (fun c40_5 => ?_) (fun c40_5 => ?_)
          · have c40_5 : (r37_4).toInt = 0 := (ti_eq (x := r37_4) (y := 0) (a := (r37_4).toInt) (b := 0) rfl rfl).mp c40_5
            obtain ⟨x85_6, e85_6⟩ : ∃ y : Int32, y = x7 + 1 := ⟨_, rfl⟩
            have v85_6 : (x85_6).toInt = (((j + 1) : Nat) : Int) := by rw [e85_6]; exact (ti_add (a := ((j : Nat) : Int)) (b := 1) ej rfl (by omega) (by omega)).trans (by omega)
            refine lv_iinc (v := x85_6) (lv' := [(7, .int x85_6), (8, .ref (κ.2.2.2.2.1 j)), (6, .null), (0, .ref a.1), (1, .int ad), (2, .int wh), (3, .int kd), (4, .long dy)]) hx hb dX1_strongest_85 hl (k := 1) rfl (by rw [e85_6]; rfl) (by decide) rfl (fun ls hl => ?_)
            refine lv_goto (tgt := 6) hx hb dX1_strongest_88 (by decide) ?_
            have hb2 : (bst σ ad.toInt wh.toInt kd.toInt dy.toInt (j + 1)) = none := by
              first | exact (bst_no (by omega)).trans hbs | exact bst_first (by omega) hbs | exact bst_up (by omega) hbs (by show (sR σ (oK (sO σ b)).toInt.toNat).toInt ≤ (sR σ (oK (sO σ j)).toInt.toNat).toInt; omega) | exact bst_keep (by omega) hbs (by show ¬ (sR σ (oK (sO σ b)).toInt.toNat).toInt ≤ (sR σ (oK (sO σ j)).toInt.toNat).toInt; omega)
            exact ih6 (j + 1) x85_6 (by omega) (by omega) v85_6 ls (by rw [hb2]; exact lv_sub hl [0, 2, 3, 4, 5, 6, 7] rfl)
          · have c40_5 : ¬ ((r37_4).toInt = 0) := mt (ti_eq (x := r37_4) (y := 0) (a := (r37_4).toInt) (b := 0) rfl rfl).mpr c40_5
            refine lv_aload hx hb dX1_strongest_43 (lv_at hl 0 rfl) ?_
            refine lv_lload hx hb dX1_strongest_45 (lv_at hl 7 rfl) ?_
            refine rdV_i (b := (κ.2.2.2.2.1 j)) (As := [.long dy]) (rest := []) ⟨hx, hb, hml, hown, hts⟩ (c_X0_isInForce l G (κ.2.2.2.2.1 j) ((sO σ) j) dy) cw121 hK (CW_ord hP hk3) 1 rfl rfl rfl rfl hl.1 rfl (Nat.le_of_ble_eq_true rfl) dX1_strongest_47 ⟨Nat.zero_le _, Nat.zero_le _⟩ (fun r47_7 w47_7 => ?_)
            have w47_7 : ((r47_7.toInt = 1 ∧ ((oF ((sO σ) j)).toInt ≤ (dy).toInt ∧ (dy).toInt ≤ (oU ((sO σ) j)).toInt ∧ (dy).toInt < (oX ((sO σ) j)).toInt)) ∨ (r47_7.toInt = 0 ∧ ¬ ((oF ((sO σ) j)).toInt ≤ (dy).toInt ∧ (dy).toInt ≤ (oU ((sO σ) j)).toInt ∧ (dy).toInt < (oX ((sO σ) j)).toInt))) := w47_7
            refine lv_if_eq (tgt := 85) hx hb dX1_strongest_50 (by decide) (fun c50_8 => ?_) (fun c50_8 => ?_)
            · have c50_8 : (r47_7).toInt = 0 := (ti_eq (x := r47_7) (y := 0) (a := (r47_7).toInt) (b := 0) rfl rfl).mp c50_8
              obtain ⟨x85_9, e85_9⟩ : ∃ y : Int32, y = x7 + 1 := ⟨_, rfl⟩
              have v85_9 : (x85_9).toInt = (((j + 1) : Nat) : Int) := by rw [e85_9]; exact (ti_add (a := ((j : Nat) : Int)) (b := 1) ej rfl (by omega) (by omega)).trans (by omega)
              refine lv_iinc (v := x85_9) (lv' := [(7, .int x85_9), (8, .ref (κ.2.2.2.2.1 j)), (6, .null), (0, .ref a.1), (1, .int ad), (2, .int wh), (3, .int kd), (4, .long dy)]) hx hb dX1_strongest_85 hl (k := 1) rfl (by rw [e85_9]; rfl) (by decide) rfl (fun ls hl => ?_)
              refine lv_goto (tgt := 6) hx hb dX1_strongest_88 (by decide) ?_
              have hb2 : (bst σ ad.toInt wh.toInt kd.toInt dy.toInt (j + 1)) = none := by
                first | exact (bst_no (by omega)).trans hbs | exact bst_first (by omega) hbs | exact bst_up (by omega) hbs (by show (sR σ (oK (sO σ b)).toInt.toNat).toInt ≤ (sR σ (oK (sO σ j)).toInt.toNat).toInt; omega) | exact bst_keep (by omega) hbs (by show ¬ (sR σ (oK (sO σ b)).toInt.toNat).toInt ≤ (sR σ (oK (sO σ j)).toInt.toNat).toInt; omega)
              exact ih6 (j + 1) x85_9 (by omega) (by omega) v85_9 ls (by rw [hb2]; exact lv_sub hl [0, 2, 3, 4, 5, 6, 7] rfl)
            · have c50_8 : ¬ ((r47_7).toInt = 0) := mt (ti_eq (x := r47_7) (y := 0) (a := (r47_7).toInt) (b := 0) rfl rfl).mpr c50_8
              refine lv_aloadN hx hb dX1_strongest_53 (lv_at hl 2 rfl) ?_
              refine lv_ifnullN (tgt := 81) hx hb dX1_strongest_55 (by decide) ?_
              refine lv_aload hx hb dX1_strongest_81 (lv_at hl 0 rfl) ?_
              refine lv_astore (lv' := [(6, .ref (κ.2.2.2.2.1 j)), (8, .ref (κ.2.2.2.2.1 j)), (7, .int x7), (0, .ref a.1), (1, .int ad), (2, .int wh), (3, .int kd), (4, .long dy)]) hx hb dX1_strongest_83 hl (by decide) rfl (fun ls hl => ?_)
              obtain ⟨x85_10, e85_10⟩ : ∃ y : Int32, y = x7 + 1 := ⟨_, rfl⟩
              have v85_10 : (x85_10).toInt = (((j + 1) : Nat) : Int) := by rw [e85_10]; exact (ti_add (a := ((j : Nat) : Int)) (b := 1) ej rfl (by omega) (by omega)).trans (by omega)
              refine lv_iinc (v := x85_10) (lv' := [(7, .int x85_10), (6, .ref (κ.2.2.2.2.1 j)), (8, .ref (κ.2.2.2.2.1 j)), (0, .ref a.1), (1, .int ad), (2, .int wh), (3, .int kd), (4, .long dy)]) hx hb dX1_strongest_85 hl (k := 2) rfl (by rw [e85_10]; rfl) (by decide) rfl (fun ls hl => ?_)
              refine lv_goto (tgt := 6) hx hb dX1_strongest_88 (by decide) ?_
              have hb2 : (bst σ ad.toInt wh.toInt kd.toInt dy.toInt (j + 1)) = some j := by
                first | exact (bst_no (by omega)).trans hbs | exact bst_first (by omega) hbs | exact bst_up (by omega) hbs (by show (sR σ (oK (sO σ b)).toInt.toNat).toInt ≤ (sR σ (oK (sO σ j)).toInt.toNat).toInt; omega) | exact bst_keep (by omega) hbs (by show ¬ (sR σ (oK (sO σ b)).toInt.toNat).toInt ≤ (sR σ (oK (sO σ j)).toInt.toNat).toInt; omega)
              exact ih6 (j + 1) x85_10 (by omega) (by omega) v85_10 ls (by rw [hb2]; exact lv_sub hl [0, 1, 3, 4, 5, 6, 7] rfl)
      | some b =>
        rw [hbs] at hl
        have hl : lv_has ls 9 [(7, .int x7), (6, .ref (κ.2.2.2.2.1 b)), (0, .ref a.1), (1, .int ad), (2, .int wh), (3, .int kd), (4, .long dy)] := hl
        have hbj := bst_lt hbs
        have hbn : b < sN σ := by omega
        have hob := hI4 b hbn
        unfold OI at hob
        refine lv_iload hx hb dX1_strongest_6 (lv_at hl 0 rfl) ?_
        refine lv_aload_n hx hb dX1_strongest_8 rfl (lv_at hl 2 rfl) ?_
        refine va_get (D := G.1) (ci := 2) (v := .ref a.2.1) (own := RX1) (C := RX1) (T := TX1) (N := 6) hx hb hts hiX1 hown hK.1 hP 0 rfl rfl 0 (by decide) lf10 (fun _ h9 => h9) rfl dX1_strongest_9 ?_
        refine rdV_i (b := a.2.1) (As := []) (rest := [.int x7]) ⟨hx, hb, hml, hown, hts⟩ (c_Jx4a65c_size_8abf5 l G a.2.1 κ.1 (nI (sN σ)) _) cw52 hK (LW_one (CW_list hP)) 0 rfl rfl rfl rfl hl.1 rfl (Nat.le_of_ble_eq_true rfl) dX1_strongest_12 ⟨Nat.zero_le _, Nat.zero_le _⟩ (fun r11 w11 => ?_)
        have w11 : r11.toInt = (((sN σ) : Nat) : Int) := by rw [w11]; exact ti_nI (by omega)
        refine lv_icmp_ge (tgt := 91) hx hb dX1_strongest_15 (by decide) (fun c15_12 => ?_) (fun c15_12 => ?_)
        · have c15_12 : (((sN σ) : Nat) : Int) ≤ ((j : Nat) : Int) := (ti_le (x := r11) (y := x7) (a := (((sN σ) : Nat) : Int)) (b := ((j : Nat) : Int)) w11 ej).mp c15_12
          refine lv_aload hx hb dX1_strongest_91 (lv_at hl 1 rfl) ?_
          obtain rfl : j = sN σ := by omega
          exact hret _ _ (some (κ.2.2.2.2.1 b)) _ dX1_strongest_93 rfl (by rw [hbs]; rfl)
        · have c15_12 : ¬ ((((sN σ) : Nat) : Int) ≤ ((j : Nat) : Int)) := mt (ti_le (x := r11) (y := x7) (a := (((sN σ) : Nat) : Int)) (b := ((j : Nat) : Int)) w11 ej).mpr c15_12
          refine lv_aload_n hx hb dX1_strongest_18 rfl (lv_at hl 2 rfl) ?_
          refine va_get (D := G.1) (ci := 2) (v := .ref a.2.1) (own := RX1) (C := RX1) (T := TX1) (N := 6) hx hb hts hiX1 hown hK.1 hP 0 rfl rfl 0 (by decide) lf10 (fun _ h9 => h9) rfl dX1_strongest_19 ?_
          refine lv_iload hx hb dX1_strongest_22 (lv_at hl 0 rfl) ?_
          have hk13 : j < (sN σ) := by omega
          obtain ⟨hc13, hd13, he13⟩ := hC.1 (by omega)
          refine rdV_q (b := a.2.1) (As := [.int x7]) (rest := []) ⟨hx, hb, hml, hown, hts⟩ (c_Jx4a65c_get_915e3 l G a.2.1 κ.1 x7 κ.2.1 κ.2.2.1 (sN σ) j κ.2.2.2.1 ej hk13 hc13 (by omega)) cw114 hK (LW_pos (show (sN σ) ≠ 0 by omega) ▸ CW_list hP) 0 rfl rfl rfl rfl hl.1 rfl (Nat.le_of_ble_eq_true rfl) dX1_strongest_24 ⟨Nat.zero_le _, Nat.zero_le _⟩ (fun r13 w13 => ?_)
          obtain rfl : r13 = some (κ.2.2.2.2.1 j) := w13.trans (he13 j hk13)
          refine W.eq (g2 := F0 m 27 ls [.ref (κ.2.2.2.2.1 j)]) rfl ?_
          refine va_castS (own := RX1) (nm := RX0) hx hb hown cl56 (hK.1.1 1 _ rfl).2 (va_recv hK.1 hP (ci := 1) (q0 := j + 4) rfl (CW_get hk13)) dX1_strongest_27 ?_
          have hoj := hI4 j hk13
          unfold OI at hoj
          refine lv_astore (lv' := [(8, .ref (κ.2.2.2.2.1 j)), (7, .int x7), (6, .ref (κ.2.2.2.2.1 b)), (0, .ref a.1), (1, .int ad), (2, .int wh), (3, .int kd), (4, .long dy)]) hx hb dX1_strongest_30 hl (by decide) rfl (fun ls hl => ?_)
          refine lv_aload hx hb dX1_strongest_32 (lv_at hl 0 rfl) ?_
          refine lv_iload_n hx hb dX1_strongest_34 rfl (lv_at hl 4 rfl) ?_
          refine lv_iload_n hx hb dX1_strongest_35 rfl (lv_at hl 5 rfl) ?_
          refine lv_iload_n hx hb dX1_strongest_36 rfl (lv_at hl 6 rfl) ?_
          refine rdV_i (b := (κ.2.2.2.2.1 j)) (As := [.int ad, .int wh, .int kd]) (rest := []) ⟨hx, hb, hml, hown, hts⟩ (c_X0_concerns l G (κ.2.2.2.2.1 j) ((sO σ) j) ad wh kd (by omega)) cw129 hK (CW_ord hP hk13) 1 rfl rfl rfl rfl hl.1 rfl (Nat.le_of_ble_eq_true rfl) dX1_strongest_37 ⟨Nat.zero_le _, Nat.zero_le _⟩ (fun r37_14 w37_14 => ?_)
          have w37_14 : ((r37_14.toInt = 1 ∧ ((oE ((sO σ) j)).toInt = (ad).toInt ∧ ((oW ((sO σ) j)).toInt = -1 ∨ (oW ((sO σ) j)).toInt = (wh).toInt) ∧ (oK ((sO σ) j)).toInt % 3 = (kd).toInt)) ∨ (r37_14.toInt = 0 ∧ ¬ ((oE ((sO σ) j)).toInt = (ad).toInt ∧ ((oW ((sO σ) j)).toInt = -1 ∨ (oW ((sO σ) j)).toInt = (wh).toInt) ∧ (oK ((sO σ) j)).toInt % 3 = (kd).toInt))) := w37_14
          refine lv_if_eq (tgt := 85) hx hb dX1_strongest_40 (by decide) (fun c40_15 => ?_) (fun c40_15 => ?_)
          · have c40_15 : (r37_14).toInt = 0 := (ti_eq (x := r37_14) (y := 0) (a := (r37_14).toInt) (b := 0) rfl rfl).mp c40_15
            obtain ⟨x85_16, e85_16⟩ : ∃ y : Int32, y = x7 + 1 := ⟨_, rfl⟩
            have v85_16 : (x85_16).toInt = (((j + 1) : Nat) : Int) := by rw [e85_16]; exact (ti_add (a := ((j : Nat) : Int)) (b := 1) ej rfl (by omega) (by omega)).trans (by omega)
            refine lv_iinc (v := x85_16) (lv' := [(7, .int x85_16), (8, .ref (κ.2.2.2.2.1 j)), (6, .ref (κ.2.2.2.2.1 b)), (0, .ref a.1), (1, .int ad), (2, .int wh), (3, .int kd), (4, .long dy)]) hx hb dX1_strongest_85 hl (k := 1) rfl (by rw [e85_16]; rfl) (by decide) rfl (fun ls hl => ?_)
            refine lv_goto (tgt := 6) hx hb dX1_strongest_88 (by decide) ?_
            have hb2 : (bst σ ad.toInt wh.toInt kd.toInt dy.toInt (j + 1)) = some b := by
              first | exact (bst_no (by omega)).trans hbs | exact bst_first (by omega) hbs | exact bst_up (by omega) hbs (by show (sR σ (oK (sO σ b)).toInt.toNat).toInt ≤ (sR σ (oK (sO σ j)).toInt.toNat).toInt; omega) | exact bst_keep (by omega) hbs (by show ¬ (sR σ (oK (sO σ b)).toInt.toNat).toInt ≤ (sR σ (oK (sO σ j)).toInt.toNat).toInt; omega)
            exact ih6 (j + 1) x85_16 (by omega) (by omega) v85_16 ls (by rw [hb2]; exact lv_sub hl [0, 2, 3, 4, 5, 6, 7] rfl)
          · have c40_15 : ¬ ((r37_14).toInt = 0) := mt (ti_eq (x := r37_14) (y := 0) (a := (r37_14).toInt) (b := 0) rfl rfl).mpr c40_15
            refine lv_aload hx hb dX1_strongest_43 (lv_at hl 0 rfl) ?_
            refine lv_lload hx hb dX1_strongest_45 (lv_at hl 7 rfl) ?_
            refine rdV_i (b := (κ.2.2.2.2.1 j)) (As := [.long dy]) (rest := []) ⟨hx, hb, hml, hown, hts⟩ (c_X0_isInForce l G (κ.2.2.2.2.1 j) ((sO σ) j) dy) cw121 hK (CW_ord hP hk13) 1 rfl rfl rfl rfl hl.1 rfl (Nat.le_of_ble_eq_true rfl) dX1_strongest_47 ⟨Nat.zero_le _, Nat.zero_le _⟩ (fun r47_17 w47_17 => ?_)
            have w47_17 : ((r47_17.toInt = 1 ∧ ((oF ((sO σ) j)).toInt ≤ (dy).toInt ∧ (dy).toInt ≤ (oU ((sO σ) j)).toInt ∧ (dy).toInt < (oX ((sO σ) j)).toInt)) ∨ (r47_17.toInt = 0 ∧ ¬ ((oF ((sO σ) j)).toInt ≤ (dy).toInt ∧ (dy).toInt ≤ (oU ((sO σ) j)).toInt ∧ (dy).toInt < (oX ((sO σ) j)).toInt))) := w47_17
            refine lv_if_eq (tgt := 85) hx hb dX1_strongest_50 (by decide) (fun c50_18 => ?_) (fun c50_18 => ?_)
            · have c50_18 : (r47_17).toInt = 0 := (ti_eq (x := r47_17) (y := 0) (a := (r47_17).toInt) (b := 0) rfl rfl).mp c50_18
              obtain ⟨x85_19, e85_19⟩ : ∃ y : Int32, y = x7 + 1 := ⟨_, rfl⟩
              have v85_19 : (x85_19).toInt = (((j + 1) : Nat) : Int) := by rw [e85_19]; exact (ti_add (a := ((j : Nat) : Int)) (b := 1) ej rfl (by omega) (by omega)).trans (by omega)
              refine lv_iinc (v := x85_19) (lv' := [(7, .int x85_19), (8, .ref (κ.2.2.2.2.1 j)), (6, .ref (κ.2.2.2.2.1 b)), (0, .ref a.1), (1, .int ad), (2, .int wh), (3, .int kd), (4, .long dy)]) hx hb dX1_strongest_85 hl (k := 1) rfl (by rw [e85_19]; rfl) (by decide) rfl (fun ls hl => ?_)
              refine lv_goto (tgt := 6) hx hb dX1_strongest_88 (by decide) ?_
              have hb2 : (bst σ ad.toInt wh.toInt kd.toInt dy.toInt (j + 1)) = some b := by
                first | exact (bst_no (by omega)).trans hbs | exact bst_first (by omega) hbs | exact bst_up (by omega) hbs (by show (sR σ (oK (sO σ b)).toInt.toNat).toInt ≤ (sR σ (oK (sO σ j)).toInt.toNat).toInt; omega) | exact bst_keep (by omega) hbs (by show ¬ (sR σ (oK (sO σ b)).toInt.toNat).toInt ≤ (sR σ (oK (sO σ j)).toInt.toNat).toInt; omega)
              exact ih6 (j + 1) x85_19 (by omega) (by omega) v85_19 ls (by rw [hb2]; exact lv_sub hl [0, 2, 3, 4, 5, 6, 7] rfl)
            · have c50_18 : ¬ ((r47_17).toInt = 0) := mt (ti_eq (x := r47_17) (y := 0) (a := (r47_17).toInt) (b := 0) rfl rfl).mpr c50_18
              refine lv_aload hx hb dX1_strongest_53 (lv_at hl 2 rfl) ?_
              refine lv_ifnull hx hb dX1_strongest_55 ?_
              refine lv_aload_n hx hb dX1_strongest_58 rfl (lv_at hl 3 rfl) ?_
              refine va_get (D := G.1) (ci := 2) (v := .ref a.2.2.1) (own := RX1) (C := RX1) (T := TX1) (N := 6) hx hb hts hiX1 hown hK.1 hP 0 rfl rfl 1 (by decide) lf16 (fun _ h9 => h9) rfl dX1_strongest_59 ?_
              refine lv_aload hx hb dX1_strongest_62 (lv_at hl 0 rfl) ?_
              refine va_get (D := G.1) (ci := 1) (v := .int (oK ((sO σ) j))) (own := RX1) (C := RX0) (T := TX0) (N := 9) hx hb hts hiX0 hown hK.1 hP (j + 4) (CW_get hk13) rfl 0 (by decide) lf105 (fun _ h9 => h9) rfl dX1_strongest_64 ?_
              refine my_iald hx hb hK hP 1 rfl (((oK ((sO σ) j))).toInt.toNat) (show ((oK ((sO σ) j))).toInt = ((((oK ((sO σ) j))).toInt.toNat : Nat) : Int) by omega) (by omega) dX1_strongest_67 ?_
              refine lv_aload_n hx hb dX1_strongest_68 rfl (lv_at hl 3 rfl) ?_
              refine va_get (D := G.1) (ci := 2) (v := .ref a.2.2.1) (own := RX1) (C := RX1) (T := TX1) (N := 6) hx hb hts hiX1 hown hK.1 hP 0 rfl rfl 1 (by decide) lf16 (fun _ h9 => h9) rfl dX1_strongest_69 ?_
              refine lv_aload hx hb dX1_strongest_72 (lv_at hl 2 rfl) ?_
              refine va_get (D := G.1) (ci := 1) (v := .int (oK (sO σ b))) (own := RX1) (C := RX0) (T := TX0) (N := 9) hx hb hts hiX0 hown hK.1 hP (b + 4) (CW_get hbn) rfl 0 (by decide) lf105 (fun _ h9 => h9) rfl dX1_strongest_74 ?_
              refine my_iald hx hb hK hP 1 rfl (((oK (sO σ b))).toInt.toNat) (show ((oK (sO σ b))).toInt = ((((oK (sO σ b))).toInt.toNat : Nat) : Int) by omega) (by omega) dX1_strongest_77 ?_
              refine lv_icmp_lt (tgt := 85) hx hb dX1_strongest_78 (by decide) (fun c78_20 => ?_) (fun c78_20 => ?_)
              · have c78_20 : (((sR σ) (((oK ((sO σ) j))).toInt.toNat))).toInt < (((sR σ) (((oK (sO σ b))).toInt.toNat))).toInt := (ti_lt (x := ((sR σ) (((oK ((sO σ) j))).toInt.toNat))) (y := ((sR σ) (((oK (sO σ b))).toInt.toNat))) (a := (((sR σ) (((oK ((sO σ) j))).toInt.toNat))).toInt) (b := (((sR σ) (((oK (sO σ b))).toInt.toNat))).toInt) rfl rfl).mp c78_20
                obtain ⟨x85_21, e85_21⟩ : ∃ y : Int32, y = x7 + 1 := ⟨_, rfl⟩
                have v85_21 : (x85_21).toInt = (((j + 1) : Nat) : Int) := by rw [e85_21]; exact (ti_add (a := ((j : Nat) : Int)) (b := 1) ej rfl (by omega) (by omega)).trans (by omega)
                refine lv_iinc (v := x85_21) (lv' := [(7, .int x85_21), (8, .ref (κ.2.2.2.2.1 j)), (6, .ref (κ.2.2.2.2.1 b)), (0, .ref a.1), (1, .int ad), (2, .int wh), (3, .int kd), (4, .long dy)]) hx hb dX1_strongest_85 hl (k := 1) rfl (by rw [e85_21]; rfl) (by decide) rfl (fun ls hl => ?_)
                refine lv_goto (tgt := 6) hx hb dX1_strongest_88 (by decide) ?_
                have hb2 : (bst σ ad.toInt wh.toInt kd.toInt dy.toInt (j + 1)) = some b := by
                  first | exact (bst_no (by omega)).trans hbs | exact bst_first (by omega) hbs | exact bst_up (by omega) hbs (by show (sR σ (oK (sO σ b)).toInt.toNat).toInt ≤ (sR σ (oK (sO σ j)).toInt.toNat).toInt; omega) | exact bst_keep (by omega) hbs (by show ¬ (sR σ (oK (sO σ b)).toInt.toNat).toInt ≤ (sR σ (oK (sO σ j)).toInt.toNat).toInt; omega)
                exact ih6 (j + 1) x85_21 (by omega) (by omega) v85_21 ls (by rw [hb2]; exact lv_sub hl [0, 2, 3, 4, 5, 6, 7] rfl)
              · have c78_20 : ¬ ((((sR σ) (((oK ((sO σ) j))).toInt.toNat))).toInt < (((sR σ) (((oK (sO σ b))).toInt.toNat))).toInt) := mt (ti_lt (x := ((sR σ) (((oK ((sO σ) j))).toInt.toNat))) (y := ((sR σ) (((oK (sO σ b))).toInt.toNat))) (a := (((sR σ) (((oK ((sO σ) j))).toInt.toNat))).toInt) (b := (((sR σ) (((oK (sO σ b))).toInt.toNat))).toInt) rfl rfl).mpr c78_20
                refine lv_aload hx hb dX1_strongest_81 (lv_at hl 0 rfl) ?_
                refine lv_astore (lv' := [(6, .ref (κ.2.2.2.2.1 j)), (8, .ref (κ.2.2.2.2.1 j)), (7, .int x7), (0, .ref a.1), (1, .int ad), (2, .int wh), (3, .int kd), (4, .long dy)]) hx hb dX1_strongest_83 hl (by decide) rfl (fun ls hl => ?_)
                obtain ⟨x85_22, e85_22⟩ : ∃ y : Int32, y = x7 + 1 := ⟨_, rfl⟩
                have v85_22 : (x85_22).toInt = (((j + 1) : Nat) : Int) := by rw [e85_22]; exact (ti_add (a := ((j : Nat) : Int)) (b := 1) ej rfl (by omega) (by omega)).trans (by omega)
                refine lv_iinc (v := x85_22) (lv' := [(7, .int x85_22), (6, .ref (κ.2.2.2.2.1 j)), (8, .ref (κ.2.2.2.2.1 j)), (0, .ref a.1), (1, .int ad), (2, .int wh), (3, .int kd), (4, .long dy)]) hx hb dX1_strongest_85 hl (k := 2) rfl (by rw [e85_22]; rfl) (by decide) rfl (fun ls hl => ?_)
                refine lv_goto (tgt := 6) hx hb dX1_strongest_88 (by decide) ?_
                have hb2 : (bst σ ad.toInt wh.toInt kd.toInt dy.toInt (j + 1)) = some j := by
                  first | exact (bst_no (by omega)).trans hbs | exact bst_first (by omega) hbs | exact bst_up (by omega) hbs (by show (sR σ (oK (sO σ b)).toInt.toNat).toInt ≤ (sR σ (oK (sO σ j)).toInt.toNat).toInt; omega) | exact bst_keep (by omega) hbs (by show ¬ (sR σ (oK (sO σ b)).toInt.toNat).toInt ≤ (sR σ (oK (sO σ j)).toInt.toNat).toInt; omega)
                exact ih6 (j + 1) x85_22 (by omega) (by omega) v85_22 ls (by rw [hb2]; exact lv_sub hl [0, 1, 3, 4, 5, 6, 7] rfl)
  exact loop6 (sN σ + 1) 0 0 (by omega) (Nat.zero_le _) rfl ls (lv_sub hl [0, 1, 2, 3, 4, 5, 6] rfl)

set_option maxHeartbeats 4000000 in
set_option maxRecDepth 100000 in
/-- told -/
theorem c_X1_told (l : Launch) (G : GG) (a : AD) (κ : KP) (σ : St) (hI : SI σ) (hC : CI κ σ) (s0 i : Int32) : RdI l yX1_told wsX1_told (rmX 3 110 0 0) G [.ref a.1, .int s0, .int i] (WC G a κ σ) (fun r => r = fTold σ s0 i) := by
  refine rd_of_i (cc := cX1_told) (maxL := 6) (t := .int) (by decide +kernel) rfl (Nat.le_of_ble_eq_true rfl) nar_int ?_
  intro p e s m args below meth c Q hx hb hml hown hts hP hK hret ls hl
  have hown : s.vm.findClass RX1 = some m.cls := hown
  have hl : lv_has ls 6 [(0, .ref a.1), (1, .int s0), (2, .int i)] := hl
  have hP : va_P G.1 vwCl (CW G a (nI (sG σ).length) (sT σ) (sR σ) κ.2.2.2.2.2.1 κ.2.2.2.2.2.2 (pO κ.2.2.2.2.1 (sO σ) (sN σ)) (LW G a.2.1 κ.1 κ.2.1 κ.2.2.1 κ.2.2.2.1 (sN σ))) s.heap := hP
  obtain ⟨hI1, hI2, hI3, hI4, hI5⟩ := id hI
  have cw45 := va_cwS (R := (rmX 3 110 0 0)) (s := s) (args := args) (rm := (rmX 0 0 0 0)) (mc := 0) (ms := 0) 1 hts gX1_told_X1_isPerson rfl rfl rfl (by decide +kernel) ⟨Nat.le_of_ble_eq_true rfl, Nat.le_of_ble_eq_true rfl⟩
  have hiX1 := (show ∀ w ∈ u_ws RX1 TX1 6, w ∈ wsX1_told by decide +kernel)
  have lf10 := hts (.fieldLink RX1 10 "OrderRows2" "orders" "Ljava/util/ArrayList;") (by decide +kernel)
  have cw52 := cwV (R := (rmX 3 110 0 0)) (s := s) (args := args) (rm := (rmX 0 0 0 0)) (mc := 0) (ms := 0) 0 hts gX1_told_Jx4a65c_size_8abf5 rfl rfl rfl (by decide +kernel) ⟨Nat.le_of_ble_eq_true rfl, Nat.le_of_ble_eq_true rfl⟩
  have cw114 := cwV (R := (rmX 3 110 0 0)) (s := s) (args := args) (rm := (rmX 2 70 0 0)) (mc := 0) (ms := 0) 1 hts gX1_told_Jx4a65c_get_915e3 rfl rfl rfl (by decide +kernel) ⟨Nat.le_of_ble_eq_true rfl, Nat.le_of_ble_eq_true rfl⟩
  have cl56 := hts (.classLink RX1 56 RX0) (by decide +kernel)
  have hiX0 := (show ∀ w ∈ u_ws RX0 TX0 9, w ∈ wsX1_told by decide +kernel)
  have lf118 := hts (.fieldLink RX1 118 "OrderRows2$Order" "who" "I") (by decide +kernel)
  have lf80 := hts (.fieldLink RX1 80 "OrderRows2$Order" "isProved" "Z") (by decide +kernel)
  have cw102 := cwV (R := (rmX 3 110 0 0)) (s := s) (args := args) (rm := (rmX 1 40 0 0)) (mc := 0) (ms := 0) 0 hts gX1_told_X0_sendsOn rfl rfl rfl (by decide +kernel) ⟨Nat.le_of_ble_eq_true rfl, Nat.le_of_ble_eq_true rfl⟩
  have lf30 := hts (.fieldLink RX1 30 "OrderRows2" "clock" "J") (by decide +kernel)
  have cw121 := cwV (R := (rmX 3 110 0 0)) (s := s) (args := args) (rm := (rmX 0 0 0 0)) (mc := 0) (ms := 0) 1 hts gX1_told_X0_isInForce rfl rfl rfl (by decide +kernel) ⟨Nat.le_of_ble_eq_true rfl, Nat.le_of_ble_eq_true rfl⟩
  refine lv_iload_n hx hb dX1_told_0 rfl (lv_at hl 1 rfl) ?_
  refine rdS_i (As := [.int s0]) (rest := []) ⟨hx, hb, hml, hown, hts⟩ (c_X1_isPerson l G s0) cw45 hK va_P.nil rfl hl.1 rfl (Nat.le_of_ble_eq_true rfl) dX1_told_1 ⟨Nat.zero_le _, Nat.zero_le _⟩ (fun r1_1 w1_1 => ?_)
  have w1_1 : ((r1_1.toInt = 1 ∧ (0 ≤ (s0).toInt ∧ (s0).toInt ≤ 49)) ∨ (r1_1.toInt = 0 ∧ ¬ (0 ≤ (s0).toInt ∧ (s0).toInt ≤ 49))) := w1_1
  refine lv_if_ne (tgt := 10) hx hb dX1_told_4 (by decide) (fun c4_2 => ?_) (fun c4_2 => ?_)
  · have c4_2 : ¬ ((r1_1).toInt = 0) := mt (ti_eq (x := r1_1) (y := 0) (a := (r1_1).toInt) (b := 0) rfl rfl).mpr c4_2
    refine lv_iconst (v := 0) hx hb dX1_told_10 (by decide) ?_
    refine lv_istore_n (lv' := [(3, .int 0), (0, .ref a.1), (1, .int s0), (2, .int i)]) hx hb dX1_told_11 rfl hl (by decide) rfl (fun ls hl => ?_)
    refine lv_iconst (v := 0) hx hb dX1_told_12 (by decide) ?_
    refine lv_istore (lv' := [(4, .int 0), (3, .int 0), (0, .ref a.1), (1, .int s0), (2, .int i)]) hx hb dX1_told_13 hl (by decide) rfl (fun ls hl => ?_)
    have loop15 : ∀ (fu : Nat) (k cn : Nat) (x4 x3 : Int32), sN σ < k + fu → k ≤ sN σ → cn ≤ k → x4.toInt = (k : Int) → x3.toInt = (cn : Int) → tdL σ s0.toInt i.toInt (sN σ - k) k cn = tdL σ s0.toInt i.toInt (sN σ) 0 0 → ∀ ls : Array Slot, lv_has ls 6 [(4, .int x4), (3, .int x3), (0, .ref a.1), (1, .int s0), (2, .int i)] → W p l e (rmX 3 110 0 0) s m args below meth c s.heap [] 0 0 Q (F0 m 15 ls []) := by
      intro fu
      induction fu with
      | zero =>
        intro k cn x4 x3 hfu hkn hcn e4 e3 hT
        exact absurd hfu (by omega)
      | succ fu ih15 =>
        intro k cn x4 x3 hfu hkn hcn e4 e3 hT ls hl
        refine lv_iload hx hb dX1_told_15 (lv_at hl 0 rfl) ?_
        refine lv_aload_n hx hb dX1_told_17 rfl (lv_at hl 2 rfl) ?_
        refine va_get (D := G.1) (ci := 2) (v := .ref a.2.1) (own := RX1) (C := RX1) (T := TX1) (N := 6) hx hb hts hiX1 hown hK.1 hP 0 rfl rfl 0 (by decide) lf10 (fun _ h9 => h9) rfl dX1_told_18 ?_
        refine rdV_i (b := a.2.1) (As := []) (rest := [.int x4]) ⟨hx, hb, hml, hown, hts⟩ (c_Jx4a65c_size_8abf5 l G a.2.1 κ.1 (nI (sN σ)) _) cw52 hK (LW_one (CW_list hP)) 0 rfl rfl rfl rfl hl.1 rfl (Nat.le_of_ble_eq_true rfl) dX1_told_21 ⟨Nat.zero_le _, Nat.zero_le _⟩ (fun r3 w3 => ?_)
        have w3 : r3.toInt = (((sN σ) : Nat) : Int) := by rw [w3]; exact ti_nI (by omega)
        refine lv_icmp_ge (tgt := 97) hx hb dX1_told_24 (by decide) (fun c24_4 => ?_) (fun c24_4 => ?_)
        · have c24_4 : (((sN σ) : Nat) : Int) ≤ ((k : Nat) : Int) := (ti_le (x := r3) (y := x4) (a := (((sN σ) : Nat) : Int)) (b := ((k : Nat) : Int)) w3 e4).mp c24_4
          refine lv_iconst (v := 0) hx hb dX1_told_97 (by decide) ?_
          have er : sN σ - k = 0 := by omega
          rw [er] at hT
          exact hret _ _ _ dX1_told_98 (Or.inr (Or.inr rfl)) ((if_neg (show ¬ ¬ (0 ≤ s0.toInt ∧ s0.toInt ≤ 49) by omega)).trans hT.symm).symm
        · have c24_4 : ¬ ((((sN σ) : Nat) : Int) ≤ ((k : Nat) : Int)) := mt (ti_le (x := r3) (y := x4) (a := (((sN σ) : Nat) : Int)) (b := ((k : Nat) : Int)) w3 e4).mpr c24_4
          refine lv_aload_n hx hb dX1_told_27 rfl (lv_at hl 2 rfl) ?_
          refine va_get (D := G.1) (ci := 2) (v := .ref a.2.1) (own := RX1) (C := RX1) (T := TX1) (N := 6) hx hb hts hiX1 hown hK.1 hP 0 rfl rfl 0 (by decide) lf10 (fun _ h9 => h9) rfl dX1_told_28 ?_
          refine lv_iload hx hb dX1_told_31 (lv_at hl 0 rfl) ?_
          have hk5 : k < (sN σ) := by omega
          obtain ⟨hc5, hd5, he5⟩ := hC.1 (by omega)
          refine rdV_q (b := a.2.1) (As := [.int x4]) (rest := []) ⟨hx, hb, hml, hown, hts⟩ (c_Jx4a65c_get_915e3 l G a.2.1 κ.1 x4 κ.2.1 κ.2.2.1 (sN σ) k κ.2.2.2.1 e4 hk5 hc5 (by omega)) cw114 hK (LW_pos (show (sN σ) ≠ 0 by omega) ▸ CW_list hP) 0 rfl rfl rfl rfl hl.1 rfl (Nat.le_of_ble_eq_true rfl) dX1_told_33 ⟨Nat.zero_le _, Nat.zero_le _⟩ (fun r5 w5 => ?_)
          obtain rfl : r5 = some (κ.2.2.2.2.1 k) := w5.trans (he5 k hk5)
          refine W.eq (g2 := F0 m 36 ls [.ref (κ.2.2.2.2.1 k)]) rfl ?_
          refine va_castS (own := RX1) (nm := RX0) hx hb hown cl56 (hK.1.1 1 _ rfl).2 (va_recv hK.1 hP (ci := 1) (q0 := k + 4) rfl (CW_get hk5)) dX1_told_36 ?_
          have hoj := hI4 k hk5
          unfold OI at hoj
          refine lv_astore (lv' := [(5, .ref (κ.2.2.2.2.1 k)), (4, .int x4), (3, .int x3), (0, .ref a.1), (1, .int s0), (2, .int i)]) hx hb dX1_told_39 hl (by decide) rfl (fun ls hl => ?_)
          refine lv_aload hx hb dX1_told_41 (lv_at hl 0 rfl) ?_
          refine va_get (D := G.1) (ci := 1) (v := .int (oW ((sO σ) k))) (own := RX1) (C := RX0) (T := TX0) (N := 9) hx hb hts hiX0 hown hK.1 hP (k + 4) (CW_get hk5) rfl 2 (by decide) lf118 (fun _ h9 => h9) rfl dX1_told_43 ?_
          refine lv_iload_n hx hb dX1_told_46 rfl (lv_at hl 4 rfl) ?_
          refine lv_icmp_ne (tgt := 91) hx hb dX1_told_47 (by decide) (fun c47_6 => ?_) (fun c47_6 => ?_)
          · have c47_6 : ¬ (((oW ((sO σ) k))).toInt = (s0).toInt) := mt (ti_eq (x := (oW ((sO σ) k))) (y := s0) (a := ((oW ((sO σ) k))).toInt) (b := (s0).toInt) rfl rfl).mpr c47_6
            obtain ⟨x91_7, e91_7⟩ : ∃ y : Int32, y = x4 + 1 := ⟨_, rfl⟩
            have v91_7 : (x91_7).toInt = (((k + 1) : Nat) : Int) := by rw [e91_7]; exact (ti_add (a := ((k : Nat) : Int)) (b := 1) e4 rfl (by omega) (by omega)).trans (by omega)
            refine lv_iinc (v := x91_7) (lv' := [(4, .int x91_7), (5, .ref (κ.2.2.2.2.1 k)), (3, .int x3), (0, .ref a.1), (1, .int s0), (2, .int i)]) hx hb dX1_told_91 hl (k := 1) rfl (by rw [e91_7]; rfl) (by decide) rfl (fun ls hl => ?_)
            refine lv_goto (tgt := 15) hx hb dX1_told_94 (by decide) ?_
            have er : sN σ - k = (sN σ - (k + 1)) + 1 := by omega
            exact ih15 (k + 1) cn x91_7 x3 (by omega) (by omega) (by omega) v91_7 e3 (by rw [← hT, er]; exact (tdL_n (by omega)).symm) ls (lv_sub hl [0, 2, 3, 4, 5] rfl)
          · have c47_6 : ((oW ((sO σ) k))).toInt = (s0).toInt := (ti_eq (x := (oW ((sO σ) k))) (y := s0) (a := ((oW ((sO σ) k))).toInt) (b := (s0).toInt) rfl rfl).mp c47_6
            refine lv_aload hx hb dX1_told_50 (lv_at hl 0 rfl) ?_
            refine va_get (D := G.1) (ci := 1) (v := .int (oP ((sO σ) k))) (own := RX1) (C := RX0) (T := TX0) (N := 9) hx hb hts hiX0 hown hK.1 hP (k + 4) (CW_get hk5) rfl 8 (by decide) lf80 (fun _ h9 => h9) rfl dX1_told_52 ?_
            refine lv_if_eq (tgt := 91) hx hb dX1_told_55 (by decide) (fun c55_8 => ?_) (fun c55_8 => ?_)
            · have c55_8 : ((oP ((sO σ) k))).toInt = 0 := (ti_eq (x := (oP ((sO σ) k))) (y := 0) (a := ((oP ((sO σ) k))).toInt) (b := 0) rfl rfl).mp c55_8
              obtain ⟨x91_9, e91_9⟩ : ∃ y : Int32, y = x4 + 1 := ⟨_, rfl⟩
              have v91_9 : (x91_9).toInt = (((k + 1) : Nat) : Int) := by rw [e91_9]; exact (ti_add (a := ((k : Nat) : Int)) (b := 1) e4 rfl (by omega) (by omega)).trans (by omega)
              refine lv_iinc (v := x91_9) (lv' := [(4, .int x91_9), (5, .ref (κ.2.2.2.2.1 k)), (3, .int x3), (0, .ref a.1), (1, .int s0), (2, .int i)]) hx hb dX1_told_91 hl (k := 1) rfl (by rw [e91_9]; rfl) (by decide) rfl (fun ls hl => ?_)
              refine lv_goto (tgt := 15) hx hb dX1_told_94 (by decide) ?_
              have er : sN σ - k = (sN σ - (k + 1)) + 1 := by omega
              exact ih15 (k + 1) cn x91_9 x3 (by omega) (by omega) (by omega) v91_9 e3 (by rw [← hT, er]; exact (tdL_n (by omega)).symm) ls (lv_sub hl [0, 2, 3, 4, 5] rfl)
            · have c55_8 : ¬ (((oP ((sO σ) k))).toInt = 0) := mt (ti_eq (x := (oP ((sO σ) k))) (y := 0) (a := ((oP ((sO σ) k))).toInt) (b := 0) rfl rfl).mpr c55_8
              refine lv_aload hx hb dX1_told_58 (lv_at hl 0 rfl) ?_
              refine rdV_i (b := (κ.2.2.2.2.1 k)) (As := []) (rest := []) ⟨hx, hb, hml, hown, hts⟩ (c_X0_sendsOn l G (κ.2.2.2.2.1 k) ((sO σ) k)  (by omega)) cw102 hK (CW_ord hP hk5) 1 rfl rfl rfl rfl hl.1 rfl (Nat.le_of_ble_eq_true rfl) dX1_told_60 ⟨Nat.zero_le _, Nat.zero_le _⟩ (fun r60_10 w60_10 => ?_)
              have w60_10 : ((r60_10.toInt = 1 ∧ ((oK ((sO σ) k)).toInt < 3)) ∨ (r60_10.toInt = 0 ∧ ¬ ((oK ((sO σ) k)).toInt < 3))) := w60_10
              refine lv_if_eq (tgt := 91) hx hb dX1_told_63 (by decide) (fun c63_11 => ?_) (fun c63_11 => ?_)
              · have c63_11 : (r60_10).toInt = 0 := (ti_eq (x := r60_10) (y := 0) (a := (r60_10).toInt) (b := 0) rfl rfl).mp c63_11
                obtain ⟨x91_12, e91_12⟩ : ∃ y : Int32, y = x4 + 1 := ⟨_, rfl⟩
                have v91_12 : (x91_12).toInt = (((k + 1) : Nat) : Int) := by rw [e91_12]; exact (ti_add (a := ((k : Nat) : Int)) (b := 1) e4 rfl (by omega) (by omega)).trans (by omega)
                refine lv_iinc (v := x91_12) (lv' := [(4, .int x91_12), (5, .ref (κ.2.2.2.2.1 k)), (3, .int x3), (0, .ref a.1), (1, .int s0), (2, .int i)]) hx hb dX1_told_91 hl (k := 1) rfl (by rw [e91_12]; rfl) (by decide) rfl (fun ls hl => ?_)
                refine lv_goto (tgt := 15) hx hb dX1_told_94 (by decide) ?_
                have er : sN σ - k = (sN σ - (k + 1)) + 1 := by omega
                exact ih15 (k + 1) cn x91_12 x3 (by omega) (by omega) (by omega) v91_12 e3 (by rw [← hT, er]; exact (tdL_n (by omega)).symm) ls (lv_sub hl [0, 2, 3, 4, 5] rfl)
              · have c63_11 : ¬ ((r60_10).toInt = 0) := mt (ti_eq (x := r60_10) (y := 0) (a := (r60_10).toInt) (b := 0) rfl rfl).mpr c63_11
                refine lv_aload hx hb dX1_told_66 (lv_at hl 0 rfl) ?_
                refine lv_aload_n hx hb dX1_told_68 rfl (lv_at hl 3 rfl) ?_
                refine va_get (D := G.1) (ci := 2) (v := .long (sT σ)) (own := RX1) (C := RX1) (T := TX1) (N := 6) hx hb hts hiX1 hown hK.1 hP 0 rfl rfl 5 (by decide) lf30 (fun _ h9 => h9) rfl dX1_told_69 ?_
                refine rdV_i (b := (κ.2.2.2.2.1 k)) (As := [.long (sT σ)]) (rest := []) ⟨hx, hb, hml, hown, hts⟩ (c_X0_isInForce l G (κ.2.2.2.2.1 k) ((sO σ) k) (sT σ)) cw121 hK (CW_ord hP hk5) 1 rfl rfl rfl rfl hl.1 rfl (Nat.le_of_ble_eq_true rfl) dX1_told_72 ⟨Nat.zero_le _, Nat.zero_le _⟩ (fun r72_13 w72_13 => ?_)
                have w72_13 : ((r72_13.toInt = 1 ∧ ((oF ((sO σ) k)).toInt ≤ ((sT σ)).toInt ∧ ((sT σ)).toInt ≤ (oU ((sO σ) k)).toInt ∧ ((sT σ)).toInt < (oX ((sO σ) k)).toInt)) ∨ (r72_13.toInt = 0 ∧ ¬ ((oF ((sO σ) k)).toInt ≤ ((sT σ)).toInt ∧ ((sT σ)).toInt ≤ (oU ((sO σ) k)).toInt ∧ ((sT σ)).toInt < (oX ((sO σ) k)).toInt))) := w72_13
                refine lv_if_eq (tgt := 91) hx hb dX1_told_75 (by decide) (fun c75_14 => ?_) (fun c75_14 => ?_)
                · have c75_14 : (r72_13).toInt = 0 := (ti_eq (x := r72_13) (y := 0) (a := (r72_13).toInt) (b := 0) rfl rfl).mp c75_14
                  obtain ⟨x91_15, e91_15⟩ : ∃ y : Int32, y = x4 + 1 := ⟨_, rfl⟩
                  have v91_15 : (x91_15).toInt = (((k + 1) : Nat) : Int) := by rw [e91_15]; exact (ti_add (a := ((k : Nat) : Int)) (b := 1) e4 rfl (by omega) (by omega)).trans (by omega)
                  refine lv_iinc (v := x91_15) (lv' := [(4, .int x91_15), (5, .ref (κ.2.2.2.2.1 k)), (3, .int x3), (0, .ref a.1), (1, .int s0), (2, .int i)]) hx hb dX1_told_91 hl (k := 1) rfl (by rw [e91_15]; rfl) (by decide) rfl (fun ls hl => ?_)
                  refine lv_goto (tgt := 15) hx hb dX1_told_94 (by decide) ?_
                  have er : sN σ - k = (sN σ - (k + 1)) + 1 := by omega
                  exact ih15 (k + 1) cn x91_15 x3 (by omega) (by omega) (by omega) v91_15 e3 (by rw [← hT, er]; exact (tdL_n (by omega)).symm) ls (lv_sub hl [0, 2, 3, 4, 5] rfl)
                · have c75_14 : ¬ ((r72_13).toInt = 0) := mt (ti_eq (x := r72_13) (y := 0) (a := (r72_13).toInt) (b := 0) rfl rfl).mpr c75_14
                  refine lv_iload_n hx hb dX1_told_78 rfl (lv_at hl 2 rfl) ?_
                  refine lv_iload_n hx hb dX1_told_79 rfl (lv_at hl 5 rfl) ?_
                  refine lv_icmp_ne (tgt := 88) hx hb dX1_told_80 (by decide) (fun c80_16 => ?_) (fun c80_16 => ?_)
                  · have c80_16 : ¬ (((cn : Nat) : Int) = (i).toInt) := mt (ti_eq (x := x3) (y := i) (a := ((cn : Nat) : Int)) (b := (i).toInt) e3 rfl).mpr c80_16
                    obtain ⟨x88_17, e88_17⟩ : ∃ y : Int32, y = x3 + 1 := ⟨_, rfl⟩
                    have v88_17 : (x88_17).toInt = (((cn + 1) : Nat) : Int) := by rw [e88_17]; exact (ti_add (a := ((cn : Nat) : Int)) (b := 1) e3 rfl (by omega) (by omega)).trans (by omega)
                    refine lv_iinc (v := x88_17) (lv' := [(3, .int x88_17), (5, .ref (κ.2.2.2.2.1 k)), (4, .int x4), (0, .ref a.1), (1, .int s0), (2, .int i)]) hx hb dX1_told_88 hl (k := 2) rfl (by rw [e88_17]; rfl) (by decide) rfl (fun ls hl => ?_)
                    obtain ⟨x91_18, e91_18⟩ : ∃ y : Int32, y = x4 + 1 := ⟨_, rfl⟩
                    have v91_18 : (x91_18).toInt = (((k + 1) : Nat) : Int) := by rw [e91_18]; exact (ti_add (a := ((k : Nat) : Int)) (b := 1) e4 rfl (by omega) (by omega)).trans (by omega)
                    refine lv_iinc (v := x91_18) (lv' := [(4, .int x91_18), (3, .int x88_17), (5, .ref (κ.2.2.2.2.1 k)), (0, .ref a.1), (1, .int s0), (2, .int i)]) hx hb dX1_told_91 hl (k := 2) rfl (by rw [e91_18]; rfl) (by decide) rfl (fun ls hl => ?_)
                    refine lv_goto (tgt := 15) hx hb dX1_told_94 (by decide) ?_
                    have er : sN σ - k = (sN σ - (k + 1)) + 1 := by omega
                    exact ih15 (k + 1) (cn + 1) x91_18 x88_17 (by omega) (by omega) (by omega) v91_18 v88_17 (by rw [← hT, er]; exact (tdL_m (by omega) (by omega)).symm) ls (lv_sub hl [0, 1, 3, 4, 5] rfl)
                  · have c80_16 : ((cn : Nat) : Int) = (i).toInt := (ti_eq (x := x3) (y := i) (a := ((cn : Nat) : Int)) (b := (i).toInt) e3 rfl).mp c80_16
                    refine lv_iload hx hb dX1_told_83 (lv_at hl 1 rfl) ?_
                    refine lv_iconst (v := 1) hx hb dX1_told_85 (by decide) ?_
                    refine lv_iadd hx hb dX1_told_86 ?_
                    refine lv_topi (fun y86_19 e86_19 => ?_)
                    have v86_19 : (y86_19).toInt = (((k + 1) : Nat) : Int) := by rw [e86_19]; exact (ti_add (a := ((k : Nat) : Int)) (b := 1) e4 rfl (by omega) (by omega)).trans (by omega)
                    have er : sN σ - k = (sN σ - (k + 1)) + 1 := by omega
                    rw [er] at hT
                    exact hret _ _ _ dX1_told_87 (Or.inr (Or.inr rfl)) ((nI_ofI v86_19).trans (((if_neg (show ¬ ¬ (0 ≤ s0.toInt ∧ s0.toInt ≤ 49) by omega)).trans (hT.symm.trans (tdL_y (by omega) (by omega)))).symm))
    exact loop15 (sN σ + 1) 0 0 0 0 (by omega) (Nat.zero_le _) (Nat.le_refl _) rfl rfl rfl ls (lv_sub hl [0, 1, 2, 3, 4] rfl)
  · have c4_2 : (r1_1).toInt = 0 := (ti_eq (x := r1_1) (y := 0) (a := (r1_1).toInt) (b := 0) rfl rfl).mp c4_2
    refine lv_bipush (v := (-101)) hx hb dX1_told_7 (by decide) ?_
    exact hret _ _ _ dX1_told_9 (Or.inr (Or.inr rfl)) (if_pos (by omega)).symm

set_option maxHeartbeats 4000000 in
set_option maxRecDepth 100000 in
/-- moveClock -/
theorem c_X1_moveClock (l : Launch) (G : GG) (a : AD) (κ : KP) (σ : St) (hI : SI σ) (hC : CI κ σ) (t : Int64) : WrI l yX1_moveClock wsX1_moveClock (rmX 3 110 0 0) G [.ref a.1, .long t] (WC G a κ σ) (fun (r : Int32) (u : Unit) => r = nI (cntL σ t.toInt (sN σ))) (fun u : Unit => WC G a κ (mvS σ t)) 0 0 := by
  refine wr_of_i (cc := cX1_moveClock) (maxL := 5) (t := .int) (by decide +kernel) rfl (Nat.le_of_ble_eq_true rfl) nar_int ?_
  intro p e s m args below meth c Q A hx hb hml hown hts hK hZ hA hret ls hl hP hD hS
  have hown : s.vm.findClass RX1 = some m.cls := hown
  have hl : lv_has ls 5 [(0, .ref a.1), (1, .long t)] := hl
  have hP : va_P G.1 vwCl (CW G a (nI (sG σ).length) (sT σ) (sR σ) κ.2.2.2.2.2.1 κ.2.2.2.2.2.2 (pO κ.2.2.2.2.1 (sO σ) (sN σ)) (LW G a.2.1 κ.1 κ.2.1 κ.2.2.1 κ.2.2.2.1 (sN σ))) s.heap := hP
  have hD : va_D A (CW G a (nI (sG σ).length) (sT σ) (sR σ) κ.2.2.2.2.2.1 κ.2.2.2.2.2.2 (pO κ.2.2.2.2.1 (sO σ) (sN σ)) (LW G a.2.1 κ.1 κ.2.1 κ.2.2.1 κ.2.2.2.1 (sN σ))) := hD
  obtain ⟨hI1, hI2, hI3, hI4, hI5⟩ := id hI
  have hiX1 := (show ∀ w ∈ u_ws RX1 TX1 6, w ∈ wsX1_moveClock by decide +kernel)
  have lf30 := hts (.fieldLink RX1 30 "OrderRows2" "clock" "J") (by decide +kernel)
  have lf10 := hts (.fieldLink RX1 10 "OrderRows2" "orders" "Ljava/util/ArrayList;") (by decide +kernel)
  have cw52 := cwV (R := (rmX 3 110 0 0)) (s := s) (args := args) (rm := (rmX 0 0 0 0)) (mc := 0) (ms := 0) 0 hts gX1_moveClock_Jx4a65c_size_8abf5 rfl rfl rfl (by decide +kernel) ⟨Nat.le_of_ble_eq_true rfl, Nat.le_of_ble_eq_true rfl⟩
  have cw114 := cwV (R := (rmX 3 110 0 0)) (s := s) (args := args) (rm := (rmX 2 70 0 0)) (mc := 0) (ms := 0) 1 hts gX1_moveClock_Jx4a65c_get_915e3 rfl rfl rfl (by decide +kernel) ⟨Nat.le_of_ble_eq_true rfl, Nat.le_of_ble_eq_true rfl⟩
  have cl56 := hts (.classLink RX1 56 RX0) (by decide +kernel)
  have cw126 := cwV (R := (rmX 3 110 0 0)) (s := s) (args := args) (rm := (rmX 1 40 0 0)) (mc := 0) (ms := 0) 1 hts gX1_moveClock_X0_lapseIfDue rfl rfl rfl (by decide +kernel) ⟨Nat.le_of_ble_eq_true rfl, Nat.le_of_ble_eq_true rfl⟩
  refine lv_aload_n hx hb dX1_moveClock_0 rfl (lv_at hl 0 rfl) ?_
  refine lv_lload_n hx hb dX1_moveClock_1 rfl (lv_at hl 1 rfl) ?_
  refine va_put (D := G.1) (ci := 2) (v := .long t) (ty := .long) (own := RX1) (C := RX1) (T := TX1) (N := 6) hx hb hts hiX1 tyX1 tyX1_ok nmX1 hown hK.1 hP hD hS 0 rfl rfl 5 (by decide) lf30 (fun _ h9 => h9) rfl (by decide +kernel) rfl rfl (Nat.le_of_ble_eq_true rfl) dX1_moveClock_2 (fun H locs hP hD hS => ?_)
  have hP : va_P G.1 vwCl (CW G a (nI (sG σ).length) t (sR σ) κ.2.2.2.2.2.1 κ.2.2.2.2.2.2 (pO κ.2.2.2.2.1 (sO σ) (sN σ)) (LW G a.2.1 κ.1 κ.2.1 κ.2.2.1 κ.2.2.2.1 (sN σ))) H := hP
  have hD : va_D A (CW G a (nI (sG σ).length) t (sR σ) κ.2.2.2.2.2.1 κ.2.2.2.2.2.2 (pO κ.2.2.2.2.1 (sO σ) (sN σ)) (LW G a.2.1 κ.1 κ.2.1 κ.2.2.1 κ.2.2.2.1 (sN σ))) := hD
  refine lv_iconst (v := 0) hx hb dX1_moveClock_5 (by decide) ?_
  refine lv_istore_n (lv' := [(3, .int 0), (0, .ref a.1), (1, .long t)]) hx hb dX1_moveClock_6 rfl hl (by decide) rfl (fun ls hl => ?_)
  refine lv_iconst (v := 0) hx hb dX1_moveClock_7 (by decide) ?_
  refine lv_istore (lv' := [(4, .int 0), (3, .int 0), (0, .ref a.1), (1, .long t)]) hx hb dX1_moveClock_8 hl (by decide) rfl (fun ls hl => ?_)
  have hP : va_P G.1 vwCl (CW G a (nI (sG σ).length) t (sR σ) κ.2.2.2.2.2.1 κ.2.2.2.2.2.2 (pO κ.2.2.2.2.1 (mvO σ t.toInt 0) (sN σ)) (LW G a.2.1 κ.1 κ.2.1 κ.2.2.1 κ.2.2.2.1 (sN σ))) H := by rw [mvO_0]; exact hP
  have hD : va_D A (CW G a (nI (sG σ).length) t (sR σ) κ.2.2.2.2.2.1 κ.2.2.2.2.2.2 (pO κ.2.2.2.2.1 (mvO σ t.toInt 0) (sN σ)) (LW G a.2.1 κ.1 κ.2.1 κ.2.2.1 κ.2.2.2.1 (sN σ))) := by rw [mvO_0]; exact hD
  have loop10 : ∀ (fu : Nat) (k : Nat) (x4 x3 : Int32), sN σ < k + fu → k ≤ sN σ → x4.toInt = (k : Int) → x3.toInt = ((cntL σ t.toInt k : Nat) : Int) → ∀ (H : Heap) (locs : List Loc), va_P G.1 vwCl (CW G a (nI (sG σ).length) t (sR σ) κ.2.2.2.2.2.1 κ.2.2.2.2.2.2 (pO κ.2.2.2.2.1 (mvO σ t.toInt k) (sN σ)) (LW G a.2.1 κ.1 κ.2.1 κ.2.2.1 κ.2.2.2.1 (sN σ))) H → va_D A (CW G a (nI (sG σ).length) t (sR σ) κ.2.2.2.2.2.1 κ.2.2.2.2.2.2 (pO κ.2.2.2.2.1 (mvO σ t.toInt k) (sN σ)) (LW G a.2.1 κ.1 κ.2.1 κ.2.2.1 κ.2.2.2.1 (sN σ))) → va_S A s.heap H locs → ∀ ls : Array Slot, lv_has ls 5 [(4, .int x4), (3, .int x3), (0, .ref a.1), (1, .long t)] → W p l e (rmX 3 110 0 0) s m args below meth c H locs 0 0 Q (F0 m 10 ls []) := by
    intro fu
    induction fu with
    | zero =>
      intro k x4 x3 hfu hkn e4 e3
      exact absurd hfu (by omega)
    | succ fu ih10 =>
      intro k x4 x3 hfu hkn e4 e3 H locs hP hD hS ls hl
      have hcl := cntL_le (σ := σ) (t := t.toInt) k
      refine lv_iload hx hb dX1_moveClock_10 (lv_at hl 0 rfl) ?_
      refine lv_aload_n hx hb dX1_moveClock_12 rfl (lv_at hl 2 rfl) ?_
      refine va_get (D := G.1) (ci := 2) (v := .ref a.2.1) (own := RX1) (C := RX1) (T := TX1) (N := 6) hx hb hts hiX1 hown hK.1 hP 0 rfl rfl 0 (by decide) lf10 (fun _ h9 => h9) rfl dX1_moveClock_13 ?_
      refine rdV_i (b := a.2.1) (As := []) (rest := [.int x4]) ⟨hx, hb, hml, hown, hts⟩ (c_Jx4a65c_size_8abf5 l G a.2.1 κ.1 (nI (sN σ)) _) cw52 hK (LW_one (CW_list hP)) 0 rfl rfl rfl rfl hl.1 rfl (Nat.le_of_ble_eq_true rfl) dX1_moveClock_16 ⟨Nat.zero_le _, Nat.zero_le _⟩ (fun r1 w1 => ?_)
      have w1 : r1.toInt = (((sN σ) : Nat) : Int) := by rw [w1]; exact ti_nI (by omega)
      refine lv_icmp_ge (tgt := 53) hx hb dX1_moveClock_19 (by decide) (fun c19_2 => ?_) (fun c19_2 => ?_)
      · have c19_2 : (((sN σ) : Nat) : Int) ≤ ((k : Nat) : Int) := (ti_le (x := r1) (y := x4) (a := (((sN σ) : Nat) : Int)) (b := ((k : Nat) : Int)) w1 e4).mp c19_2
        refine lv_iload_n hx hb dX1_moveClock_53 rfl (lv_at hl 1 rfl) ?_
        obtain rfl : k = sN σ := by omega
        exact hret _ _ _ _ _ _ _ () dX1_moveClock_54 (Or.inr (Or.inr rfl)) (nI_ofI e3) hP hD hS (Nat.le_refl _) (Nat.le_refl _)
      · have c19_2 : ¬ ((((sN σ) : Nat) : Int) ≤ ((k : Nat) : Int)) := mt (ti_le (x := r1) (y := x4) (a := (((sN σ) : Nat) : Int)) (b := ((k : Nat) : Int)) w1 e4).mpr c19_2
        refine lv_aload_n hx hb dX1_moveClock_22 rfl (lv_at hl 2 rfl) ?_
        refine va_get (D := G.1) (ci := 2) (v := .ref a.2.1) (own := RX1) (C := RX1) (T := TX1) (N := 6) hx hb hts hiX1 hown hK.1 hP 0 rfl rfl 0 (by decide) lf10 (fun _ h9 => h9) rfl dX1_moveClock_23 ?_
        refine lv_iload hx hb dX1_moveClock_26 (lv_at hl 0 rfl) ?_
        have hk3 : k < (sN σ) := by omega
        obtain ⟨hc3, hd3, he3⟩ := hC.1 (by omega)
        refine rdV_q (b := a.2.1) (As := [.int x4]) (rest := []) ⟨hx, hb, hml, hown, hts⟩ (c_Jx4a65c_get_915e3 l G a.2.1 κ.1 x4 κ.2.1 κ.2.2.1 (sN σ) k κ.2.2.2.1 e4 hk3 hc3 (by omega)) cw114 hK (LW_pos (show (sN σ) ≠ 0 by omega) ▸ CW_list hP) 0 rfl rfl rfl rfl hl.1 rfl (Nat.le_of_ble_eq_true rfl) dX1_moveClock_28 ⟨Nat.zero_le _, Nat.zero_le _⟩ (fun r3 w3 => ?_)
        obtain rfl : r3 = some (κ.2.2.2.2.1 k) := w3.trans (he3 k hk3)
        refine W.eq (g2 := F0 m 31 ls [.ref (κ.2.2.2.2.1 k)]) rfl ?_
        refine va_castS (own := RX1) (nm := RX0) hx hb hown cl56 (hK.1.1 1 _ rfl).2 (va_recv hK.1 hP (ci := 1) (q0 := k + 4) rfl (CW_get hk3)) dX1_moveClock_31 ?_
        have em : mvO σ t.toInt k k = sO σ k := mvO_at
        have hoj := hI4 k hk3
        unfold OI at hoj
        rw [← em] at hoj
        refine lv_aload_n hx hb dX1_moveClock_34 rfl (lv_at hl 2 rfl) ?_
        refine va_get (D := G.1) (ci := 2) (v := .long t) (own := RX1) (C := RX1) (T := TX1) (N := 6) hx hb hts hiX1 hown hK.1 hP 0 rfl rfl 5 (by decide) lf30 (fun _ h9 => h9) rfl dX1_moveClock_35 ?_
        refine wrV_raw (b := (κ.2.2.2.2.1 k)) (As := [.long t]) (rest := []) ⟨hx, hb, hml, hown, hts⟩ (c_X0_lapseIfDue l G (κ.2.2.2.2.1 k) (mvO σ t.toInt k k) t (by omega) (by omega)) cw126 hK hZ (CW_ord hP hk3) (CW_ordD hD hk3) hS hA 1 rfl rfl rfl rfl hl.1 rfl (Nat.le_of_ble_eq_true rfl) dX1_moveClock_38 ⟨Nat.zero_le _, Nat.zero_le _⟩ (fun r38_4 _ H1 locs w38_4 hP1 hk1 hS => ?_)
        have w38_4 : ((r38_4.toInt = 1 ∧ ((oP (mvO σ t.toInt k k)).toInt = 0 ∧ (oX (mvO σ t.toInt k k)).toInt = 20001 ∧ (oM (mvO σ t.toInt k k)).toInt + 14 < (t).toInt)) ∨ (r38_4.toInt = 0 ∧ ¬ ((oP (mvO σ t.toInt k k)).toInt = 0 ∧ (oX (mvO σ t.toInt k k)).toInt = 20001 ∧ (oM (mvO σ t.toInt k k)).toInt + 14 < (t).toInt))) := w38_4
        rw [em] at w38_4
        have hP2 := va_P.put1 hP hD (CW_get hk3) hP1 hk1
        rw [CW_set hk3, mvO_up] at hP2
        have hD2 := va_D.set (e := .inr (1, fl (lap1 t.toInt (mvO σ t.toInt k k)))) hD (CW_get hk3)
        rw [CW_set hk3, mvO_up] at hD2
        have hP : va_P G.1 vwCl (CW G a (nI (sG σ).length) t (sR σ) κ.2.2.2.2.2.1 κ.2.2.2.2.2.2 (pO κ.2.2.2.2.1 (mvO σ t.toInt (k + 1)) (sN σ)) (LW G a.2.1 κ.1 κ.2.1 κ.2.2.1 κ.2.2.2.1 (sN σ))) H1 := hP2
        have hD : va_D A (CW G a (nI (sG σ).length) t (sR σ) κ.2.2.2.2.2.1 κ.2.2.2.2.2.2 (pO κ.2.2.2.2.1 (mvO σ t.toInt (k + 1)) (sN σ)) (LW G a.2.1 κ.1 κ.2.1 κ.2.2.1 κ.2.2.2.1 (sN σ))) := hD2
        generalize H1 = H at hP hS ⊢
        refine lv_if_eq (tgt := 47) hx hb dX1_moveClock_41 (by decide) (fun c41_5 => ?_) (fun c41_5 => ?_)
        · have c41_5 : (r38_4).toInt = 0 := (ti_eq (x := r38_4) (y := 0) (a := (r38_4).toInt) (b := 0) rfl rfl).mp c41_5
          obtain ⟨x47_6, e47_6⟩ : ∃ y : Int32, y = x4 + 1 := ⟨_, rfl⟩
          have v47_6 : (x47_6).toInt = (((k + 1) : Nat) : Int) := by rw [e47_6]; exact (ti_add (a := ((k : Nat) : Int)) (b := 1) e4 rfl (by omega) (by omega)).trans (by omega)
          refine lv_iinc (v := x47_6) (lv' := [(4, .int x47_6), (3, .int x3), (0, .ref a.1), (1, .long t)]) hx hb dX1_moveClock_47 hl (k := 0) rfl (by rw [e47_6]; rfl) (by decide) rfl (fun ls hl => ?_)
          refine lv_goto (tgt := 10) hx hb dX1_moveClock_50 (by decide) ?_
          have hcn := cntL_n (σ := σ) (t := t.toInt) (k := k) (by omega)
          exact ih10 (k + 1) x47_6 x3 (by omega) (by omega) v47_6 (e3.trans (by omega)) _ _ hP hD hS ls (lv_sub hl [0, 1, 2, 3] rfl)
        · have c41_5 : ¬ ((r38_4).toInt = 0) := mt (ti_eq (x := r38_4) (y := 0) (a := (r38_4).toInt) (b := 0) rfl rfl).mpr c41_5
          obtain ⟨x44_7, e44_7⟩ : ∃ y : Int32, y = x3 + 1 := ⟨_, rfl⟩
          have v44_7 : (x44_7).toInt = ((((cntL σ t.toInt k) + 1) : Nat) : Int) := by rw [e44_7]; exact (ti_add (a := (((cntL σ t.toInt k) : Nat) : Int)) (b := 1) e3 rfl (by omega) (by omega)).trans (by omega)
          refine lv_iinc (v := x44_7) (lv' := [(3, .int x44_7), (4, .int x4), (0, .ref a.1), (1, .long t)]) hx hb dX1_moveClock_44 hl (k := 1) rfl (by rw [e44_7]; rfl) (by decide) rfl (fun ls hl => ?_)
          obtain ⟨x47_8, e47_8⟩ : ∃ y : Int32, y = x4 + 1 := ⟨_, rfl⟩
          have v47_8 : (x47_8).toInt = (((k + 1) : Nat) : Int) := by rw [e47_8]; exact (ti_add (a := ((k : Nat) : Int)) (b := 1) e4 rfl (by omega) (by omega)).trans (by omega)
          refine lv_iinc (v := x47_8) (lv' := [(4, .int x47_8), (3, .int x44_7), (0, .ref a.1), (1, .long t)]) hx hb dX1_moveClock_47 hl (k := 1) rfl (by rw [e47_8]; rfl) (by decide) rfl (fun ls hl => ?_)
          refine lv_goto (tgt := 10) hx hb dX1_moveClock_50 (by decide) ?_
          have hcn := cntL_y (σ := σ) (t := t.toInt) (k := k) (by omega)
          exact ih10 (k + 1) x47_8 x44_7 (by omega) (by omega) v47_8 (v44_7.trans (by omega)) _ _ hP hD hS ls (lv_sub hl [0, 1, 2, 3] rfl)
  exact loop10 (sN σ + 1) 0 0 0 (by omega) (Nat.zero_le _) rfl rfl _ _ hP hD hS ls (lv_sub hl [0, 1, 2, 3] rfl)

set_option maxHeartbeats 4000000 in
set_option maxRecDepth 100000 in
/-- tick -/
theorem c_X1_tick (l : Launch) (G : GG) (a : AD) (κ : KP) (σ : St) (hI : SI σ) (hC : CI κ σ) (t : Int64) : WrI l yX1_tick wsX1_tick (rmX 4 140 0 0) G [.ref a.1, .long t] (WC G a κ σ) (fun (r : Int32) (u : Unit) => r = (fTick σ t).1) (fun u : Unit => WC G a κ (fTick σ t).2) 0 0 := by
  refine wr_of_i (cc := cX1_tick) (maxL := 3) (t := .int) (by decide +kernel) rfl (Nat.le_of_ble_eq_true rfl) nar_int ?_
  intro p e s m args below meth c Q A hx hb hml hown hts hK hZ hA hret ls hl hP hD hS
  have hown : s.vm.findClass RX1 = some m.cls := hown
  have hl : lv_has ls 3 [(0, .ref a.1), (1, .long t)] := hl
  have hP : va_P G.1 vwCl (CW G a (nI (sG σ).length) (sT σ) (sR σ) κ.2.2.2.2.2.1 κ.2.2.2.2.2.2 (pO κ.2.2.2.2.1 (sO σ) (sN σ)) (LW G a.2.1 κ.1 κ.2.1 κ.2.2.1 κ.2.2.2.1 (sN σ))) s.heap := hP
  have hD : va_D A (CW G a (nI (sG σ).length) (sT σ) (sR σ) κ.2.2.2.2.2.1 κ.2.2.2.2.2.2 (pO κ.2.2.2.2.1 (sO σ) (sN σ)) (LW G a.2.1 κ.1 κ.2.1 κ.2.2.1 κ.2.2.2.1 (sN σ))) := hD
  obtain ⟨hI1, hI2, hI3, hI4, hI5⟩ := id hI
  have cw69 := cwV (R := (rmX 4 140 0 0)) (s := s) (args := args) (rm := (rmX 1 40 0 0)) (mc := 0) (ms := 0) 1 hts gX1_tick_X1_canBeClock rfl rfl rfl (by decide +kernel) ⟨Nat.le_of_ble_eq_true rfl, Nat.le_of_ble_eq_true rfl⟩
  have cw72 := cwV (R := (rmX 4 140 0 0)) (s := s) (args := args) (rm := (rmX 3 110 0 0)) (mc := 0) (ms := 0) 1 hts gX1_tick_X1_moveClock rfl rfl rfl (by decide +kernel) ⟨Nat.le_of_ble_eq_true rfl, Nat.le_of_ble_eq_true rfl⟩
  refine lv_aload_n hx hb dX1_tick_0 rfl (lv_at hl 0 rfl) ?_
  refine lv_lload_n hx hb dX1_tick_1 rfl (lv_at hl 1 rfl) ?_
  refine rdV_i (b := a.1) (As := [.long t]) (rest := []) ⟨hx, hb, hml, hown, hts⟩ (c_X1_canBeClock l G a κ σ hI hC t) cw69 hK hP 2 rfl rfl rfl rfl hl.1 rfl (Nat.le_of_ble_eq_true rfl) dX1_tick_2 ⟨Nat.zero_le _, Nat.zero_le _⟩ (fun r1 w1 => ?_)
  have w1 : ((r1.toInt = 1 ∧ (0 ≤ (t).toInt ∧ (t).toInt ≤ 20000 ∧ (sT σ).toInt ≤ (t).toInt)) ∨ (r1.toInt = 0 ∧ ¬ (0 ≤ (t).toInt ∧ (t).toInt ≤ 20000 ∧ (sT σ).toInt ≤ (t).toInt))) := w1
  refine lv_if_eq (tgt := 16) hx hb dX1_tick_5 (by decide) (fun c5_2 => ?_) (fun c5_2 => ?_)
  · have c5_2 : (r1).toInt = 0 := (ti_eq (x := r1) (y := 0) (a := (r1).toInt) (b := 0) rfl rfl).mp c5_2
    refine lv_bipush (v := (-102)) hx hb dX1_tick_16 (by decide) ?_
    have hF : fTick σ t = ((-102), σ) := if_pos (by omega)
    exact hret _ _ _ _ _ _ _ () dX1_tick_18 (Or.inr (Or.inr rfl)) (by rw [hF]) (by rw [hF]; exact hP) (by rw [hF]; exact hD) hS (Nat.le_refl _) (Nat.le_refl _)
  · have c5_2 : ¬ ((r1).toInt = 0) := mt (ti_eq (x := r1) (y := 0) (a := (r1).toInt) (b := 0) rfl rfl).mpr c5_2
    refine lv_aload_n hx hb dX1_tick_8 rfl (lv_at hl 0 rfl) ?_
    refine lv_lload_n hx hb dX1_tick_9 rfl (lv_at hl 1 rfl) ?_
    refine wrV_i (wr := []) (b := a.1) (As := [.long t]) (rest := []) ⟨hx, hb, hml, hown, hts⟩ (c_X1_moveClock l G a κ σ hI hC t) cw72 hK hZ hP hD hS hA 2 rfl rfl rfl rfl hl.1 rfl (Nat.le_of_ble_eq_true rfl) dX1_tick_10 ⟨Nat.zero_le _, Nat.zero_le _⟩ (fun r3 _ H locs w3 hP hD hS => ?_)
    have hP : va_P G.1 vwCl (CW G a (nI (sG σ).length) t (sR σ) κ.2.2.2.2.2.1 κ.2.2.2.2.2.2 (pO κ.2.2.2.2.1 (sO (mvS σ t)) (sN σ)) (LW G a.2.1 κ.1 κ.2.1 κ.2.2.1 κ.2.2.2.1 (sN σ))) H := hP
    have hD : va_D A (CW G a (nI (sG σ).length) t (sR σ) κ.2.2.2.2.2.1 κ.2.2.2.2.2.2 (pO κ.2.2.2.2.1 (sO (mvS σ t)) (sN σ)) (LW G a.2.1 κ.1 κ.2.1 κ.2.2.1 κ.2.2.2.1 (sN σ))) := hD
    refine lv_goto (tgt := 18) hx hb dX1_tick_13 (by decide) ?_
    rw [w3]
    have hF : fTick σ t = (nI (cntL σ t.toInt (sN σ)), mvS σ t) := if_neg (by omega)
    exact hret _ _ _ _ _ _ _ () dX1_tick_18 (Or.inr (Or.inr rfl)) (by rw [hF]) (by rw [hF]; exact hP) (by rw [hF]; exact hD) hS (Nat.le_refl _) (Nat.le_refl _)

set_option maxHeartbeats 4000000 in
set_option maxRecDepth 100000 in
/-- rank -/
theorem c_X1_rank (l : Launch) (G : GG) (a : AD) (κ : KP) (σ : St) (hI : SI σ) (hC : CI κ σ) (k q : Int32) : WrI l yX1_rank wsX1_rank (rmX 2 90 0 0) G [.ref a.1, .int k, .int q] (WC G a κ σ) (fun (r : Int32) (u : Unit) => r = (fRank σ k q).1) (fun u : Unit => WC G a κ (fRank σ k q).2) 0 0 := by
  refine wr_of_i (cc := cX1_rank) (maxL := 4) (t := .int) (by decide +kernel) rfl (Nat.le_of_ble_eq_true rfl) nar_int ?_
  intro p e s m args below meth c Q A hx hb hml hown hts hK hZ hA hret ls hl hP hD hS
  have hown : s.vm.findClass RX1 = some m.cls := hown
  have hl : lv_has ls 4 [(0, .ref a.1), (1, .int k), (2, .int q)] := hl
  have hP : va_P G.1 vwCl (CW G a (nI (sG σ).length) (sT σ) (sR σ) κ.2.2.2.2.2.1 κ.2.2.2.2.2.2 (pO κ.2.2.2.2.1 (sO σ) (sN σ)) (LW G a.2.1 κ.1 κ.2.1 κ.2.2.1 κ.2.2.2.1 (sN σ))) s.heap := hP
  have hD : va_D A (CW G a (nI (sG σ).length) (sT σ) (sR σ) κ.2.2.2.2.2.1 κ.2.2.2.2.2.2 (pO κ.2.2.2.2.1 (sO σ) (sN σ)) (LW G a.2.1 κ.1 κ.2.1 κ.2.2.1 κ.2.2.2.1 (sN σ))) := hD
  obtain ⟨hI1, hI2, hI3, hI4, hI5⟩ := id hI
  have cw34 := va_cwS (R := (rmX 2 90 0 0)) (s := s) (args := args) (rm := (rmX 0 0 0 0)) (mc := 0) (ms := 0) 1 hts gX1_rank_X1_isKind rfl rfl rfl (by decide +kernel) ⟨Nat.le_of_ble_eq_true rfl, Nat.le_of_ble_eq_true rfl⟩
  have hiX1 := (show ∀ w ∈ u_ws RX1 TX1 6, w ∈ wsX1_rank by decide +kernel)
  have lf16 := hts (.fieldLink RX1 16 "OrderRows2" "rankOfKind" "[I") (by decide +kernel)
  refine lv_iload_n hx hb dX1_rank_0 rfl (lv_at hl 1 rfl) ?_
  refine rdS_i (As := [.int k]) (rest := []) ⟨hx, hb, hml, hown, hts⟩ (c_X1_isKind l G k) cw34 hK va_P.nil rfl hl.1 rfl (Nat.le_of_ble_eq_true rfl) dX1_rank_1 ⟨Nat.zero_le _, Nat.zero_le _⟩ (fun r1_1 w1_1 => ?_)
  have w1_1 : ((r1_1.toInt = 1 ∧ (0 ≤ (k).toInt ∧ (k).toInt < 9)) ∨ (r1_1.toInt = 0 ∧ ¬ (0 ≤ (k).toInt ∧ (k).toInt < 9))) := w1_1
  refine lv_if_eq (tgt := 17) hx hb dX1_rank_4 (by decide) (fun c4_2 => ?_) (fun c4_2 => ?_)
  · have c4_2 : (r1_1).toInt = 0 := (ti_eq (x := r1_1) (y := 0) (a := (r1_1).toInt) (b := 0) rfl rfl).mp c4_2
    refine lv_bipush (v := (-102)) hx hb dX1_rank_17 (by decide) ?_
    have hF : fRank σ k q = ((-102), σ) := if_pos (by omega)
    exact hret _ _ _ _ _ _ _ () dX1_rank_19 (Or.inr (Or.inr rfl)) (by rw [hF]) (by rw [hF]; exact hP) (by rw [hF]; exact hD) hS (Nat.le_refl _) (Nat.le_refl _)
  · have c4_2 : ¬ ((r1_1).toInt = 0) := mt (ti_eq (x := r1_1) (y := 0) (a := (r1_1).toInt) (b := 0) rfl rfl).mpr c4_2
    refine lv_iload_n hx hb dX1_rank_7 rfl (lv_at hl 2 rfl) ?_
    refine lv_if_lt (tgt := 17) hx hb dX1_rank_8 (by decide) (fun c8_3 => ?_) (fun c8_3 => ?_)
    · have c8_3 : (q).toInt < 0 := (ti_lt (x := q) (y := 0) (a := (q).toInt) (b := 0) rfl rfl).mp c8_3
      refine lv_bipush (v := (-102)) hx hb dX1_rank_17 (by decide) ?_
      have hF : fRank σ k q = ((-102), σ) := if_pos (by omega)
      exact hret _ _ _ _ _ _ _ () dX1_rank_19 (Or.inr (Or.inr rfl)) (by rw [hF]) (by rw [hF]; exact hP) (by rw [hF]; exact hD) hS (Nat.le_refl _) (Nat.le_refl _)
    · have c8_3 : ¬ ((q).toInt < 0) := mt (ti_lt (x := q) (y := 0) (a := (q).toInt) (b := 0) rfl rfl).mpr c8_3
      refine lv_iload_n hx hb dX1_rank_11 rfl (lv_at hl 2 rfl) ?_
      refine lv_bipush (v := 100) hx hb dX1_rank_12 (by decide) ?_
      refine lv_icmp_le (tgt := 20) hx hb dX1_rank_14 (by decide) (fun c14_4 => ?_) (fun c14_4 => ?_)
      · have c14_4 : (q).toInt ≤ 100 := (ti_le (x := q) (y := 100) (a := (q).toInt) (b := 100) rfl rfl).mp c14_4
        refine lv_aload_n hx hb dX1_rank_20 rfl (lv_at hl 0 rfl) ?_
        refine va_get (D := G.1) (ci := 2) (v := .ref a.2.2.1) (own := RX1) (C := RX1) (T := TX1) (N := 6) hx hb hts hiX1 hown hK.1 hP 0 rfl rfl 1 (by decide) lf16 (fun _ h9 => h9) rfl dX1_rank_21 ?_
        refine lv_iload_n hx hb dX1_rank_24 rfl (lv_at hl 1 rfl) ?_
        refine my_iald hx hb hK hP 1 rfl ((k).toInt.toNat) (show (k).toInt = (((k).toInt.toNat : Nat) : Int) by omega) (by omega) dX1_rank_25 ?_
        refine lv_istore_n (lv' := [(3, .int ((sR σ) ((k).toInt.toNat))), (0, .ref a.1), (1, .int k), (2, .int q)]) hx hb dX1_rank_26 rfl hl (by decide) rfl (fun ls hl => ?_)
        refine lv_aload_n hx hb dX1_rank_27 rfl (lv_at hl 1 rfl) ?_
        refine va_get (D := G.1) (ci := 2) (v := .ref a.2.2.1) (own := RX1) (C := RX1) (T := TX1) (N := 6) hx hb hts hiX1 hown hK.1 hP 0 rfl rfl 1 (by decide) lf16 (fun _ h9 => h9) rfl dX1_rank_28 ?_
        refine lv_iload_n hx hb dX1_rank_31 rfl (lv_at hl 2 rfl) ?_
        refine lv_iload_n hx hb dX1_rank_32 rfl (lv_at hl 3 rfl) ?_
        refine my_iast hx hb hK hP hD hS 1 rfl (x := q) ((k).toInt.toNat) (show (k).toInt = (((k).toInt.toNat : Nat) : Int) by omega) (by omega) dX1_rank_33 (fun H locs hP hD hS => ?_)
        have hP : va_P G.1 vwCl (CW G a (nI (sG σ).length) (sT σ) (upd (sR σ) ((k).toInt.toNat) q) κ.2.2.2.2.2.1 κ.2.2.2.2.2.2 (pO κ.2.2.2.2.1 (sO σ) (sN σ)) (LW G a.2.1 κ.1 κ.2.1 κ.2.2.1 κ.2.2.2.1 (sN σ))) H := hP
        have hD : va_D A (CW G a (nI (sG σ).length) (sT σ) (upd (sR σ) ((k).toInt.toNat) q) κ.2.2.2.2.2.1 κ.2.2.2.2.2.2 (pO κ.2.2.2.2.1 (sO σ) (sN σ)) (LW G a.2.1 κ.1 κ.2.1 κ.2.2.1 κ.2.2.2.1 (sN σ))) := hD
        refine lv_iload_n hx hb dX1_rank_34 rfl (lv_at hl 0 rfl) ?_
        have hF : fRank σ k q = (((sR σ) ((k).toInt.toNat)), (sN σ, sO σ, sT σ, upd (sR σ) (k).toInt.toNat q, sG σ)) := if_neg (by omega)
        exact hret _ _ _ _ _ _ _ () dX1_rank_35 (Or.inr (Or.inr rfl)) (by rw [hF]) (by rw [hF]; exact hP) (by rw [hF]; exact hD) hS (Nat.le_refl _) (Nat.le_refl _)
      · have c14_4 : ¬ ((q).toInt ≤ 100) := mt (ti_le (x := q) (y := 100) (a := (q).toInt) (b := 100) rfl rfl).mpr c14_4
        refine lv_bipush (v := (-102)) hx hb dX1_rank_17 (by decide) ?_
        have hF : fRank σ k q = ((-102), σ) := if_pos (by omega)
        exact hret _ _ _ _ _ _ _ () dX1_rank_19 (Or.inr (Or.inr rfl)) (by rw [hF]) (by rw [hF]; exact hP) (by rw [hF]; exact hD) hS (Nat.le_refl _) (Nat.le_refl _)

set_option maxHeartbeats 4000000 in
set_option maxRecDepth 100000 in
/-- extend -/
theorem c_X1_extend (l : Launch) (G : GG) (a : AD) (κ : KP) (σ : St) (hI : SI σ) (hC : CI κ σ) (o : Int32) (v : Int64) : WrI l yX1_extend wsX1_extend (rmX 4 140 0 0) G [.ref a.1, .int o, .long v] (WC G a κ σ) (fun (r : Int32) (u : Unit) => r = (fExtend σ o v).1) (fun u : Unit => WC G a κ (fExtend σ o v).2) 0 0 := by
  refine wr_of_i (cc := cX1_extend) (maxL := 5) (t := .int) (by decide +kernel) rfl (Nat.le_of_ble_eq_true rfl) nar_int ?_
  intro p e s m args below meth c Q A hx hb hml hown hts hK hZ hA hret ls hl hP hD hS
  have hown : s.vm.findClass RX1 = some m.cls := hown
  have hl : lv_has ls 5 [(0, .ref a.1), (1, .int o), (2, .long v)] := hl
  have hP : va_P G.1 vwCl (CW G a (nI (sG σ).length) (sT σ) (sR σ) κ.2.2.2.2.2.1 κ.2.2.2.2.2.2 (pO κ.2.2.2.2.1 (sO σ) (sN σ)) (LW G a.2.1 κ.1 κ.2.1 κ.2.2.1 κ.2.2.2.1 (sN σ))) s.heap := hP
  have hD : va_D A (CW G a (nI (sG σ).length) (sT σ) (sR σ) κ.2.2.2.2.2.1 κ.2.2.2.2.2.2 (pO κ.2.2.2.2.1 (sO σ) (sN σ)) (LW G a.2.1 κ.1 κ.2.1 κ.2.2.1 κ.2.2.2.1 (sN σ))) := hD
  obtain ⟨hI1, hI2, hI3, hI4, hI5⟩ := id hI
  have cw65 := cwV (R := (rmX 4 140 0 0)) (s := s) (args := args) (rm := (rmX 3 100 0 0)) (mc := 0) (ms := 0) 1 hts gX1_extend_X1_find rfl rfl rfl (by decide +kernel) ⟨Nat.le_of_ble_eq_true rfl, Nat.le_of_ble_eq_true rfl⟩
  have cw48 := va_cwS (R := (rmX 4 140 0 0)) (s := s) (args := args) (rm := (rmX 0 0 0 0)) (mc := 0) (ms := 0) 1 hts gX1_extend_X1_isDay rfl rfl rfl (by decide +kernel) ⟨Nat.le_of_ble_eq_true rfl, Nat.le_of_ble_eq_true rfl⟩
  have cw76 := cwV (R := (rmX 4 140 0 0)) (s := s) (args := args) (rm := (rmX 0 0 0 0)) (mc := 0) (ms := 0) 0 hts gX1_extend_X0_isOver rfl rfl rfl (by decide +kernel) ⟨Nat.le_of_ble_eq_true rfl, Nat.le_of_ble_eq_true rfl⟩
  have hiX0 := (show ∀ w ∈ u_ws RX0 TX0 9, w ∈ wsX1_extend by decide +kernel)
  have lf111 := hts (.fieldLink RX1 111 "OrderRows2$Order" "until" "J") (by decide +kernel)
  refine lv_aload_n hx hb dX1_extend_0 rfl (lv_at hl 0 rfl) ?_
  refine lv_iload_n hx hb dX1_extend_1 rfl (lv_at hl 1 rfl) ?_
  refine rdV_q (b := a.1) (As := [.int o]) (rest := []) ⟨hx, hb, hml, hown, hts⟩ (c_X1_find l G a κ σ hI hC o) cw65 hK hP 2 rfl rfl rfl rfl hl.1 rfl (Nat.le_of_ble_eq_true rfl) dX1_extend_2 ⟨Nat.zero_le _, Nat.zero_le _⟩ (fun r1 w1 => ?_)
  rcases w1 with ⟨rfl, w1⟩ | ⟨i, hi, hoi, rfl⟩
  · have hno := w1
    refine W.eq (g2 := F0 m 5 ls [.null]) rfl ?_
    refine lv_astoreN (lv' := [(4, .null), (0, .ref a.1), (1, .int o), (2, .long v)]) hx hb dX1_extend_5 hl (by decide) rfl (fun ls hl => ?_)
    refine lv_aloadN hx hb dX1_extend_7 (lv_at hl 0 rfl) ?_
    refine lv_ifnonnullN hx hb dX1_extend_9 ?_
    refine lv_bipush (v := (-101)) hx hb dX1_extend_12 (by decide) ?_
    have hF : fExtend σ o v = ((-101), σ) := if_pos (by omega)
    exact hret _ _ _ _ _ _ _ () dX1_extend_14 (Or.inr (Or.inr rfl)) (by rw [hF]) (by rw [hF]; exact hP) (by rw [hF]; exact hD) hS (Nat.le_refl _) (Nat.le_refl _)
  · have eoi : oi o = i := by show ((o).toInt - 1).toNat = i; omega
    have hoI := hI4 i hi
    unfold OI at hoI
    refine W.eq (g2 := F0 m 5 ls [.ref (κ.2.2.2.2.1 i)]) rfl ?_
    refine lv_astore (lv' := [(4, .ref (κ.2.2.2.2.1 i)), (0, .ref a.1), (1, .int o), (2, .long v)]) hx hb dX1_extend_5 hl (by decide) rfl (fun ls hl => ?_)
    refine lv_aload hx hb dX1_extend_7 (lv_at hl 0 rfl) ?_
    refine lv_ifnonnull (tgt := 15) hx hb dX1_extend_9 (by decide) ?_
    refine lv_lload_n hx hb dX1_extend_15 rfl (lv_at hl 3 rfl) ?_
    refine rdS_i (As := [.long v]) (rest := []) ⟨hx, hb, hml, hown, hts⟩ (c_X1_isDay l G v) cw48 hK va_P.nil rfl hl.1 rfl (Nat.le_of_ble_eq_true rfl) dX1_extend_16 ⟨Nat.zero_le _, Nat.zero_le _⟩ (fun r16_2 w16_2 => ?_)
    have w16_2 : ((r16_2.toInt = 1 ∧ (0 ≤ (v).toInt ∧ (v).toInt ≤ 20000)) ∨ (r16_2.toInt = 0 ∧ ¬ (0 ≤ (v).toInt ∧ (v).toInt ≤ 20000))) := w16_2
    refine lv_if_ne (tgt := 25) hx hb dX1_extend_19 (by decide) (fun c19_3 => ?_) (fun c19_3 => ?_)
    · have c19_3 : ¬ ((r16_2).toInt = 0) := mt (ti_eq (x := r16_2) (y := 0) (a := (r16_2).toInt) (b := 0) rfl rfl).mpr c19_3
      refine lv_aload hx hb dX1_extend_25 (lv_at hl 0 rfl) ?_
      refine rdV_i (b := (κ.2.2.2.2.1 i)) (As := []) (rest := []) ⟨hx, hb, hml, hown, hts⟩ (c_X0_isOver l G (κ.2.2.2.2.1 i) (sO σ i) ) cw76 hK (CW_ord hP hi) 1 rfl rfl rfl rfl hl.1 rfl (Nat.le_of_ble_eq_true rfl) dX1_extend_27 ⟨Nat.zero_le _, Nat.zero_le _⟩ (fun r27_4 w27_4 => ?_)
      have w27_4 : ((r27_4.toInt = 1 ∧ ((oX (sO σ i)).toInt ≠ 20001)) ∨ (r27_4.toInt = 0 ∧ ¬ ((oX (sO σ i)).toInt ≠ 20001))) := w27_4
      refine lv_if_eq (tgt := 36) hx hb dX1_extend_30 (by decide) (fun c30_5 => ?_) (fun c30_5 => ?_)
      · have c30_5 : (r27_4).toInt = 0 := (ti_eq (x := r27_4) (y := 0) (a := (r27_4).toInt) (b := 0) rfl rfl).mp c30_5
        refine lv_lload_n hx hb dX1_extend_36 rfl (lv_at hl 3 rfl) ?_
        refine lv_aload hx hb dX1_extend_37 (lv_at hl 0 rfl) ?_
        refine va_get (D := G.1) (ci := 1) (v := .long (oU (sO σ i))) (own := RX1) (C := RX0) (T := TX0) (N := 9) hx hb hts hiX0 hown hK.1 hP (i + 4) (CW_get hi) rfl 6 (by decide) lf111 (fun _ h9 => h9) rfl dX1_extend_39 ?_
        refine lc_gt (tgt := 48) hx hb dX1_extend_42 dX1_extend_43 (by decide) (fun c42_6 => ?_) (fun c42_6 => ?_)
        · have c42_6 : ((oU (sO σ i))).toInt < (v).toInt := (tl_lt (x := (oU (sO σ i))) (y := v) (a := ((oU (sO σ i))).toInt) (b := (v).toInt) rfl rfl).mp c42_6
          refine lv_aload hx hb dX1_extend_48 (lv_at hl 0 rfl) ?_
          refine lv_lload_n hx hb dX1_extend_50 rfl (lv_at hl 3 rfl) ?_
          refine va_put (D := G.1) (ci := 1) (v := .long v) (ty := .long) (own := RX1) (C := RX0) (T := TX0) (N := 9) hx hb hts hiX0 tyX0 tyX0_ok nmX0 hown hK.1 hP hD hS (i + 4) (CW_get hi) rfl 6 (by decide) lf111 (fun _ h9 => h9) rfl (by decide +kernel) rfl rfl (Nat.le_of_ble_eq_true rfl) dX1_extend_51 (fun H locs hP hD hS => ?_)
          have hP : va_P G.1 vwCl (CW G a (nI (sG σ).length) (sT σ) (sR σ) κ.2.2.2.2.2.1 κ.2.2.2.2.2.2 (pO κ.2.2.2.2.1 (va_up (sO σ) i (oSU (sO σ i) v)) (sN σ)) (LW G a.2.1 κ.1 κ.2.1 κ.2.2.1 κ.2.2.2.1 (sN σ))) H := (CW_set hi (oSU (sO σ i) v)) ▸ hP
          have hD : va_D A (CW G a (nI (sG σ).length) (sT σ) (sR σ) κ.2.2.2.2.2.1 κ.2.2.2.2.2.2 (pO κ.2.2.2.2.1 (va_up (sO σ) i (oSU (sO σ i) v)) (sN σ)) (LW G a.2.1 κ.1 κ.2.1 κ.2.2.1 κ.2.2.2.1 (sN σ))) := (CW_set hi (oSU (sO σ i) v)) ▸ hD
          refine lv_iconst (v := 1) hx hb dX1_extend_54 (by decide) ?_
          have hF : fExtend σ o v = (1, sPut σ i (oSU (sO σ i) v)) := by unfold fExtend; rw [if_neg (by omega), if_neg (by omega), eoi, if_neg (by omega), if_neg (by omega)]
          exact hret _ _ _ _ _ _ _ () dX1_extend_55 (Or.inr (Or.inr rfl)) (by rw [hF]) (by rw [hF]; exact hP) (by rw [hF]; exact hD) hS (Nat.le_refl _) (Nat.le_refl _)
        · have c42_6 : ¬ (((oU (sO σ i))).toInt < (v).toInt) := mt (tl_lt (x := (oU (sO σ i))) (y := v) (a := ((oU (sO σ i))).toInt) (b := (v).toInt) rfl rfl).mpr c42_6
          refine lv_iconst (v := 0) hx hb dX1_extend_46 (by decide) ?_
          have hF : fExtend σ o v = (0, σ) := by unfold fExtend; rw [if_neg (by omega), if_neg (by omega), eoi, if_neg (by omega), if_pos (by omega)]
          exact hret _ _ _ _ _ _ _ () dX1_extend_47 (Or.inr (Or.inr rfl)) (by rw [hF]) (by rw [hF]; exact hP) (by rw [hF]; exact hD) hS (Nat.le_refl _) (Nat.le_refl _)
      · have c30_5 : ¬ ((r27_4).toInt = 0) := mt (ti_eq (x := r27_4) (y := 0) (a := (r27_4).toInt) (b := 0) rfl rfl).mpr c30_5
        refine lv_bipush (v := (-103)) hx hb dX1_extend_33 (by decide) ?_
        have hF : fExtend σ o v = ((-103), σ) := by unfold fExtend; rw [if_neg (by omega), if_neg (by omega), eoi, if_pos (by omega)]
        exact hret _ _ _ _ _ _ _ () dX1_extend_35 (Or.inr (Or.inr rfl)) (by rw [hF]) (by rw [hF]; exact hP) (by rw [hF]; exact hD) hS (Nat.le_refl _) (Nat.le_refl _)
    · have c19_3 : (r16_2).toInt = 0 := (ti_eq (x := r16_2) (y := 0) (a := (r16_2).toInt) (b := 0) rfl rfl).mp c19_3
      refine lv_bipush (v := (-102)) hx hb dX1_extend_22 (by decide) ?_
      have hF : fExtend σ o v = ((-102), σ) := by unfold fExtend; rw [if_neg (by omega), if_pos (by omega)]
      exact hret _ _ _ _ _ _ _ () dX1_extend_24 (Or.inr (Or.inr rfl)) (by rw [hF]) (by rw [hF]; exact hP) (by rw [hF]; exact hD) hS (Nat.le_refl _) (Nat.le_refl _)

set_option maxHeartbeats 4000000 in
set_option maxRecDepth 100000 in
/-- withdraw -/
theorem c_X1_withdraw (l : Launch) (G : GG) (a : AD) (κ : KP) (σ : St) (hI : SI σ) (hC : CI κ σ) (o : Int32) (t : Int64) : WrI l yX1_withdraw wsX1_withdraw (rmX 4 140 0 0) G [.ref a.1, .int o, .long t] (WC G a κ σ) (fun (r : Int32) (u : Unit) => r = (fWithdraw σ o t).1) (fun u : Unit => WC G a κ (fWithdraw σ o t).2) 0 0 := by
  refine wr_of_i (cc := cX1_withdraw) (maxL := 5) (t := .int) (by decide +kernel) rfl (Nat.le_of_ble_eq_true rfl) nar_int ?_
  intro p e s m args below meth c Q A hx hb hml hown hts hK hZ hA hret ls hl hP hD hS
  have hown : s.vm.findClass RX1 = some m.cls := hown
  have hl : lv_has ls 5 [(0, .ref a.1), (1, .int o), (2, .long t)] := hl
  have hP : va_P G.1 vwCl (CW G a (nI (sG σ).length) (sT σ) (sR σ) κ.2.2.2.2.2.1 κ.2.2.2.2.2.2 (pO κ.2.2.2.2.1 (sO σ) (sN σ)) (LW G a.2.1 κ.1 κ.2.1 κ.2.2.1 κ.2.2.2.1 (sN σ))) s.heap := hP
  have hD : va_D A (CW G a (nI (sG σ).length) (sT σ) (sR σ) κ.2.2.2.2.2.1 κ.2.2.2.2.2.2 (pO κ.2.2.2.2.1 (sO σ) (sN σ)) (LW G a.2.1 κ.1 κ.2.1 κ.2.2.1 κ.2.2.2.1 (sN σ))) := hD
  obtain ⟨hI1, hI2, hI3, hI4, hI5⟩ := id hI
  have cw65 := cwV (R := (rmX 4 140 0 0)) (s := s) (args := args) (rm := (rmX 3 100 0 0)) (mc := 0) (ms := 0) 1 hts gX1_withdraw_X1_find rfl rfl rfl (by decide +kernel) ⟨Nat.le_of_ble_eq_true rfl, Nat.le_of_ble_eq_true rfl⟩
  have cw69 := cwV (R := (rmX 4 140 0 0)) (s := s) (args := args) (rm := (rmX 1 40 0 0)) (mc := 0) (ms := 0) 1 hts gX1_withdraw_X1_canBeClock rfl rfl rfl (by decide +kernel) ⟨Nat.le_of_ble_eq_true rfl, Nat.le_of_ble_eq_true rfl⟩
  have cw72 := cwV (R := (rmX 4 140 0 0)) (s := s) (args := args) (rm := (rmX 3 110 0 0)) (mc := 0) (ms := 0) 1 hts gX1_withdraw_X1_moveClock rfl rfl rfl (by decide +kernel) ⟨Nat.le_of_ble_eq_true rfl, Nat.le_of_ble_eq_true rfl⟩
  have cw76 := cwV (R := (rmX 4 140 0 0)) (s := s) (args := args) (rm := (rmX 0 0 0 0)) (mc := 0) (ms := 0) 0 hts gX1_withdraw_X0_isOver rfl rfl rfl (by decide +kernel) ⟨Nat.le_of_ble_eq_true rfl, Nat.le_of_ble_eq_true rfl⟩
  have hiX1 := (show ∀ w ∈ u_ws RX1 TX1 6, w ∈ wsX1_withdraw by decide +kernel)
  have lf30 := hts (.fieldLink RX1 30 "OrderRows2" "clock" "J") (by decide +kernel)
  have hiX0 := (show ∀ w ∈ u_ws RX0 TX0 9, w ∈ wsX1_withdraw by decide +kernel)
  have lf84 := hts (.fieldLink RX1 84 "OrderRows2$Order" "overFrom" "J") (by decide +kernel)
  have cw87 := cwV (R := (rmX 4 140 0 0)) (s := s) (args := args) (rm := (rmX 1 40 0 0)) (mc := 0) (ms := 0) 1 hts gX1_withdraw_X0_daysOfSpanFrom rfl rfl rfl (by decide +kernel) ⟨Nat.le_of_ble_eq_true rfl, Nat.le_of_ble_eq_true rfl⟩
  refine lv_aload_n hx hb dX1_withdraw_0 rfl (lv_at hl 0 rfl) ?_
  refine lv_iload_n hx hb dX1_withdraw_1 rfl (lv_at hl 1 rfl) ?_
  refine rdV_q (b := a.1) (As := [.int o]) (rest := []) ⟨hx, hb, hml, hown, hts⟩ (c_X1_find l G a κ σ hI hC o) cw65 hK hP 2 rfl rfl rfl rfl hl.1 rfl (Nat.le_of_ble_eq_true rfl) dX1_withdraw_2 ⟨Nat.zero_le _, Nat.zero_le _⟩ (fun r1 w1 => ?_)
  rcases w1 with ⟨rfl, w1⟩ | ⟨i, hi, hoi, rfl⟩
  · have hno := w1
    refine W.eq (g2 := F0 m 5 ls [.null]) rfl ?_
    refine lv_astoreN (lv' := [(4, .null), (0, .ref a.1), (1, .int o), (2, .long t)]) hx hb dX1_withdraw_5 hl (by decide) rfl (fun ls hl => ?_)
    refine lv_aloadN hx hb dX1_withdraw_7 (lv_at hl 0 rfl) ?_
    refine lv_ifnonnullN hx hb dX1_withdraw_9 ?_
    refine lv_bipush (v := (-101)) hx hb dX1_withdraw_12 (by decide) ?_
    have hF : fWithdraw σ o t = ((-101), σ) := if_pos (by omega)
    exact hret _ _ _ _ _ _ _ () dX1_withdraw_14 (Or.inr (Or.inr rfl)) (by rw [hF]) (by rw [hF]; exact hP) (by rw [hF]; exact hD) hS (Nat.le_refl _) (Nat.le_refl _)
  · have eoi : oi o = i := by show ((o).toInt - 1).toNat = i; omega
    have hoI := hI4 i hi
    unfold OI at hoI
    refine W.eq (g2 := F0 m 5 ls [.ref (κ.2.2.2.2.1 i)]) rfl ?_
    refine lv_astore (lv' := [(4, .ref (κ.2.2.2.2.1 i)), (0, .ref a.1), (1, .int o), (2, .long t)]) hx hb dX1_withdraw_5 hl (by decide) rfl (fun ls hl => ?_)
    refine lv_aload hx hb dX1_withdraw_7 (lv_at hl 0 rfl) ?_
    refine lv_ifnonnull (tgt := 15) hx hb dX1_withdraw_9 (by decide) ?_
    refine lv_aload_n hx hb dX1_withdraw_15 rfl (lv_at hl 1 rfl) ?_
    refine lv_lload_n hx hb dX1_withdraw_16 rfl (lv_at hl 3 rfl) ?_
    refine rdV_i (b := a.1) (As := [.long t]) (rest := []) ⟨hx, hb, hml, hown, hts⟩ (c_X1_canBeClock l G a κ σ hI hC t) cw69 hK hP 2 rfl rfl rfl rfl hl.1 rfl (Nat.le_of_ble_eq_true rfl) dX1_withdraw_17 ⟨Nat.zero_le _, Nat.zero_le _⟩ (fun r2 w2 => ?_)
    have w2 : ((r2.toInt = 1 ∧ (0 ≤ (t).toInt ∧ (t).toInt ≤ 20000 ∧ (sT σ).toInt ≤ (t).toInt)) ∨ (r2.toInt = 0 ∧ ¬ (0 ≤ (t).toInt ∧ (t).toInt ≤ 20000 ∧ (sT σ).toInt ≤ (t).toInt))) := w2
    refine lv_if_ne (tgt := 26) hx hb dX1_withdraw_20 (by decide) (fun c20_3 => ?_) (fun c20_3 => ?_)
    · have c20_3 : ¬ ((r2).toInt = 0) := mt (ti_eq (x := r2) (y := 0) (a := (r2).toInt) (b := 0) rfl rfl).mpr c20_3
      refine lv_aload_n hx hb dX1_withdraw_26 rfl (lv_at hl 1 rfl) ?_
      refine lv_lload_n hx hb dX1_withdraw_27 rfl (lv_at hl 3 rfl) ?_
      refine wrV_i (wr := []) (b := a.1) (As := [.long t]) (rest := []) ⟨hx, hb, hml, hown, hts⟩ (c_X1_moveClock l G a κ σ hI hC t) cw72 hK hZ hP hD hS hA 2 rfl rfl rfl rfl hl.1 rfl (Nat.le_of_ble_eq_true rfl) dX1_withdraw_28 ⟨Nat.zero_le _, Nat.zero_le _⟩ (fun r4 _ H locs w4 hP hD hS => ?_)
      have hP : va_P G.1 vwCl (CW G a (nI (sG σ).length) t (sR σ) κ.2.2.2.2.2.1 κ.2.2.2.2.2.2 (pO κ.2.2.2.2.1 (sO (mvS σ t)) (sN σ)) (LW G a.2.1 κ.1 κ.2.1 κ.2.2.1 κ.2.2.2.1 (sN σ))) H := hP
      have hD : va_D A (CW G a (nI (sG σ).length) t (sR σ) κ.2.2.2.2.2.1 κ.2.2.2.2.2.2 (pO κ.2.2.2.2.1 (sO (mvS σ t)) (sN σ)) (LW G a.2.1 κ.1 κ.2.1 κ.2.2.1 κ.2.2.2.1 (sN σ))) := hD
      have hI1 := SI_mv hI (show clk σ t by omega)
      have hoJ := hI1.2.2.2.1 i hi
      unfold OI at hoJ
      have eT : (sT (mvS σ t)).toInt = t.toInt := rfl
      refine lv_pop hx hb dX1_withdraw_31 rfl ?_
      refine lv_aload hx hb dX1_withdraw_32 (lv_at hl 0 rfl) ?_
      refine rdV_i (b := (κ.2.2.2.2.1 i)) (As := []) (rest := []) ⟨hx, hb, hml, hown, hts⟩ (c_X0_isOver l G (κ.2.2.2.2.1 i) (sO (mvS σ t) i) ) cw76 hK (CW_ord hP hi) 1 rfl rfl rfl rfl hl.1 rfl (Nat.le_of_ble_eq_true rfl) dX1_withdraw_34 ⟨Nat.zero_le _, Nat.zero_le _⟩ (fun r34_5 w34_5 => ?_)
      have w34_5 : ((r34_5.toInt = 1 ∧ ((oX (sO (mvS σ t) i)).toInt ≠ 20001)) ∨ (r34_5.toInt = 0 ∧ ¬ ((oX (sO (mvS σ t) i)).toInt ≠ 20001))) := w34_5
      refine lv_if_eq (tgt := 43) hx hb dX1_withdraw_37 (by decide) (fun c37_6 => ?_) (fun c37_6 => ?_)
      · have c37_6 : (r34_5).toInt = 0 := (ti_eq (x := r34_5) (y := 0) (a := (r34_5).toInt) (b := 0) rfl rfl).mp c37_6
        refine lv_aload hx hb dX1_withdraw_43 (lv_at hl 0 rfl) ?_
        refine lv_aload_n hx hb dX1_withdraw_45 rfl (lv_at hl 1 rfl) ?_
        refine va_get (D := G.1) (ci := 2) (v := .long t) (own := RX1) (C := RX1) (T := TX1) (N := 6) hx hb hts hiX1 hown hK.1 hP 0 rfl rfl 5 (by decide) lf30 (fun _ h9 => h9) rfl dX1_withdraw_46 ?_
        refine va_put (D := G.1) (ci := 1) (v := .long t) (ty := .long) (own := RX1) (C := RX0) (T := TX0) (N := 9) hx hb hts hiX0 tyX0 tyX0_ok nmX0 hown hK.1 hP hD hS (i + 4) (CW_get hi) rfl 7 (by decide) lf84 (fun _ h9 => h9) rfl (by decide +kernel) rfl rfl (Nat.le_of_ble_eq_true rfl) dX1_withdraw_49 (fun H locs hP hD hS => ?_)
        have hP : va_P G.1 vwCl (CW G a (nI (sG σ).length) t (sR σ) κ.2.2.2.2.2.1 κ.2.2.2.2.2.2 (pO κ.2.2.2.2.1 (va_up (sO (mvS σ t)) i (oSX (sO (mvS σ t) i) t)) (sN σ)) (LW G a.2.1 κ.1 κ.2.1 κ.2.2.1 κ.2.2.2.1 (sN σ))) H := (CW_set hi (oSX (sO (mvS σ t) i) t)) ▸ hP
        have hD : va_D A (CW G a (nI (sG σ).length) t (sR σ) κ.2.2.2.2.2.1 κ.2.2.2.2.2.2 (pO κ.2.2.2.2.1 (va_up (sO (mvS σ t)) i (oSX (sO (mvS σ t) i) t)) (sN σ)) (LW G a.2.1 κ.1 κ.2.1 κ.2.2.1 κ.2.2.2.1 (sN σ))) := (CW_set hi (oSX (sO (mvS σ t) i) t)) ▸ hD
        refine lv_aload hx hb dX1_withdraw_52 (lv_at hl 0 rfl) ?_
        refine lv_aload_n hx hb dX1_withdraw_54 rfl (lv_at hl 1 rfl) ?_
        refine va_get (D := G.1) (ci := 2) (v := .long t) (own := RX1) (C := RX1) (T := TX1) (N := 6) hx hb hts hiX1 hown hK.1 hP 0 rfl rfl 5 (by decide) lf30 (fun _ h9 => h9) rfl dX1_withdraw_55 ?_
        have eod : va_up (sO (mvS σ t)) i (oSX (sO (mvS σ t) i) t) i = (oSX (sO (mvS σ t) i) t) := va_up_self _ _ _
        have hPo := CW_ord hP hi
        rw [eod] at hPo
        refine rdV_i (b := (κ.2.2.2.2.1 i)) (As := [.long t]) (rest := []) ⟨hx, hb, hml, hown, hts⟩ (c_X0_daysOfSpanFrom l G (κ.2.2.2.2.1 i) (oSX (sO (mvS σ t) i) t) t (by show 0 ≤ (oF (sO (mvS σ t) i)).toInt; omega) (by show (oF (sO (mvS σ t) i)).toInt ≤ (oU (sO (mvS σ t) i)).toInt; omega) (by show (oU (sO (mvS σ t) i)).toInt ≤ 20000; omega) (by omega) (by omega)) cw87 hK hPo 1 rfl rfl rfl rfl hl.1 rfl (Nat.le_of_ble_eq_true rfl) dX1_withdraw_58 ⟨Nat.zero_le _, Nat.zero_le _⟩ (fun r7 w7 => ?_)
        have w7 : r7 = nI (dys (sO (mvS σ t) i) t.toInt) := w7
        rw [w7]
        have hF : fWithdraw σ o t = (nI (dys (sO (mvS σ t) i) t.toInt), sPut (mvS σ t) i (oSX (sO (mvS σ t) i) t)) := by unfold fWithdraw; rw [if_neg (by omega), if_neg (by omega), eoi, if_neg (by omega)]
        exact hret _ _ _ _ _ _ _ () dX1_withdraw_61 (Or.inr (Or.inr rfl)) (by rw [hF]) (by rw [hF]; exact hP) (by rw [hF]; exact hD) hS (Nat.le_refl _) (Nat.le_refl _)
      · have c37_6 : ¬ ((r34_5).toInt = 0) := mt (ti_eq (x := r34_5) (y := 0) (a := (r34_5).toInt) (b := 0) rfl rfl).mpr c37_6
        refine lv_bipush (v := (-103)) hx hb dX1_withdraw_40 (by decide) ?_
        have hF : fWithdraw σ o t = ((-103), (mvS σ t)) := by unfold fWithdraw; rw [if_neg (by omega), if_neg (by omega), eoi, if_pos (by omega)]
        exact hret _ _ _ _ _ _ _ () dX1_withdraw_42 (Or.inr (Or.inr rfl)) (by rw [hF]) (by rw [hF]; exact hP) (by rw [hF]; exact hD) hS (Nat.le_refl _) (Nat.le_refl _)
    · have c20_3 : (r2).toInt = 0 := (ti_eq (x := r2) (y := 0) (a := (r2).toInt) (b := 0) rfl rfl).mp c20_3
      refine lv_bipush (v := (-102)) hx hb dX1_withdraw_23 (by decide) ?_
      have hF : fWithdraw σ o t = ((-102), σ) := by unfold fWithdraw; rw [if_neg (by omega), if_pos (by omega)]
      exact hret _ _ _ _ _ _ _ () dX1_withdraw_25 (Or.inr (Or.inr rfl)) (by rw [hF]) (by rw [hF]; exact hP) (by rw [hF]; exact hD) hS (Nat.le_refl _) (Nat.le_refl _)

set_option maxHeartbeats 4000000 in
set_option maxRecDepth 100000 in
/-- proof -/
theorem c_X1_proof (l : Launch) (G : GG) (a : AD) (κ : KP) (σ : St) (hI : SI σ) (hC : CI κ σ) (o g : Int32) (t : Int64) : WrI l yX1_proof wsX1_proof (rmX 4 140 0 0) G [.ref a.1, .int o, .int g, .long t] (WC G a κ σ) (fun (r : Int32) (u : Unit) => r = (fProof σ o g t).1) (fun u : Unit => WC G a κ (fProof σ o g t).2) 0 0 := by
  refine wr_of_i (cc := cX1_proof) (maxL := 6) (t := .int) (by decide +kernel) rfl (Nat.le_of_ble_eq_true rfl) nar_int ?_
  intro p e s m args below meth c Q A hx hb hml hown hts hK hZ hA hret ls hl hP hD hS
  have hown : s.vm.findClass RX1 = some m.cls := hown
  have hl : lv_has ls 6 [(0, .ref a.1), (1, .int o), (2, .int g), (3, .long t)] := hl
  have hP : va_P G.1 vwCl (CW G a (nI (sG σ).length) (sT σ) (sR σ) κ.2.2.2.2.2.1 κ.2.2.2.2.2.2 (pO κ.2.2.2.2.1 (sO σ) (sN σ)) (LW G a.2.1 κ.1 κ.2.1 κ.2.2.1 κ.2.2.2.1 (sN σ))) s.heap := hP
  have hD : va_D A (CW G a (nI (sG σ).length) (sT σ) (sR σ) κ.2.2.2.2.2.1 κ.2.2.2.2.2.2 (pO κ.2.2.2.2.1 (sO σ) (sN σ)) (LW G a.2.1 κ.1 κ.2.1 κ.2.2.1 κ.2.2.2.1 (sN σ))) := hD
  obtain ⟨hI1, hI2, hI3, hI4, hI5⟩ := id hI
  have cw65 := cwV (R := (rmX 4 140 0 0)) (s := s) (args := args) (rm := (rmX 3 100 0 0)) (mc := 0) (ms := 0) 1 hts gX1_proof_X1_find rfl rfl rfl (by decide +kernel) ⟨Nat.le_of_ble_eq_true rfl, Nat.le_of_ble_eq_true rfl⟩
  have cw69 := cwV (R := (rmX 4 140 0 0)) (s := s) (args := args) (rm := (rmX 1 40 0 0)) (mc := 0) (ms := 0) 1 hts gX1_proof_X1_canBeClock rfl rfl rfl (by decide +kernel) ⟨Nat.le_of_ble_eq_true rfl, Nat.le_of_ble_eq_true rfl⟩
  have cw72 := cwV (R := (rmX 4 140 0 0)) (s := s) (args := args) (rm := (rmX 3 110 0 0)) (mc := 0) (ms := 0) 1 hts gX1_proof_X1_moveClock rfl rfl rfl (by decide +kernel) ⟨Nat.le_of_ble_eq_true rfl, Nat.le_of_ble_eq_true rfl⟩
  have cw76 := cwV (R := (rmX 4 140 0 0)) (s := s) (args := args) (rm := (rmX 0 0 0 0)) (mc := 0) (ms := 0) 0 hts gX1_proof_X0_isOver rfl rfl rfl (by decide +kernel) ⟨Nat.le_of_ble_eq_true rfl, Nat.le_of_ble_eq_true rfl⟩
  have hiX0 := (show ∀ w ∈ u_ws RX0 TX0 9, w ∈ wsX1_proof by decide +kernel)
  have lf80 := hts (.fieldLink RX1 80 "OrderRows2$Order" "isProved" "Z") (by decide +kernel)
  have hiX1 := (show ∀ w ∈ u_ws RX1 TX1 6, w ∈ wsX1_proof by decide +kernel)
  have lf30 := hts (.fieldLink RX1 30 "OrderRows2" "clock" "J") (by decide +kernel)
  have lf84 := hts (.fieldLink RX1 84 "OrderRows2$Order" "overFrom" "J") (by decide +kernel)
  refine lv_aload_n hx hb dX1_proof_0 rfl (lv_at hl 0 rfl) ?_
  refine lv_iload_n hx hb dX1_proof_1 rfl (lv_at hl 1 rfl) ?_
  refine rdV_q (b := a.1) (As := [.int o]) (rest := []) ⟨hx, hb, hml, hown, hts⟩ (c_X1_find l G a κ σ hI hC o) cw65 hK hP 2 rfl rfl rfl rfl hl.1 rfl (Nat.le_of_ble_eq_true rfl) dX1_proof_2 ⟨Nat.zero_le _, Nat.zero_le _⟩ (fun r1 w1 => ?_)
  rcases w1 with ⟨rfl, w1⟩ | ⟨i, hi, hoi, rfl⟩
  · have hno := w1
    refine W.eq (g2 := F0 m 5 ls [.null]) rfl ?_
    refine lv_astoreN (lv' := [(5, .null), (0, .ref a.1), (1, .int o), (2, .int g), (3, .long t)]) hx hb dX1_proof_5 hl (by decide) rfl (fun ls hl => ?_)
    refine lv_aloadN hx hb dX1_proof_7 (lv_at hl 0 rfl) ?_
    refine lv_ifnonnullN hx hb dX1_proof_9 ?_
    refine lv_bipush (v := (-101)) hx hb dX1_proof_12 (by decide) ?_
    have hF : fProof σ o g t = ((-101), σ) := if_pos (by omega)
    exact hret _ _ _ _ _ _ _ () dX1_proof_14 (Or.inr (Or.inr rfl)) (by rw [hF]) (by rw [hF]; exact hP) (by rw [hF]; exact hD) hS (Nat.le_refl _) (Nat.le_refl _)
  · have eoi : oi o = i := by show ((o).toInt - 1).toNat = i; omega
    have hoI := hI4 i hi
    unfold OI at hoI
    refine W.eq (g2 := F0 m 5 ls [.ref (κ.2.2.2.2.1 i)]) rfl ?_
    refine lv_astore (lv' := [(5, .ref (κ.2.2.2.2.1 i)), (0, .ref a.1), (1, .int o), (2, .int g), (3, .long t)]) hx hb dX1_proof_5 hl (by decide) rfl (fun ls hl => ?_)
    refine lv_aload hx hb dX1_proof_7 (lv_at hl 0 rfl) ?_
    refine lv_ifnonnull (tgt := 15) hx hb dX1_proof_9 (by decide) ?_
    refine lv_aload_n hx hb dX1_proof_15 rfl (lv_at hl 1 rfl) ?_
    refine lv_lload_n hx hb dX1_proof_16 rfl (lv_at hl 4 rfl) ?_
    refine rdV_i (b := a.1) (As := [.long t]) (rest := []) ⟨hx, hb, hml, hown, hts⟩ (c_X1_canBeClock l G a κ σ hI hC t) cw69 hK hP 2 rfl rfl rfl rfl hl.1 rfl (Nat.le_of_ble_eq_true rfl) dX1_proof_17 ⟨Nat.zero_le _, Nat.zero_le _⟩ (fun r2 w2 => ?_)
    have w2 : ((r2.toInt = 1 ∧ (0 ≤ (t).toInt ∧ (t).toInt ≤ 20000 ∧ (sT σ).toInt ≤ (t).toInt)) ∨ (r2.toInt = 0 ∧ ¬ (0 ≤ (t).toInt ∧ (t).toInt ≤ 20000 ∧ (sT σ).toInt ≤ (t).toInt))) := w2
    refine lv_if_ne (tgt := 26) hx hb dX1_proof_20 (by decide) (fun c20_3 => ?_) (fun c20_3 => ?_)
    · have c20_3 : ¬ ((r2).toInt = 0) := mt (ti_eq (x := r2) (y := 0) (a := (r2).toInt) (b := 0) rfl rfl).mpr c20_3
      refine lv_aload_n hx hb dX1_proof_26 rfl (lv_at hl 1 rfl) ?_
      refine lv_lload_n hx hb dX1_proof_27 rfl (lv_at hl 4 rfl) ?_
      refine wrV_i (wr := []) (b := a.1) (As := [.long t]) (rest := []) ⟨hx, hb, hml, hown, hts⟩ (c_X1_moveClock l G a κ σ hI hC t) cw72 hK hZ hP hD hS hA 2 rfl rfl rfl rfl hl.1 rfl (Nat.le_of_ble_eq_true rfl) dX1_proof_28 ⟨Nat.zero_le _, Nat.zero_le _⟩ (fun r4 _ H locs w4 hP hD hS => ?_)
      have hP : va_P G.1 vwCl (CW G a (nI (sG σ).length) t (sR σ) κ.2.2.2.2.2.1 κ.2.2.2.2.2.2 (pO κ.2.2.2.2.1 (sO (mvS σ t)) (sN σ)) (LW G a.2.1 κ.1 κ.2.1 κ.2.2.1 κ.2.2.2.1 (sN σ))) H := hP
      have hD : va_D A (CW G a (nI (sG σ).length) t (sR σ) κ.2.2.2.2.2.1 κ.2.2.2.2.2.2 (pO κ.2.2.2.2.1 (sO (mvS σ t)) (sN σ)) (LW G a.2.1 κ.1 κ.2.1 κ.2.2.1 κ.2.2.2.1 (sN σ))) := hD
      have hI1 := SI_mv hI (show clk σ t by omega)
      have hoJ := hI1.2.2.2.1 i hi
      unfold OI at hoJ
      have eT : (sT (mvS σ t)).toInt = t.toInt := rfl
      refine lv_pop hx hb dX1_proof_31 rfl ?_
      refine lv_aload hx hb dX1_proof_32 (lv_at hl 0 rfl) ?_
      refine rdV_i (b := (κ.2.2.2.2.1 i)) (As := []) (rest := []) ⟨hx, hb, hml, hown, hts⟩ (c_X0_isOver l G (κ.2.2.2.2.1 i) (sO (mvS σ t) i) ) cw76 hK (CW_ord hP hi) 1 rfl rfl rfl rfl hl.1 rfl (Nat.le_of_ble_eq_true rfl) dX1_proof_34 ⟨Nat.zero_le _, Nat.zero_le _⟩ (fun r34_5 w34_5 => ?_)
      have w34_5 : ((r34_5.toInt = 1 ∧ ((oX (sO (mvS σ t) i)).toInt ≠ 20001)) ∨ (r34_5.toInt = 0 ∧ ¬ ((oX (sO (mvS σ t) i)).toInt ≠ 20001))) := w34_5
      refine lv_if_ne (tgt := 48) hx hb dX1_proof_37 (by decide) (fun c37_6 => ?_) (fun c37_6 => ?_)
      · have c37_6 : ¬ ((r34_5).toInt = 0) := mt (ti_eq (x := r34_5) (y := 0) (a := (r34_5).toInt) (b := 0) rfl rfl).mpr c37_6
        refine lv_bipush (v := (-103)) hx hb dX1_proof_48 (by decide) ?_
        have hF : fProof σ o g t = ((-103), (mvS σ t)) := by unfold fProof; rw [if_neg (by omega), if_neg (by omega), eoi, if_pos (by omega)]
        exact hret _ _ _ _ _ _ _ () dX1_proof_50 (Or.inr (Or.inr rfl)) (by rw [hF]) (by rw [hF]; exact hP) (by rw [hF]; exact hD) hS (Nat.le_refl _) (Nat.le_refl _)
      · have c37_6 : (r34_5).toInt = 0 := (ti_eq (x := r34_5) (y := 0) (a := (r34_5).toInt) (b := 0) rfl rfl).mp c37_6
        refine lv_aload hx hb dX1_proof_40 (lv_at hl 0 rfl) ?_
        refine va_get (D := G.1) (ci := 1) (v := .int (oP (sO (mvS σ t) i))) (own := RX1) (C := RX0) (T := TX0) (N := 9) hx hb hts hiX0 hown hK.1 hP (i + 4) (CW_get hi) rfl 8 (by decide) lf80 (fun _ h9 => h9) rfl dX1_proof_42 ?_
        refine lv_if_eq (tgt := 51) hx hb dX1_proof_45 (by decide) (fun c45_7 => ?_) (fun c45_7 => ?_)
        · have c45_7 : ((oP (sO (mvS σ t) i))).toInt = 0 := (ti_eq (x := (oP (sO (mvS σ t) i))) (y := 0) (a := ((oP (sO (mvS σ t) i))).toInt) (b := 0) rfl rfl).mp c45_7
          refine lv_iload_n hx hb dX1_proof_51 rfl (lv_at hl 3 rfl) ?_
          refine lv_if_ne (tgt := 66) hx hb dX1_proof_52 (by decide) (fun c52_8 => ?_) (fun c52_8 => ?_)
          · have c52_8 : ¬ ((g).toInt = 0) := mt (ti_eq (x := g) (y := 0) (a := (g).toInt) (b := 0) rfl rfl).mpr c52_8
            refine lv_aload hx hb dX1_proof_66 (lv_at hl 0 rfl) ?_
            refine lv_iconst (v := 1) hx hb dX1_proof_68 (by decide) ?_
            refine va_put (D := G.1) (ci := 1) (v := .int 1) (ty := .boolean) (own := RX1) (C := RX0) (T := TX0) (N := 9) hx hb hts hiX0 tyX0 tyX0_ok nmX0 hown hK.1 hP hD hS (i + 4) (CW_get hi) rfl 8 (by decide) lf80 (fun _ h9 => h9) rfl (by decide +kernel) rfl rfl (Nat.le_of_ble_eq_true rfl) dX1_proof_69 (fun H locs hP hD hS => ?_)
            have hP : va_P G.1 vwCl (CW G a (nI (sG σ).length) t (sR σ) κ.2.2.2.2.2.1 κ.2.2.2.2.2.2 (pO κ.2.2.2.2.1 (va_up (sO (mvS σ t)) i (oSP (sO (mvS σ t) i) 1)) (sN σ)) (LW G a.2.1 κ.1 κ.2.1 κ.2.2.1 κ.2.2.2.1 (sN σ))) H := (CW_set hi (oSP (sO (mvS σ t) i) 1)) ▸ hP
            have hD : va_D A (CW G a (nI (sG σ).length) t (sR σ) κ.2.2.2.2.2.1 κ.2.2.2.2.2.2 (pO κ.2.2.2.2.1 (va_up (sO (mvS σ t)) i (oSP (sO (mvS σ t) i) 1)) (sN σ)) (LW G a.2.1 κ.1 κ.2.1 κ.2.2.1 κ.2.2.2.1 (sN σ))) := (CW_set hi (oSP (sO (mvS σ t) i) 1)) ▸ hD
            refine lv_iconst (v := 1) hx hb dX1_proof_72 (by decide) ?_
            have hF : fProof σ o g t = (1, sPut (mvS σ t) i (oSP (sO (mvS σ t) i) 1)) := by unfold fProof; rw [if_neg (by omega), if_neg (by omega), eoi, if_neg (by omega), if_neg (by omega)]
            exact hret _ _ _ _ _ _ _ () dX1_proof_73 (Or.inr (Or.inr rfl)) (by rw [hF]) (by rw [hF]; exact hP) (by rw [hF]; exact hD) hS (Nat.le_refl _) (Nat.le_refl _)
          · have c52_8 : (g).toInt = 0 := (ti_eq (x := g) (y := 0) (a := (g).toInt) (b := 0) rfl rfl).mp c52_8
            refine lv_aload hx hb dX1_proof_55 (lv_at hl 0 rfl) ?_
            refine lv_aload_n hx hb dX1_proof_57 rfl (lv_at hl 1 rfl) ?_
            refine va_get (D := G.1) (ci := 2) (v := .long t) (own := RX1) (C := RX1) (T := TX1) (N := 6) hx hb hts hiX1 hown hK.1 hP 0 rfl rfl 5 (by decide) lf30 (fun _ h9 => h9) rfl dX1_proof_58 ?_
            refine va_put (D := G.1) (ci := 1) (v := .long t) (ty := .long) (own := RX1) (C := RX0) (T := TX0) (N := 9) hx hb hts hiX0 tyX0 tyX0_ok nmX0 hown hK.1 hP hD hS (i + 4) (CW_get hi) rfl 7 (by decide) lf84 (fun _ h9 => h9) rfl (by decide +kernel) rfl rfl (Nat.le_of_ble_eq_true rfl) dX1_proof_61 (fun H locs hP hD hS => ?_)
            have hP : va_P G.1 vwCl (CW G a (nI (sG σ).length) t (sR σ) κ.2.2.2.2.2.1 κ.2.2.2.2.2.2 (pO κ.2.2.2.2.1 (va_up (sO (mvS σ t)) i (oSX (sO (mvS σ t) i) t)) (sN σ)) (LW G a.2.1 κ.1 κ.2.1 κ.2.2.1 κ.2.2.2.1 (sN σ))) H := (CW_set hi (oSX (sO (mvS σ t) i) t)) ▸ hP
            have hD : va_D A (CW G a (nI (sG σ).length) t (sR σ) κ.2.2.2.2.2.1 κ.2.2.2.2.2.2 (pO κ.2.2.2.2.1 (va_up (sO (mvS σ t)) i (oSX (sO (mvS σ t) i) t)) (sN σ)) (LW G a.2.1 κ.1 κ.2.1 κ.2.2.1 κ.2.2.2.1 (sN σ))) := (CW_set hi (oSX (sO (mvS σ t) i) t)) ▸ hD
            refine lv_iconst (v := 0) hx hb dX1_proof_64 (by decide) ?_
            have hF : fProof σ o g t = (0, sPut (mvS σ t) i (oSX (sO (mvS σ t) i) t)) := by unfold fProof; rw [if_neg (by omega), if_neg (by omega), eoi, if_neg (by omega), if_pos (by omega)]
            exact hret _ _ _ _ _ _ _ () dX1_proof_65 (Or.inr (Or.inr rfl)) (by rw [hF]) (by rw [hF]; exact hP) (by rw [hF]; exact hD) hS (Nat.le_refl _) (Nat.le_refl _)
        · have c45_7 : ¬ (((oP (sO (mvS σ t) i))).toInt = 0) := mt (ti_eq (x := (oP (sO (mvS σ t) i))) (y := 0) (a := ((oP (sO (mvS σ t) i))).toInt) (b := 0) rfl rfl).mpr c45_7
          refine lv_bipush (v := (-103)) hx hb dX1_proof_48 (by decide) ?_
          have hF : fProof σ o g t = ((-103), (mvS σ t)) := by unfold fProof; rw [if_neg (by omega), if_neg (by omega), eoi, if_pos (by omega)]
          exact hret _ _ _ _ _ _ _ () dX1_proof_50 (Or.inr (Or.inr rfl)) (by rw [hF]) (by rw [hF]; exact hP) (by rw [hF]; exact hD) hS (Nat.le_refl _) (Nat.le_refl _)
    · have c20_3 : (r2).toInt = 0 := (ti_eq (x := r2) (y := 0) (a := (r2).toInt) (b := 0) rfl rfl).mp c20_3
      refine lv_bipush (v := (-102)) hx hb dX1_proof_23 (by decide) ?_
      have hF : fProof σ o g t = ((-102), σ) := by unfold fProof; rw [if_neg (by omega), if_pos (by omega)]
      exact hret _ _ _ _ _ _ _ () dX1_proof_25 (Or.inr (Or.inr rfl)) (by rw [hF]) (by rw [hF]; exact hP) (by rw [hF]; exact hD) hS (Nat.le_refl _) (Nat.le_refl _)
end
section
-- ===== laid by wip/whole/gen.py out of the decode rows =====
set_option maxHeartbeats 4000000 in
set_option maxRecDepth 100000 in
/-- effective -/
theorem c_X1_effective (l : Launch) (G : GG) (a : AD) (κ : KP) (σ : St) (hI : SI σ) (hC : CI κ σ) (en wh kd : Int32) (dy : Int64) : WrI l yX1_effective wsX1_effective (rmX 4 150 0 0) G [.ref a.1, .int en, .int wh, .int kd, .long dy] (WC G a κ σ) (fun (r : Int32) (u : ((Nat → Int32) × (Nat → Int32))) => r = (fEff σ en wh kd dy).1 ∧ CI (kPR κ u.1 u.2) (fEff σ en wh kd dy).2) (fun u : ((Nat → Int32) × (Nat → Int32)) => WC G a (kPR κ u.1 u.2) (fEff σ en wh kd dy).2) 0 0 := by
  refine wr_of_i (cc := cX1_effective) (maxL := 10) (t := .int) (by decide +kernel) rfl (Nat.le_of_ble_eq_true rfl) nar_int ?_
  intro p e s m args below meth c Q A hx hb hml hown hts hK hZ hA hret ls hl hP hD hS
  have hown : s.vm.findClass RX1 = some m.cls := hown
  have hl : lv_has ls 10 [(0, .ref a.1), (1, .int en), (2, .int wh), (3, .int kd), (4, .long dy)] := hl
  have hP : va_P G.1 vwCl (CW G a (nI (sG σ).length) (sT σ) (sR σ) κ.2.2.2.2.2.1 κ.2.2.2.2.2.2 (pO κ.2.2.2.2.1 (sO σ) (sN σ)) (LW G a.2.1 κ.1 κ.2.1 κ.2.2.1 κ.2.2.2.1 (sN σ))) s.heap := hP
  have hD : va_D A (CW G a (nI (sG σ).length) (sT σ) (sR σ) κ.2.2.2.2.2.1 κ.2.2.2.2.2.2 (pO κ.2.2.2.2.1 (sO σ) (sN σ)) (LW G a.2.1 κ.1 κ.2.1 κ.2.2.1 κ.2.2.2.1 (sN σ))) := hD
  obtain ⟨hI1, hI2, hI3, hI4, hI5⟩ := id hI
  have cw42 := va_cwS (R := (rmX 4 150 0 0)) (s := s) (args := args) (rm := (rmX 0 0 0 0)) (mc := 0) (ms := 0) 1 hts gX1_effective_X1_isAddress rfl rfl rfl (by decide +kernel) ⟨Nat.le_of_ble_eq_true rfl, Nat.le_of_ble_eq_true rfl⟩
  have cw45 := va_cwS (R := (rmX 4 150 0 0)) (s := s) (args := args) (rm := (rmX 0 0 0 0)) (mc := 0) (ms := 0) 1 hts gX1_effective_X1_isPerson rfl rfl rfl (by decide +kernel) ⟨Nat.le_of_ble_eq_true rfl, Nat.le_of_ble_eq_true rfl⟩
  have cw48 := va_cwS (R := (rmX 4 150 0 0)) (s := s) (args := args) (rm := (rmX 0 0 0 0)) (mc := 0) (ms := 0) 1 hts gX1_effective_X1_isDay rfl rfl rfl (by decide +kernel) ⟨Nat.le_of_ble_eq_true rfl, Nat.le_of_ble_eq_true rfl⟩
  have hiX1 := (show ∀ w ∈ u_ws RX1 TX1 6, w ∈ wsX1_effective by decide +kernel)
  have lf20 := hts (.fieldLink RX1 20 "OrderRows2" "path" "[I") (by decide +kernel)
  have cw90 := cwV (R := (rmX 4 150 0 0)) (s := s) (args := args) (rm := (rmX 0 0 0 0)) (mc := 0) (ms := 0) 2 hts gX1_effective_X1_stepAt rfl rfl rfl (by decide +kernel) ⟨Nat.le_of_ble_eq_true rfl, Nat.le_of_ble_eq_true rfl⟩
  have cw98 := cwV (R := (rmX 4 150 0 0)) (s := s) (args := args) (rm := (rmX 3 110 0 0)) (mc := 0) (ms := 0) 4 hts gX1_effective_X1_strongest rfl rfl rfl (by decide +kernel) ⟨Nat.le_of_ble_eq_true rfl, Nat.le_of_ble_eq_true rfl⟩
  have cw102 := cwV (R := (rmX 4 150 0 0)) (s := s) (args := args) (rm := (rmX 1 40 0 0)) (mc := 0) (ms := 0) 0 hts gX1_effective_X0_sendsOn rfl rfl rfl (by decide +kernel) ⟨Nat.le_of_ble_eq_true rfl, Nat.le_of_ble_eq_true rfl⟩
  have hiX0 := (show ∀ w ∈ u_ws RX0 TX0 9, w ∈ wsX1_effective by decide +kernel)
  have lf108 := hts (.fieldLink RX1 108 "OrderRows2$Order" "to" "I") (by decide +kernel)
  have lf105 := hts (.fieldLink RX1 105 "OrderRows2$Order" "kind" "I") (by decide +kernel)
  have cw38 := va_cwS (R := (rmX 4 150 0 0)) (s := s) (args := args) (rm := (rmX 0 0 0 0)) (mc := 0) (ms := 0) 1 hts gX1_effective_X1_doneBy rfl rfl rfl (by decide +kernel) ⟨Nat.le_of_ble_eq_true rfl, Nat.le_of_ble_eq_true rfl⟩
  have cw94 := cwV (R := (rmX 4 150 0 0)) (s := s) (args := args) (rm := (rmX 0 0 0 0)) (mc := 0) (ms := 0) 2 hts gX1_effective_X1_tellRing rfl rfl rfl (by decide +kernel) ⟨Nat.le_of_ble_eq_true rfl, Nat.le_of_ble_eq_true rfl⟩
  refine lv_iload_n hx hb dX1_effective_0 rfl (lv_at hl 1 rfl) ?_
  refine rdS_i (As := [.int en]) (rest := []) ⟨hx, hb, hml, hown, hts⟩ (c_X1_isAddress l G en) cw42 hK va_P.nil rfl hl.1 rfl (Nat.le_of_ble_eq_true rfl) dX1_effective_1 ⟨Nat.zero_le _, Nat.zero_le _⟩ (fun r1_1 w1_1 => ?_)
  have w1_1 : ((r1_1.toInt = 1 ∧ (1 ≤ (en).toInt ∧ (en).toInt ≤ 99)) ∨ (r1_1.toInt = 0 ∧ ¬ (1 ≤ (en).toInt ∧ (en).toInt ≤ 99))) := w1_1
  refine lv_if_eq (tgt := 14) hx hb dX1_effective_4 (by decide) (fun c4_2 => ?_) (fun c4_2 => ?_)
  · have c4_2 : (r1_1).toInt = 0 := (ti_eq (x := r1_1) (y := 0) (a := (r1_1).toInt) (b := 0) rfl rfl).mp c4_2
    refine lv_bipush (v := (-101)) hx hb dX1_effective_14 (by decide) ?_
    have hF : fEff σ en wh kd dy = ((-101), σ) := if_pos (by omega)
    exact hret _ _ _ _ _ _ _ (κ.2.2.2.2.2.1, κ.2.2.2.2.2.2) dX1_effective_16 (Or.inr (Or.inr rfl)) (by rw [hF]; exact ⟨rfl, hC⟩) (by rw [hF]; exact hP) (by rw [hF]; exact hD) hS (Nat.le_refl _) (Nat.le_refl _)
  · have c4_2 : ¬ ((r1_1).toInt = 0) := mt (ti_eq (x := r1_1) (y := 0) (a := (r1_1).toInt) (b := 0) rfl rfl).mpr c4_2
    refine lv_iload_n hx hb dX1_effective_7 rfl (lv_at hl 2 rfl) ?_
    refine rdS_i (As := [.int wh]) (rest := []) ⟨hx, hb, hml, hown, hts⟩ (c_X1_isPerson l G wh) cw45 hK va_P.nil rfl hl.1 rfl (Nat.le_of_ble_eq_true rfl) dX1_effective_8 ⟨Nat.zero_le _, Nat.zero_le _⟩ (fun r8_3 w8_3 => ?_)
    have w8_3 : ((r8_3.toInt = 1 ∧ (0 ≤ (wh).toInt ∧ (wh).toInt ≤ 49)) ∨ (r8_3.toInt = 0 ∧ ¬ (0 ≤ (wh).toInt ∧ (wh).toInt ≤ 49))) := w8_3
    refine lv_if_ne (tgt := 17) hx hb dX1_effective_11 (by decide) (fun c11_4 => ?_) (fun c11_4 => ?_)
    · have c11_4 : ¬ ((r8_3).toInt = 0) := mt (ti_eq (x := r8_3) (y := 0) (a := (r8_3).toInt) (b := 0) rfl rfl).mpr c11_4
      refine lv_iload_n hx hb dX1_effective_17 rfl (lv_at hl 3 rfl) ?_
      refine lv_if_lt (tgt := 34) hx hb dX1_effective_18 (by decide) (fun c18_5 => ?_) (fun c18_5 => ?_)
      · have c18_5 : (kd).toInt < 0 := (ti_lt (x := kd) (y := 0) (a := (kd).toInt) (b := 0) rfl rfl).mp c18_5
        refine lv_bipush (v := (-102)) hx hb dX1_effective_34 (by decide) ?_
        have hF : fEff σ en wh kd dy = ((-102), σ) := (if_neg (by omega)).trans (if_pos (by omega))
        exact hret _ _ _ _ _ _ _ (κ.2.2.2.2.2.1, κ.2.2.2.2.2.2) dX1_effective_36 (Or.inr (Or.inr rfl)) (by rw [hF]; exact ⟨rfl, hC⟩) (by rw [hF]; exact hP) (by rw [hF]; exact hD) hS (Nat.le_refl _) (Nat.le_refl _)
      · have c18_5 : ¬ ((kd).toInt < 0) := mt (ti_lt (x := kd) (y := 0) (a := (kd).toInt) (b := 0) rfl rfl).mpr c18_5
        refine lv_iload_n hx hb dX1_effective_21 rfl (lv_at hl 3 rfl) ?_
        refine lv_iconst (v := 3) hx hb dX1_effective_22 (by decide) ?_
        refine lv_icmp_ge (tgt := 34) hx hb dX1_effective_23 (by decide) (fun c23_6 => ?_) (fun c23_6 => ?_)
        · have c23_6 : 3 ≤ (kd).toInt := (ti_le (x := 3) (y := kd) (a := 3) (b := (kd).toInt) rfl rfl).mp c23_6
          refine lv_bipush (v := (-102)) hx hb dX1_effective_34 (by decide) ?_
          have hF : fEff σ en wh kd dy = ((-102), σ) := (if_neg (by omega)).trans (if_pos (by omega))
          exact hret _ _ _ _ _ _ _ (κ.2.2.2.2.2.1, κ.2.2.2.2.2.2) dX1_effective_36 (Or.inr (Or.inr rfl)) (by rw [hF]; exact ⟨rfl, hC⟩) (by rw [hF]; exact hP) (by rw [hF]; exact hD) hS (Nat.le_refl _) (Nat.le_refl _)
        · have c23_6 : ¬ (3 ≤ (kd).toInt) := mt (ti_le (x := 3) (y := kd) (a := 3) (b := (kd).toInt) rfl rfl).mpr c23_6
          refine lv_lload hx hb dX1_effective_26 (lv_at hl 4 rfl) ?_
          refine rdS_i (As := [.long dy]) (rest := []) ⟨hx, hb, hml, hown, hts⟩ (c_X1_isDay l G dy) cw48 hK va_P.nil rfl hl.1 rfl (Nat.le_of_ble_eq_true rfl) dX1_effective_28 ⟨Nat.zero_le _, Nat.zero_le _⟩ (fun r28_7 w28_7 => ?_)
          have w28_7 : ((r28_7.toInt = 1 ∧ (0 ≤ (dy).toInt ∧ (dy).toInt ≤ 20000)) ∨ (r28_7.toInt = 0 ∧ ¬ (0 ≤ (dy).toInt ∧ (dy).toInt ≤ 20000))) := w28_7
          refine lv_if_ne (tgt := 37) hx hb dX1_effective_31 (by decide) (fun c31_8 => ?_) (fun c31_8 => ?_)
          · have c31_8 : ¬ ((r28_7).toInt = 0) := mt (ti_eq (x := r28_7) (y := 0) (a := (r28_7).toInt) (b := 0) rfl rfl).mpr c31_8
            refine lv_iload_n hx hb dX1_effective_37 rfl (lv_at hl 1 rfl) ?_
            refine lv_istore (lv' := [(6, .int en), (0, .ref a.1), (1, .int en), (2, .int wh), (3, .int kd), (4, .long dy)]) hx hb dX1_effective_38 hl (by decide) rfl (fun ls hl => ?_)
            refine lv_iconst (v := 0) hx hb dX1_effective_40 (by decide) ?_
            refine lv_istore (lv' := [(7, .int 0), (6, .int en), (0, .ref a.1), (1, .int en), (2, .int wh), (3, .int kd), (4, .long dy)]) hx hb dX1_effective_41 hl (by decide) rfl (fun ls hl => ?_)
            have loop43 : ∀ (fu : Nat) (q : List Int32) (x7 x6 : Int32) (pa : Nat → Int32), 100 < q.length + fu → q.length ≤ 100 → x7.toInt = ((q.length : Nat) : Int) → (∀ i, i < q.length → pa i = q.getD i 0) → eff σ wh.toInt kd.toInt dy.toInt (100 - q.length) q x6 = eff σ wh.toInt kd.toInt dy.toInt 100 [] en → ∀ (H : Heap) (locs : List Loc), va_P G.1 vwCl (CW G a (nI (sG σ).length) (sT σ) (sR σ) pa κ.2.2.2.2.2.2 (pO κ.2.2.2.2.1 (sO σ) (sN σ)) (LW G a.2.1 κ.1 κ.2.1 κ.2.2.1 κ.2.2.2.1 (sN σ))) H → va_D A (CW G a (nI (sG σ).length) (sT σ) (sR σ) pa κ.2.2.2.2.2.2 (pO κ.2.2.2.2.1 (sO σ) (sN σ)) (LW G a.2.1 κ.1 κ.2.1 κ.2.2.1 κ.2.2.2.1 (sN σ))) → va_S A s.heap H locs → ∀ ls : Array Slot, lv_has ls 10 [(7, .int x7), (6, .int x6), (0, .ref a.1), (1, .int en), (2, .int wh), (3, .int kd), (4, .long dy)] → W p l e (rmX 4 150 0 0) s m args below meth c H locs 0 0 Q (F0 m 43 ls []) := by
              intro fu
              induction fu with
              | zero =>
                intro q x7 x6 pa hfu hq e7 hpa hE
                exact absurd hfu (by omega)
              | succ fu ih43 =>
                intro q x7 x6 pa hfu hq e7 hpa hE H locs hP hD hS ls hl
                refine lv_iload hx hb dX1_effective_43 (lv_at hl 0 rfl) ?_
                refine lv_aload_n hx hb dX1_effective_45 rfl (lv_at hl 2 rfl) ?_
                refine va_get (D := G.1) (ci := 2) (v := .ref a.2.2.2.1) (own := RX1) (C := RX1) (T := TX1) (N := 6) hx hb hts hiX1 hown hK.1 hP 0 rfl rfl 2 (by decide) lf20 (fun _ h9 => h9) rfl dX1_effective_46 ?_
                refine va_alen hx hb hK.1 hP 2 0 rfl rfl (v := 100) rfl dX1_effective_49 ?_
                refine lv_icmp_ge (tgt := 149) hx hb dX1_effective_50 (by decide) (fun c50_9 => ?_) (fun c50_9 => ?_)
                · have c50_9 : 100 ≤ ((q.length : Nat) : Int) := (ti_le (x := 100) (y := x7) (a := 100) (b := ((q.length : Nat) : Int)) rfl e7).mp c50_9
                  refine lv_iconst (v := (-1)) hx hb dX1_effective_149 (by decide) ?_
                  have hE2 : eff σ wh.toInt kd.toInt dy.toInt 100 [] en = ((-1), (sG σ)) := by rw [← hE, show 100 - q.length = 0 by omega]; rfl
                  have hF : fEff σ en wh kd dy = ((-1), sGs σ (sG σ)) := fEff_of (by omega) (by omega) hE2
                  exact hret _ _ _ _ _ _ _ (pa, κ.2.2.2.2.2.2) dX1_effective_150 (Or.inr (Or.inr rfl)) (by rw [hF]; exact ⟨rfl, hC⟩) (by rw [hF]; exact hP) (by rw [hF]; exact hD) hS (Nat.le_refl _) (Nat.le_refl _)
                · have c50_9 : ¬ (100 ≤ ((q.length : Nat) : Int)) := mt (ti_le (x := 100) (y := x7) (a := 100) (b := ((q.length : Nat) : Int)) rfl e7).mpr c50_9
                  refine lv_aload_n hx hb dX1_effective_53 rfl (lv_at hl 2 rfl) ?_
                  refine lv_iload hx hb dX1_effective_54 (lv_at hl 1 rfl) ?_
                  refine lv_iload hx hb dX1_effective_56 (lv_at hl 0 rfl) ?_
                  refine rdV_i (b := a.1) (As := [.int x6, .int x7]) (rest := []) ⟨hx, hb, hml, hown, hts⟩ (c_X1_stepAt l G a (kPR κ pa κ.2.2.2.2.2.2) σ hI hC x6 x7 q.length e7 (by omega)) cw90 hK hP 2 rfl rfl rfl rfl hl.1 rfl (Nat.le_of_ble_eq_true rfl) dX1_effective_58 ⟨Nat.zero_le _, Nat.zero_le _⟩ (fun r8 w8 => ?_)
                  have w8 : r8.toInt = ((fst1 q x6 : Nat) : Int) := by rw [← fst1_eq hpa]; exact w8
                  have hfl : fst1 q x6 ≤ q.length := fa_first_le _ _
                  obtain ⟨r0, hr0⟩ : ∃ r0, 100 - q.length = r0 + 1 := ⟨99 - q.length, by omega⟩
                  refine lv_istore (lv' := [(8, .int r8), (7, .int x7), (6, .int x6), (0, .ref a.1), (1, .int en), (2, .int wh), (3, .int kd), (4, .long dy)]) hx hb dX1_effective_61 hl (by decide) rfl (fun ls hl => ?_)
                  refine lv_iload hx hb dX1_effective_63 (lv_at hl 0 rfl) ?_
                  refine lv_iload hx hb dX1_effective_65 (lv_at hl 1 rfl) ?_
                  refine lv_icmp_ge (tgt := 80) hx hb dX1_effective_67 (by decide) (fun c67_11 => ?_) (fun c67_11 => ?_)
                  · have c67_11 : ((q.length : Nat) : Int) ≤ (((fst1 q x6) : Nat) : Int) := (ti_le (x := x7) (y := r8) (a := ((q.length : Nat) : Int)) (b := (((fst1 q x6) : Nat) : Int)) e7 w8).mp c67_11
                    refine lv_aload_n hx hb dX1_effective_80 rfl (lv_at hl 3 rfl) ?_
                    refine va_get (D := G.1) (ci := 2) (v := .ref a.2.2.2.1) (own := RX1) (C := RX1) (T := TX1) (N := 6) hx hb hts hiX1 hown hK.1 hP 0 rfl rfl 2 (by decide) lf20 (fun _ h9 => h9) rfl dX1_effective_81 ?_
                    refine lv_iload hx hb dX1_effective_84 (lv_at hl 1 rfl) ?_
                    refine lv_iload hx hb dX1_effective_86 (lv_at hl 2 rfl) ?_
                    refine my_iast hx hb hK hP hD hS 2 rfl (x := x6) q.length e7 (by omega) dX1_effective_88 (fun H locs hP hD hS => ?_)
                    have hP : va_P G.1 vwCl (CW G a (nI (sG σ).length) (sT σ) (sR σ) (upd pa q.length x6) κ.2.2.2.2.2.2 (pO κ.2.2.2.2.1 (sO σ) (sN σ)) (LW G a.2.1 κ.1 κ.2.1 κ.2.2.1 κ.2.2.2.1 (sN σ))) H := hP
                    have hD : va_D A (CW G a (nI (sG σ).length) (sT σ) (sR σ) (upd pa q.length x6) κ.2.2.2.2.2.2 (pO κ.2.2.2.2.1 (sO σ) (sN σ)) (LW G a.2.1 κ.1 κ.2.1 κ.2.2.1 κ.2.2.2.1 (sN σ))) := hD
                    refine lv_aload_n hx hb dX1_effective_89 rfl (lv_at hl 3 rfl) ?_
                    refine lv_iload hx hb dX1_effective_90 (lv_at hl 2 rfl) ?_
                    refine lv_iload_n hx hb dX1_effective_92 rfl (lv_at hl 5 rfl) ?_
                    refine lv_iload_n hx hb dX1_effective_93 rfl (lv_at hl 6 rfl) ?_
                    refine lv_lload hx hb dX1_effective_94 (lv_at hl 7 rfl) ?_
                    refine rdV_q (b := a.1) (As := [.int x6, .int wh, .int kd, .long dy]) (rest := []) ⟨hx, hb, hml, hown, hts⟩ (c_X1_strongest l G a (kPR κ (upd pa q.length x6) κ.2.2.2.2.2.2) σ hI hC x6 wh kd dy) cw98 hK hP 2 rfl rfl rfl rfl hl.1 rfl (Nat.le_of_ble_eq_true rfl) dX1_effective_96 ⟨Nat.zero_le _, Nat.zero_le _⟩ (fun r9 w9 => ?_)
                    subst w9
                    cases hbs : bst σ x6.toInt wh.toInt kd.toInt dy.toInt (sN σ) with
                    | none =>
                      refine W.eq (g2 := F0 m 99 ls [.null]) rfl ?_
                      refine lv_astoreN (lv' := [(9, .null), (8, .int r8), (7, .int x7), (6, .int x6), (0, .ref a.1), (1, .int en), (2, .int wh), (3, .int kd), (4, .long dy)]) hx hb dX1_effective_99 hl (by decide) rfl (fun ls hl => ?_)
                      refine lv_aloadN hx hb dX1_effective_101 (lv_at hl 0 rfl) ?_
                      refine lv_ifnonnullN hx hb dX1_effective_103 ?_
                      refine lv_iload hx hb dX1_effective_106 (lv_at hl 3 rfl) ?_
                      have hE2 : eff σ wh.toInt kd.toInt dy.toInt 100 [] en = (x6, (sG σ)) := by rw [← hE, hr0]; exact eff_none (by omega) hbs
                      have hF : fEff σ en wh kd dy = (x6, sGs σ (sG σ)) := fEff_of (by omega) (by omega) hE2
                      exact hret _ _ _ _ _ _ _ ((upd pa q.length x6), κ.2.2.2.2.2.2) dX1_effective_108 (Or.inr (Or.inr rfl)) (by rw [hF]; exact ⟨rfl, hC⟩) (by rw [hF]; exact hP) (by rw [hF]; exact hD) hS (Nat.le_refl _) (Nat.le_refl _)
                    | some b =>
                      have hbn : b < sN σ := bst_lt hbs
                      have hob := hI4 b hbn
                      unfold OI at hob
                      refine W.eq (g2 := F0 m 99 ls [.ref (κ.2.2.2.2.1 b)]) rfl ?_
                      refine lv_astore (lv' := [(9, .ref (κ.2.2.2.2.1 b)), (8, .int r8), (7, .int x7), (6, .int x6), (0, .ref a.1), (1, .int en), (2, .int wh), (3, .int kd), (4, .long dy)]) hx hb dX1_effective_99 hl (by decide) rfl (fun ls hl => ?_)
                      refine lv_aload hx hb dX1_effective_101 (lv_at hl 0 rfl) ?_
                      refine lv_ifnonnull (tgt := 109) hx hb dX1_effective_103 (by decide) ?_
                      refine lv_aload hx hb dX1_effective_109 (lv_at hl 0 rfl) ?_
                      refine rdV_i (b := (κ.2.2.2.2.1 b)) (As := []) (rest := []) ⟨hx, hb, hml, hown, hts⟩ (c_X0_sendsOn l G (κ.2.2.2.2.1 b) (sO σ b)  (by omega)) cw102 hK (CW_ord hP hbn) 1 rfl rfl rfl rfl hl.1 rfl (Nat.le_of_ble_eq_true rfl) dX1_effective_111 ⟨Nat.zero_le _, Nat.zero_le _⟩ (fun r111_12 w111_12 => ?_)
                      have w111_12 : ((r111_12.toInt = 1 ∧ ((oK (sO σ b)).toInt < 3)) ∨ (r111_12.toInt = 0 ∧ ¬ ((oK (sO σ b)).toInt < 3))) := w111_12
                      refine lv_if_ne (tgt := 136) hx hb dX1_effective_114 (by decide) (fun c114_13 => ?_) (fun c114_13 => ?_)
                      · have c114_13 : ¬ ((r111_12).toInt = 0) := mt (ti_eq (x := r111_12) (y := 0) (a := (r111_12).toInt) (b := 0) rfl rfl).mpr c114_13
                        refine lv_aload hx hb dX1_effective_136 (lv_at hl 0 rfl) ?_
                        refine va_get (D := G.1) (ci := 1) (v := .int (oT (sO σ b))) (own := RX1) (C := RX0) (T := TX0) (N := 9) hx hb hts hiX0 hown hK.1 hP (b + 4) (CW_get hbn) rfl 3 (by decide) lf108 (fun _ h9 => h9) rfl dX1_effective_138 ?_
                        refine lv_istore (lv' := [(6, .int (oT (sO σ b))), (9, .ref (κ.2.2.2.2.1 b)), (8, .int r8), (7, .int x7), (0, .ref a.1), (1, .int en), (2, .int wh), (3, .int kd), (4, .long dy)]) hx hb dX1_effective_141 hl (by decide) rfl (fun ls hl => ?_)
                        obtain ⟨x143_14, e143_14⟩ : ∃ y : Int32, y = x7 + 1 := ⟨_, rfl⟩
                        have v143_14 : (x143_14).toInt = (((q.length + 1) : Nat) : Int) := by rw [e143_14]; exact (ti_add (a := ((q.length : Nat) : Int)) (b := 1) e7 rfl (by omega) (by omega)).trans (by omega)
                        refine lv_iinc (v := x143_14) (lv' := [(7, .int x143_14), (6, .int (oT (sO σ b))), (9, .ref (κ.2.2.2.2.1 b)), (8, .int r8), (0, .ref a.1), (1, .int en), (2, .int wh), (3, .int kd), (4, .long dy)]) hx hb dX1_effective_143 hl (k := 3) rfl (by rw [e143_14]; rfl) (by decide) rfl (fun ls hl => ?_)
                        refine lv_goto (tgt := 43) hx hb dX1_effective_146 (by decide) ?_
                        have hE3 : eff σ wh.toInt kd.toInt dy.toInt (100 - (q ++ [x6]).length) (q ++ [x6]) (oT (sO σ b)) = eff σ wh.toInt kd.toInt dy.toInt 100 [] en := by rw [← hE, hr0, eff_go (by omega) hbs (by omega), len_app, show 100 - (q.length + 1) = r0 by omega]
                        exact ih43 (q ++ [x6]) x143_14 (oT (sO σ b)) (upd pa q.length x6) (by rw [len_app]; omega) (by rw [len_app]; omega) (by rw [len_app]; exact v143_14) (pa_app hpa) hE3 _ _ hP hD hS ls (lv_sub hl [0, 1, 4, 5, 6, 7, 8] rfl)
                      · have c114_13 : (r111_12).toInt = 0 := (ti_eq (x := r111_12) (y := 0) (a := (r111_12).toInt) (b := 0) rfl rfl).mp c114_13
                        refine lv_aload hx hb dX1_effective_117 (lv_at hl 0 rfl) ?_
                        refine va_get (D := G.1) (ci := 1) (v := .int (oK (sO σ b))) (own := RX1) (C := RX0) (T := TX0) (N := 9) hx hb hts hiX0 hown hK.1 hP (b + 4) (CW_get hbn) rfl 0 (by decide) lf105 (fun _ h9 => h9) rfl dX1_effective_119 ?_
                        refine rdS_i (As := [.int (oK (sO σ b))]) (rest := []) ⟨hx, hb, hml, hown, hts⟩ (c_X1_doneBy l G (oK (sO σ b)) (by omega)) cw38 hK va_P.nil rfl hl.1 rfl (Nat.le_of_ble_eq_true rfl) dX1_effective_122 ⟨Nat.zero_le _, Nat.zero_le _⟩ (fun r122_15 w122_15 => ?_)
                        have w122_15 : r122_15.toInt = ((oK (sO σ b))).toInt / 3 := w122_15
                        refine lv_iconst (v := 1) hx hb dX1_effective_125 (by decide) ?_
                        refine lv_icmp_ne (tgt := 133) hx hb dX1_effective_126 (by decide) (fun c126_16 => ?_) (fun c126_16 => ?_)
                        · have c126_16 : ¬ ((r122_15).toInt = 1) := mt (ti_eq (x := r122_15) (y := 1) (a := (r122_15).toInt) (b := 1) rfl rfl).mpr c126_16
                          refine lv_bipush (v := (-2)) hx hb dX1_effective_133 (by decide) ?_
                          have hE2 : eff σ wh.toInt kd.toInt dy.toInt 100 [] en = ((-2), (sG σ)) := by rw [← hE, hr0]; exact eff_refused (by omega) hbs (by omega) (by omega)
                          have hF : fEff σ en wh kd dy = ((-2), sGs σ (sG σ)) := fEff_of (by omega) (by omega) hE2
                          exact hret _ _ _ _ _ _ _ ((upd pa q.length x6), κ.2.2.2.2.2.2) dX1_effective_135 (Or.inr (Or.inr rfl)) (by rw [hF]; exact ⟨rfl, hC⟩) (by rw [hF]; exact hP) (by rw [hF]; exact hD) hS (Nat.le_refl _) (Nat.le_refl _)
                        · have c126_16 : (r122_15).toInt = 1 := (ti_eq (x := r122_15) (y := 1) (a := (r122_15).toInt) (b := 1) rfl rfl).mp c126_16
                          refine lv_iconst (v := 0) hx hb dX1_effective_129 (by decide) ?_
                          refine lv_goto (tgt := 135) hx hb dX1_effective_130 (by decide) ?_
                          have hE2 : eff σ wh.toInt kd.toInt dy.toInt 100 [] en = (0, (sG σ)) := by rw [← hE, hr0]; exact eff_held (by omega) hbs (by omega) (by omega)
                          have hF : fEff σ en wh kd dy = (0, sGs σ (sG σ)) := fEff_of (by omega) (by omega) hE2
                          exact hret _ _ _ _ _ _ _ ((upd pa q.length x6), κ.2.2.2.2.2.2) dX1_effective_135 (Or.inr (Or.inr rfl)) (by rw [hF]; exact ⟨rfl, hC⟩) (by rw [hF]; exact hP) (by rw [hF]; exact hD) hS (Nat.le_refl _) (Nat.le_refl _)
                  · have c67_11 : ¬ (((q.length : Nat) : Int) ≤ (((fst1 q x6) : Nat) : Int)) := mt (ti_le (x := x7) (y := r8) (a := ((q.length : Nat) : Int)) (b := (((fst1 q x6) : Nat) : Int)) e7 w8).mpr c67_11
                    refine lv_aload_n hx hb dX1_effective_70 rfl (lv_at hl 3 rfl) ?_
                    refine lv_iload hx hb dX1_effective_71 (lv_at hl 0 rfl) ?_
                    refine lv_iload hx hb dX1_effective_73 (lv_at hl 1 rfl) ?_
                    refine wrV_v (wr := []) (b := a.1) (As := [.int r8, .int x7]) (rest := []) ⟨hx, hb, hml, hown, hts⟩ (c_X1_tellRing l G a (kPR κ pa κ.2.2.2.2.2.2) σ hI hC r8 x7 (fst1 q x6) q.length w8 e7 hfl (by omega)) cw94 hK hZ hP hD hS hA 2 rfl rfl rfl rfl hl.1 rfl (Nat.le_of_ble_eq_true rfl) dX1_effective_75 ⟨Nat.zero_le _, Nat.zero_le _⟩ (fun u H locs wu hP hD hS => ?_)
                    have hP : va_P G.1 vwCl (CW G a (nI (q.length - fst1 q x6)) (sT σ) (sR σ) pa u (pO κ.2.2.2.2.1 (sO σ) (sN σ)) (LW G a.2.1 κ.1 κ.2.1 κ.2.2.1 κ.2.2.2.1 (sN σ))) H := hP
                    have hD : va_D A (CW G a (nI (q.length - fst1 q x6)) (sT σ) (sR σ) pa u (pO κ.2.2.2.2.1 (sO σ) (sN σ)) (LW G a.2.1 κ.1 κ.2.1 κ.2.2.1 κ.2.2.2.1 (sN σ))) := hD
                    refine lv_iconst (v := (-1)) hx hb dX1_effective_78 (by decide) ?_
                    have hE2 : eff σ wh.toInt kd.toInt dy.toInt 100 [] en = ((-1), (q.drop (fst1 q x6))) := by rw [← hE, hr0]; exact eff_ring (by omega)
                    rw [← List.length_drop] at hP hD
                    have hF : fEff σ en wh kd dy = ((-1), sGs σ (q.drop (fst1 q x6))) := fEff_of (by omega) (by omega) hE2
                    exact hret _ _ _ _ _ _ _ (pa, u) dX1_effective_79 (Or.inr (Or.inr rfl)) (by rw [hF]; exact ⟨rfl, ⟨hC.1, fun mq hm => by have hm2 : mq < (q.drop (fst1 q x6)).length := hm; rw [List.length_drop] at hm2; show u mq = (q.drop (fst1 q x6)).getD mq 0; rw [gD_drop, wu mq hm2]; exact hpa _ (by omega)⟩⟩) (by rw [hF]; exact hP) (by rw [hF]; exact hD) hS (Nat.le_refl _) (Nat.le_refl _)
            exact loop43 101 [] 0 en κ.2.2.2.2.2.1 (by decide) (Nat.zero_le _) rfl (fun i hi => absurd hi (Nat.not_lt_zero i)) rfl _ _ hP hD hS ls (lv_sub hl [0, 1, 2, 3, 4, 5, 6] rfl)
          · have c31_8 : (r28_7).toInt = 0 := (ti_eq (x := r28_7) (y := 0) (a := (r28_7).toInt) (b := 0) rfl rfl).mp c31_8
            refine lv_bipush (v := (-102)) hx hb dX1_effective_34 (by decide) ?_
            have hF : fEff σ en wh kd dy = ((-102), σ) := (if_neg (by omega)).trans (if_pos (by omega))
            exact hret _ _ _ _ _ _ _ (κ.2.2.2.2.2.1, κ.2.2.2.2.2.2) dX1_effective_36 (Or.inr (Or.inr rfl)) (by rw [hF]; exact ⟨rfl, hC⟩) (by rw [hF]; exact hP) (by rw [hF]; exact hD) hS (Nat.le_refl _) (Nat.le_refl _)
    · have c11_4 : (r8_3).toInt = 0 := (ti_eq (x := r8_3) (y := 0) (a := (r8_3).toInt) (b := 0) rfl rfl).mp c11_4
      refine lv_bipush (v := (-101)) hx hb dX1_effective_14 (by decide) ?_
      have hF : fEff σ en wh kd dy = ((-101), σ) := if_pos (by omega)
      exact hret _ _ _ _ _ _ _ (κ.2.2.2.2.2.1, κ.2.2.2.2.2.2) dX1_effective_16 (Or.inr (Or.inr rfl)) (by rw [hF]; exact ⟨rfl, hC⟩) (by rw [hF]; exact hP) (by rw [hF]; exact hD) hS (Nat.le_refl _) (Nat.le_refl _)
end
section
-- ===== laid by wip/whole/gen.py out of the decode rows =====
set_option maxHeartbeats 4000000 in
set_option maxRecDepth 100000 in
/-- AbstractCollection() -/
theorem c_Jxa1e45_init_da8c8 (l : Launch) (G : GG) (h : Nat) : WrV l yJxa1e45_init_da8c8 wsJxa1e45_init_da8c8 (rmX 1 40 0 0) G [.ref h] [(h, .inr (0, [.int 0, .null, .int 0]))] (fun u : Unit => True) (fun u : Unit => [(h, .inr (0, [.int 0, .null, .int 0]))]) 0 0 := by
  refine wr_of_v (cc := cJxa1e45_init_da8c8) (maxL := 1) (by decide +kernel) rfl (Nat.le_of_ble_eq_true rfl) ?_
  intro p e s m args below meth c Q A hx hb hml hown hts hK hZ hA hin hret ls hl hP hD hS
  have hown : s.vm.findClass RJxa1e45 = some m.cls := hown
  have hl : lv_has ls 1 [(0, .ref h)] := hl
  have hP : va_P G.1 vwCl [(h, .inr (0, [.int 0, .null, .int 0]))] s.heap := hP
  have hD : va_D A [(h, .inr (0, [.int 0, .null, .int 0]))] := hD
  refine lv_aload_n hx hb dJxa1e45_init_da8c8_0 rfl (lv_at hl 0 rfl) ?_
  refine W.objInit hx hb hown (hts (.methodLink RJxa1e45 1 objectInit) (by decide +kernel)) (hts (.instanceMethod objectInit) (by decide +kernel)) (hts (.code objectInit ⟨#[0xb1]⟩ 1 none) (by decide +kernel)) rfl (by rw [hml]; exact hl.1) rfl dJxa1e45_init_da8c8_1 (Nat.le_of_ble_eq_true rfl) (Nat.le_of_ble_eq_true rfl) ?_
  refine W.eq (g2 := F0 m 4 ls []) rfl ?_
  exact hret _ _ _ _ _ _ () dJxa1e45_init_da8c8_4 trivial hP hD hS (Nat.le_refl _) (Nat.le_refl _)

set_option maxHeartbeats 4000000 in
set_option maxRecDepth 100000 in
/-- AbstractList() -/
theorem c_Jxc12de_init_da8c8 (l : Launch) (G : GG) (h : Nat) : WrV l yJxc12de_init_da8c8 wsJxc12de_init_da8c8 (rmX 2 80 0 0) G [.ref h] [(h, .inr (0, [.int 0, .null, .int 0]))] (fun u : Unit => True) (fun u : Unit => [(h, .inr (0, [.int 0, .null, .int 0]))]) 0 0 := by
  refine wr_of_v (cc := cJxc12de_init_da8c8) (maxL := 1) (by decide +kernel) rfl (Nat.le_of_ble_eq_true rfl) ?_
  intro p e s m args below meth c Q A hx hb hml hown hts hK hZ hA hin hret ls hl hP hD hS
  have hown : s.vm.findClass RJxc12de = some m.cls := hown
  have hl : lv_has ls 1 [(0, .ref h)] := hl
  have hP : va_P G.1 vwCl [(h, .inr (0, [.int 0, .null, .int 0]))] s.heap := hP
  have hD : va_D A [(h, .inr (0, [.int 0, .null, .int 0]))] := hD
  have cw1 := cwI (R := (rmX 2 80 0 0)) (s := s) (args := args) (rm := (rmX 1 40 0 0)) (mc := 0) (ms := 0) (own := RJxc12de) (index := 1) 0 hts gJxc12de_init_da8c8_Jxa1e45_init_da8c8 rfl rfl rfl (hts (.initialized RJxa1e45) (by decide +kernel)) (hts (.methodLink RJxc12de 1 yJxa1e45_init_da8c8) (by decide +kernel)) (hts (.instanceMethod yJxa1e45_init_da8c8) (by decide +kernel)) rfl (by decide +kernel) ⟨Nat.le_of_ble_eq_true rfl, Nat.le_of_ble_eq_true rfl⟩
  have hiJx4a65c := (show ∀ w ∈ u_ws RJx4a65c TJx4a65c 3, w ∈ wsJxc12de_init_da8c8 by decide +kernel)
  have lf7 := hts (.fieldLink RJxc12de 7 "java/util/AbstractList" "modCount" "I") (by decide +kernel)
  refine lv_aload_n hx hb dJxc12de_init_da8c8_0 rfl (lv_at hl 0 rfl) ?_
  refine wrI_v (wr := []) (b := h) (As := []) (rest := []) ⟨hx, hb, hml, hown, hts⟩ (c_Jxa1e45_init_da8c8 l G h) cw1 hK hZ hP hD hS hA rfl hl.1 rfl (Nat.le_of_ble_eq_true rfl) dJxc12de_init_da8c8_1 ⟨(Nat.le_of_ble_eq_true rfl), (Nat.le_of_ble_eq_true rfl)⟩ (fun _ H locs _ hP hD hS => ?_)
  have hP : va_P G.1 vwCl [(h, .inr (0, [.int 0, .null, .int 0]))] H := hP
  have hD : va_D A [(h, .inr (0, [.int 0, .null, .int 0]))] := hD
  refine lv_aload_n hx hb dJxc12de_init_da8c8_4 rfl (lv_at hl 0 rfl) ?_
  refine lv_iconst (v := 0) hx hb dJxc12de_init_da8c8_5 (by decide) ?_
  refine va_put (D := G.1) (ci := 0) (v := .int 0) (ty := .int) (own := RJxc12de) (C := RJx4a65c) (T := TJx4a65c) (N := 3) hx hb hts hiJx4a65c tyJx4a65c tyJx4a65c_ok nmJx4a65c hown hK.1 hP hD hS 0 rfl rfl 0 (by decide) lf7 (fun _ h9 => h9) rfl (by decide +kernel) rfl rfl (Nat.le_of_ble_eq_true rfl) dJxc12de_init_da8c8_6 (fun H locs hP hD hS => ?_)
  have hP : va_P G.1 vwCl [(h, .inr (0, [.int 0, .null, .int 0]))] H := hP
  have hD : va_D A [(h, .inr (0, [.int 0, .null, .int 0]))] := hD
  exact hret _ _ _ _ _ _ () dJxc12de_init_da8c8_9 trivial hP hD hS (Nat.le_refl _) (Nat.le_refl _)

set_option maxHeartbeats 4000000 in
set_option maxRecDepth 100000 in
/-- ArrayList() -/
theorem c_Jx4a65c_init_da8c8 (l : Launch) (G : GG) (h : Nat) : WrV l yJx4a65c_init_da8c8 wsJx4a65c_init_da8c8 (rmX 3 120 0 0) G [.ref h] [(h, .inr (0, [.int 0, .null, .int 0]))] (fun u : Unit => True) (fun u : Unit => [(h, .inr (0, [.int 0, .ref (gS G), .int 0]))]) 0 0 := by
  refine wr_of_v (cc := cJx4a65c_init_da8c8) (maxL := 1) (by decide +kernel) rfl (Nat.le_of_ble_eq_true rfl) ?_
  intro p e s m args below meth c Q A hx hb hml hown hts hK hZ hA hin hret ls hl hP hD hS
  have hown : s.vm.findClass RJx4a65c = some m.cls := hown
  have hl : lv_has ls 1 [(0, .ref h)] := hl
  have hP : va_P G.1 vwCl [(h, .inr (0, [.int 0, .null, .int 0]))] s.heap := hP
  have hD : va_D A [(h, .inr (0, [.int 0, .null, .int 0]))] := hD
  have cw1 := cwI (R := (rmX 3 120 0 0)) (s := s) (args := args) (rm := (rmX 2 80 0 0)) (mc := 0) (ms := 0) (own := RJx4a65c) (index := 1) 0 hts gJx4a65c_init_da8c8_Jxc12de_init_da8c8 rfl rfl rfl (hts (.initialized RJxc12de) (by decide +kernel)) (hts (.methodLink RJx4a65c 1 yJxc12de_init_da8c8) (by decide +kernel)) (hts (.instanceMethod yJxc12de_init_da8c8) (by decide +kernel)) rfl (by decide +kernel) ⟨Nat.le_of_ble_eq_true rfl, Nat.le_of_ble_eq_true rfl⟩
  have lf39 := hts (.fieldLink RJx4a65c 39 "java/util/ArrayList" "DEFAULTCAPACITY_EMPTY_ELEMENTDATA" "[Ljava/lang/Object;") (by decide +kernel)
  have hiJx4a65c := (show ∀ w ∈ u_ws RJx4a65c TJx4a65c 3, w ∈ wsJx4a65c_init_da8c8 by decide +kernel)
  have lf9 := hts (.fieldLink RJx4a65c 9 "java/util/ArrayList" "elementData" "[Ljava/lang/Object;") (by decide +kernel)
  refine lv_aload_n hx hb dJx4a65c_init_da8c8_0 rfl (lv_at hl 0 rfl) ?_
  refine wrI_v (wr := []) (b := h) (As := []) (rest := []) ⟨hx, hb, hml, hown, hts⟩ (c_Jxc12de_init_da8c8 l G h) cw1 hK hZ hP hD hS hA rfl hl.1 rfl (Nat.le_of_ble_eq_true rfl) dJx4a65c_init_da8c8_1 ⟨(Nat.le_of_ble_eq_true rfl), (Nat.le_of_ble_eq_true rfl)⟩ (fun _ H locs _ hP hD hS => ?_)
  have hP : va_P G.1 vwCl [(h, .inr (0, [.int 0, .null, .int 0]))] H := hP
  have hD : va_D A [(h, .inr (0, [.int 0, .null, .int 0]))] := hD
  refine lv_aload_n hx hb dJx4a65c_init_da8c8_4 rfl (lv_at hl 0 rfl) ?_
  refine va_gets (own := RJx4a65c) (C := "java/util/ArrayList") (n := "DEFAULTCAPACITY_EMPTY_ELEMENTDATA") (d := "[Ljava/lang/Object;") hx hb hZ.1 hS hown lf39 (fun _ h9 => h9) dJx4a65c_init_da8c8_5 ?_
  refine va_put (D := G.1) (ci := 0) (v := .ref (gS G)) (ty := (.array (.object "java/lang/Object"))) (own := RJx4a65c) (C := RJx4a65c) (T := TJx4a65c) (N := 3) hx hb hts hiJx4a65c tyJx4a65c tyJx4a65c_ok nmJx4a65c hown hK.1 hP hD hS 0 rfl rfl 1 (by decide) lf9 (fun _ h9 => h9) rfl (by decide +kernel) rfl rfl (Nat.le_of_ble_eq_true rfl) dJx4a65c_init_da8c8_8 (fun H locs hP hD hS => ?_)
  have hP : va_P G.1 vwCl [(h, .inr (0, [.int 0, .ref (gS G), .int 0]))] H := hP
  have hD : va_D A [(h, .inr (0, [.int 0, .ref (gS G), .int 0]))] := hD
  exact hret _ _ _ _ _ _ () dJx4a65c_init_da8c8_11 trivial hP hD hS (Nat.le_refl _) (Nat.le_refl _)

set_option maxHeartbeats 4000000 in
set_option maxRecDepth 100000 in
/-- newLength -/
theorem c_J8_newLength_cabcc (l : Launch) (G : GG) (x y z : Int32) (h1 : 0 ≤ (x).toInt) (h2 : (x).toInt ≤ 400) (h3 : 1 ≤ (y).toInt) (h4 : (y).toInt ≤ 400) (h5 : 0 ≤ (z).toInt) (h6 : (z).toInt ≤ 400) : RdI l yJ8_newLength_cabcc wsJ8_newLength_cabcc (rmX 1 40 0 0) G [.int x, .int y, .int z] [] (fun r => r.toInt = (x).toInt + (if (y).toInt < (z).toInt then (z).toInt else (y).toInt)) := by
  refine rd_of_i (cc := cJ8_newLength_cabcc) (maxL := 4) (t := .int) (by decide +kernel) rfl (Nat.le_of_ble_eq_true rfl) nar_int ?_
  intro p e s m args below meth c Q hx hb hml hown hts hP hK hret ls hl
  have hown : s.vm.findClass RJ8 = some m.cls := hown
  have hl : lv_has ls 4 [(0, .int x), (1, .int y), (2, .int z)] := hl
  have kl200 := hts (.constant RJ8 200 (2147483639)) (by decide +kernel)
  refine lv_iload_n hx hb dJ8_newLength_cabcc_0 rfl (lv_at hl 0 rfl) ?_
  refine lv_iload_n hx hb dJ8_newLength_cabcc_1 rfl (lv_at hl 1 rfl) ?_
  refine lv_iload_n hx hb dJ8_newLength_cabcc_2 rfl (lv_at hl 2 rfl) ?_
  refine va_mmax hx hb (by rw [hml]; exact hl.1.symm) hown (hts (.methodLink RJ8 194 Lib.Math.max.name) (by decide +kernel)) (hts (.static Lib.Math.max.name) (by decide +kernel)) (hts (.initialized "java/lang/Math") (by decide +kernel)) (hts (.code Lib.Math.max.name Lib.Math.max.code 2 (some .int)) (by decide +kernel)) (Nat.le_of_ble_eq_true rfl) (Nat.le_of_ble_eq_true rfl) (Nat.zero_le _) (Nat.zero_le _) dJ8_newLength_cabcc_3 ?_
  refine lv_topi (fun ym eym => ?_)
  have vym : ym.toInt = if (y : Int32).toInt < (z : Int32).toInt then (z : Int32).toInt else (y : Int32).toInt := by rw [eym]; exact mxi_if _ _
  have hym : 1 ≤ ym.toInt ∧ ym.toInt ≤ 400 := by rw [vym]; split <;> omega
  refine lv_iadd hx hb dJ8_newLength_cabcc_6 ?_
  refine lv_topi (fun y6_1 e6_1 => ?_)
  have v6_1 : (y6_1).toInt = ((x).toInt + (ym).toInt) := by rw [e6_1]; exact ti_add (a := (x).toInt) (b := (ym).toInt) rfl rfl (by omega) (by omega)
  refine lv_istore_n (lv' := [(3, .int y6_1), (0, .int x), (1, .int y), (2, .int z)]) hx hb dJ8_newLength_cabcc_7 rfl hl (by decide) rfl (fun ls hl => ?_)
  refine lv_iconst (v := 0) hx hb dJ8_newLength_cabcc_8 (by decide) ?_
  refine lv_iload_n hx hb dJ8_newLength_cabcc_9 rfl (lv_at hl 0 rfl) ?_
  refine lv_icmp_ge (tgt := 21) hx hb dJ8_newLength_cabcc_10 (by decide) (fun c10_2 => ?_) (fun c10_2 => ?_)
  · have c10_2 : ((x).toInt + (ym).toInt) ≤ 0 := (ti_le (x := y6_1) (y := 0) (a := ((x).toInt + (ym).toInt)) (b := 0) v6_1 rfl).mp c10_2
    exfalso; omega
  · have c10_2 : ¬ (((x).toInt + (ym).toInt) ≤ 0) := mt (ti_le (x := y6_1) (y := 0) (a := ((x).toInt + (ym).toInt)) (b := 0) v6_1 rfl).mpr c10_2
    refine lv_iload_n hx hb dJ8_newLength_cabcc_13 rfl (lv_at hl 0 rfl) ?_
    refine lv_ldc (v := 2147483639) hx hb hown kl200 dJ8_newLength_cabcc_14 ?_
    refine lv_icmp_gt (tgt := 21) hx hb dJ8_newLength_cabcc_16 (by decide) (fun c16_3 => ?_) (fun c16_3 => ?_)
    · have c16_3 : 2147483639 < ((x).toInt + (ym).toInt) := (ti_lt (x := 2147483639) (y := y6_1) (a := 2147483639) (b := ((x).toInt + (ym).toInt)) rfl v6_1).mp c16_3
      exfalso; omega
    · have c16_3 : ¬ (2147483639 < ((x).toInt + (ym).toInt)) := mt (ti_lt (x := 2147483639) (y := y6_1) (a := 2147483639) (b := ((x).toInt + (ym).toInt)) rfl v6_1).mpr c16_3
      refine lv_iload_n hx hb dJ8_newLength_cabcc_19 rfl (lv_at hl 0 rfl) ?_
      exact hret _ _ _ dJ8_newLength_cabcc_20 (Or.inr (Or.inr rfl)) (v6_1.trans (by rw [vym]))

set_option maxHeartbeats 4000000 in
set_option maxRecDepth 100000 in
/-- Arrays.copyOf -/
theorem c_J7_copyOf_6403c (l : Launch) (G : GG) (a2 N M : Nat) (f : Nat → Option Nat) (x : Int32) (hx1 : (x).toInt = ((M : Nat) : Int)) (hNM : N ≤ M) (hM : M ≤ 400) (tl : va_W) (ht : ∀ i, i < N → ∃ (y j : Nat) (fs : List Value), f i = some y ∧ tl[j]? = some (y, .inr (1, fs))) : WrR l yJ7_copyOf_6403c wsJ7_copyOf_6403c (rmX 1 80 1 400) G [.ref a2, .int x, .ref (gM G)] (aO G a2 N f :: tl) (fun u : (Nat × (Nat → Option Nat)) => ∀ i, i < N → u.2 i = f i) (fun u : (Nat × (Nat → Option Nat)) => aO G a2 N f :: (tl ++ [aO G u.1 M u.2])) (fun u : (Nat × (Nat → Option Nat)) => u.1) 1 400 := by
  refine wr_of_r (cc := cJ7_copyOf_6403c) (maxL := 4) (by decide +kernel) rfl (Nat.le_of_ble_eq_true rfl) ?_
  intro p e s m args below meth c Q A hx hb hml hown hts hK hZ hA hret ls hl hP hD hS
  have hown : s.vm.findClass RJ7 = some m.cls := hown
  have hl : lv_has ls 4 [(0, .ref a2), (1, .int x), (2, .ref (gM G))] := hl
  have hP : va_P G.1 vwCl (aO G a2 N f :: tl) s.heap := hP
  have hD : va_D A (aO G a2 N f :: tl) := hD
  refine lv_aload_n hx hb dJ7_copyOf_6403c_0 rfl (lv_at hl 2 rfl) ?_
  refine va_ldcM (own := RJ7) (C := "[Ljava/lang/Object;") (mi := gM G) hx hb hown (hts (.classLink RJ7 110 "[Ljava/lang/Object;") (by decide +kernel)) hK.2.1 dJ7_copyOf_6403c_1 ?_
  refine lv_acmp_ne (rx := some (gM G)) (ry := some (gM G)) (tgt := 13) hx hb dJ7_copyOf_6403c_3 (by decide) (fun c9 => absurd rfl c9) (fun _ => ?_)
  refine lv_iload_n hx hb dJ7_copyOf_6403c_6 rfl (lv_at hl 1 rfl) ?_
  refine va_newq (own := RJ7) (C := "java/lang/Object") (n := x) (N' := M) hx hb hown (hts (.classLink RJ7 2 "java/lang/Object") (by decide +kernel)) hK.2.2.2.1 hK.1 hP hD hS hA (mt (ti_lt (a := ((M : Nat) : Int)) (b := 0) hx1 rfl).mp (by omega)) (ix_I hx1) (by omega) (Nat.le_of_ble_eq_true rfl) (by show 0 + M ≤ 400; omega) dJ7_copyOf_6403c_7 (fun qn cA H hK2 hP hD hS => ?_)
  obtain rfl : cA = gO G := Option.some.inj ((va_nmO (nm := "[Ljava/lang/Object;") (hK2.2 4 _ rfl).2 (by decide +kernel)).symm.trans (va_nmO (nm := "[Ljava/lang/Object;") (hK.1.2 3 _ rfl).2 (by decide +kernel)))
  have hP : va_P G.1 vwCl ((aO G a2 N f :: tl) ++ [aO G qn M (fun _ => none)]) H := hP
  have hD : va_D A ((aO G a2 N f :: tl) ++ [aO G qn M (fun _ => none)]) := hD
  refine lv_goto (tgt := 24) hx hb dJ7_copyOf_6403c_10 (by decide) ?_
  refine lv_astore_n (lv' := [(3, .ref qn), (0, .ref a2), (1, .int x), (2, .ref (gM G))]) hx hb dJ7_copyOf_6403c_24 rfl hl (by decide) rfl (fun ls hl => ?_)
  refine lv_aload_n hx hb dJ7_copyOf_6403c_25 rfl (lv_at hl 1 rfl) ?_
  refine lv_iconst (v := 0) hx hb dJ7_copyOf_6403c_26 (by decide) ?_
  refine lv_aload_n hx hb dJ7_copyOf_6403c_27 rfl (lv_at hl 0 rfl) ?_
  refine lv_iconst (v := 0) hx hb dJ7_copyOf_6403c_28 (by decide) ?_
  refine lv_aload_n hx hb dJ7_copyOf_6403c_29 rfl (lv_at hl 1 rfl) ?_
  refine va_alen hx hb hK.1 hP 0 3 rfl rfl (v := (nI N)) rfl dJ7_copyOf_6403c_30 ?_
  refine lv_iload_n hx hb dJ7_copyOf_6403c_31 rfl (lv_at hl 2 rfl) ?_
  refine va_mmin hx hb (by rw [hml]; exact hl.1.symm) hown (hts (.methodLink RJ7 304 Lib.Math.min.name) (by decide +kernel)) (hts (.static Lib.Math.min.name) (by decide +kernel)) (hts (.initialized "java/lang/Math") (by decide +kernel)) (hts (.code Lib.Math.min.name Lib.Math.min.code 2 (some .int)) (by decide +kernel)) (Nat.le_of_ble_eq_true rfl) (Nat.le_of_ble_eq_true rfl) (Nat.le_of_ble_eq_true rfl) (by show 0 + M ≤ 400; omega) dJ7_copyOf_6403c_32 ?_
  refine lv_topi (fun ym eym => ?_)
  have vN : (nI N).toInt = ((N : Nat) : Int) := ti_nI (by omega)
  have vym : ym.toInt = ((N : Nat) : Int) := by rw [eym, mni_if, vN, hx1]; exact if_neg (by omega)
  have hel : ∀ i : Nat, i < ym.toNatClampNeg → ∀ y : Nat, f ((0 : Int32).toNatClampNeg + i) = some y → va_Any "java/lang/Object" s H y := by
    intro i hi y hy
    rw [ix_I vym] at hi
    have hy : f (0 + i) = some y := hy
    rw [Nat.zero_add] at hy
    obtain ⟨y1, j, fs, e1, e2⟩ := ht i hi
    rw [hy] at e1
    cases e1
    exact ord_any hK hP (j := j + 1) (by show (tl ++ [_])[j]? = _; rw [List.getElem?_append_left (List.getElem?_eq_some_iff.mp e2).1]; exact e2)
  refine va_copyM hx hb (by rw [hml]; exact hl.1.symm) hown (hts (.methodLink RJ7 150 arraycopyName) (by decide +kernel)) (hts (.native arraycopyName) (by decide +kernel)) (hts (.static arraycopyName) (by decide +kernel)) (hts (.initialized "java/lang/System") (by decide +kernel)) hK.1 hP hD hS 0 ((aO G a2 N f :: tl).length) 3 3 (f := f) (g := fun _ => none) (E0 := "java/lang/Object") (E1 := "java/lang/Object") rfl app_last rfl rfl (sp := 0) (dp := 0) (n := ym) (by decide) (by decide) (mt (ti_lt (a := ((N : Nat) : Int)) (b := 0) vym rfl).mp (by omega)) (by rw [ix_I vym]; show 0 + N ≤ N; omega) (by rw [ix_I vym]; show 0 + N ≤ M; omega) hel (Nat.le_of_ble_eq_true rfl) (Nat.le_of_ble_eq_true rfl) dJ7_copyOf_6403c_35 (fun H locs hP hD hS => ?_)
  rw [set_last] at hP hD
  have hP : va_P G.1 vwCl ((aO G a2 N f :: tl) ++ [aO G qn M (va_cpy f (fun _ => none) (0 : Int32).toNatClampNeg (0 : Int32).toNatClampNeg ym.toNatClampNeg)]) H := hP
  have hD : va_D A ((aO G a2 N f :: tl) ++ [aO G qn M (va_cpy f (fun _ => none) (0 : Int32).toNatClampNeg (0 : Int32).toNatClampNeg ym.toNatClampNeg)]) := hD
  refine lv_aload_n hx hb dJ7_copyOf_6403c_38 rfl (lv_at hl 0 rfl) ?_
  have hg : ∀ i, i < N → (va_cpy f (fun _ => none) (0 : Int32).toNatClampNeg (0 : Int32).toNatClampNeg ym.toNatClampNeg) i = f i := fun i hi => by
    show va_cpy f (fun _ => none) 0 0 ym.toNatClampNeg i = f i
    rw [ix_I vym, pk_cpy_in (Nat.zero_le _) (by omega), Nat.zero_add, Nat.sub_zero]
  exact hret _ _ _ _ _ _ _ (qn, (va_cpy f (fun _ => none) (0 : Int32).toNatClampNeg (0 : Int32).toNatClampNeg ym.toNatClampNeg)) dJ7_copyOf_6403c_39 rfl hg hP hD hS (Nat.le_of_ble_eq_true rfl) (by show 0 + M ≤ 400; omega)

set_option maxHeartbeats 4000000 in
set_option maxRecDepth 100000 in
/-- Arrays.copyOf -/
theorem c_J7_copyOf_1904c (l : Launch) (G : GG) (a2 N M : Nat) (f : Nat → Option Nat) (x : Int32) (hx1 : (x).toInt = ((M : Nat) : Int)) (hNM : N ≤ M) (hM : M ≤ 400) (tl : va_W) (ht : ∀ i, i < N → ∃ (y j : Nat) (fs : List Value), f i = some y ∧ tl[j]? = some (y, .inr (1, fs))) : WrR l yJ7_copyOf_1904c wsJ7_copyOf_1904c (rmX 2 120 1 400) G [.ref a2, .int x] (aO G a2 N f :: tl) (fun u : (Nat × (Nat → Option Nat)) => ∀ i, i < N → u.2 i = f i) (fun u : (Nat × (Nat → Option Nat)) => aO G a2 N f :: (tl ++ [aO G u.1 M u.2])) (fun u : (Nat × (Nat → Option Nat)) => u.1) 1 400 := by
  refine wr_of_r (cc := cJ7_copyOf_1904c) (maxL := 2) (by decide +kernel) rfl (Nat.le_of_ble_eq_true rfl) ?_
  intro p e s m args below meth c Q A hx hb hml hown hts hK hZ hA hret ls hl hP hD hS
  have hown : s.vm.findClass RJ7 = some m.cls := hown
  have hl : lv_has ls 2 [(0, .ref a2), (1, .int x)] := hl
  have hP : va_P G.1 vwCl (aO G a2 N f :: tl) s.heap := hP
  have hD : va_D A (aO G a2 N f :: tl) := hD
  have cw300 := va_cwS (R := (rmX 2 120 1 400)) (s := s) (args := args) (rm := (rmX 1 80 1 400)) (mc := 1) (ms := 400) 3 hts gJ7_copyOf_1904c_J7_copyOf_6403c rfl rfl rfl (by decide +kernel) ⟨Nat.le_of_ble_eq_true rfl, Nat.le_of_ble_eq_true rfl⟩
  refine lv_aload_n hx hb dJ7_copyOf_1904c_0 rfl (lv_at hl 0 rfl) ?_
  refine lv_iload_n hx hb dJ7_copyOf_1904c_1 rfl (lv_at hl 1 rfl) ?_
  refine lv_aload_n hx hb dJ7_copyOf_1904c_2 rfl (lv_at hl 0 rfl) ?_
  refine va_getC (own := RJ7) (C := "[Ljava/lang/Object;") (mi := gM G) hx hb (by rw [hml]; exact hl.1.symm) hown (hts (.methodLink RJ7 86 ⟨"java/lang/Object", "getClass", "()Ljava/lang/Class;"⟩) (by decide +kernel)) (va_Dc.use hK.2.2.1) (hts (.selects "[Ljava/lang/Object;" ⟨"java/lang/Object", "getClass", "()Ljava/lang/Class;"⟩ ⟨"java/lang/Object", "getClass", "()Ljava/lang/Class;"⟩) (by decide +kernel)) (hts (.instanceMethod ⟨"java/lang/Object", "getClass", "()Ljava/lang/Class;"⟩) (by decide +kernel)) (hts (.native ⟨"java/lang/Object", "getClass", "()Ljava/lang/Class;"⟩) (by decide +kernel)) hK.2.1 (arr_recv hK hP rfl) (Nat.le_of_ble_eq_true rfl) (Nat.le_of_ble_eq_true rfl) dJ7_copyOf_1904c_3 ?_
  refine wrS_r (wr := []) (As := [.ref a2, .int x, .ref (gM G)]) (rest := []) ⟨hx, hb, hml, hown, hts⟩ (c_J7_copyOf_6403c l G a2 N M f x hx1 hNM hM tl ht) cw300 hK hZ hP hD hS hA rfl hl.1 rfl (Nat.le_of_ble_eq_true rfl) dJ7_copyOf_1904c_6 ⟨(Nat.le_of_ble_eq_true rfl), (Nat.le_of_ble_eq_true rfl)⟩ (fun u H locs wu hP hD hS => ?_)
  have hP : va_P G.1 vwCl ((aO G a2 N f :: tl) ++ [aO G u.1 M u.2]) H := hP
  have hD : va_D A ((aO G a2 N f :: tl) ++ [aO G u.1 M u.2]) := hD
  exact hret _ _ _ _ _ _ _ u dJ7_copyOf_1904c_9 rfl wu hP hD hS (Nat.le_of_ble_eq_true rfl) (Nat.le_of_ble_eq_true rfl)

set_option maxHeartbeats 4000000 in
set_option maxRecDepth 100000 in
/-- grow(int), full -/
theorem c_Jx4a65c_grow_92f84_n (l : Launch) (G : GG) (h : Nat) (md y : Int32) (a2 n : Nat) (f : Nat → Option Nat) (hn0 : 0 < n) (hn : n ≤ 200) (hy1 : (y).toInt = (((n + 1) : Nat) : Int)) (tl : va_W) (ht : ∀ i, i < n → ∃ (y j : Nat) (fs : List Value), f i = some y ∧ tl[j]? = some (y, .inr (1, fs))) : WrR l yJx4a65c_grow_92f84 wsJx4a65c_grow_92f84 (rmX 3 150 1 400) G [.ref h, .int y] ((h, .inr (0, [.int md, .ref a2, .int (nI n)])) :: aO G a2 n f :: tl) (fun u : (Nat × Nat × (Nat → Option Nat)) => n + 1 ≤ u.2.1 ∧ u.2.1 ≤ 400 ∧ ∀ i, i < n → u.2.2 i = f i) (fun u : (Nat × Nat × (Nat → Option Nat)) => (h, .inr (0, [.int md, .ref u.1, .int (nI n)])) :: aO G u.1 u.2.1 u.2.2 :: tl) (fun u : (Nat × Nat × (Nat → Option Nat)) => u.1) 1 400 := by
  refine wr_of_r (cc := cJx4a65c_grow_92f84) (maxL := 4) (by decide +kernel) rfl (Nat.le_of_ble_eq_true rfl) ?_
  intro p e s m args below meth c Q A hx hb hml hown hts hK hZ hA hret ls hl hP hD hS
  have hown : s.vm.findClass RJx4a65c = some m.cls := hown
  have hl : lv_has ls 4 [(0, .ref h), (1, .int y)] := hl
  have hP : va_P G.1 vwCl ((h, .inr (0, [.int md, .ref a2, .int (nI n)])) :: aO G a2 n f :: tl) s.heap := hP
  have hD : va_D A ((h, .inr (0, [.int md, .ref a2, .int (nI n)])) :: aO G a2 n f :: tl) := hD
  have hiJx4a65c := (show ∀ w ∈ u_ws RJx4a65c TJx4a65c 3, w ∈ wsJx4a65c_grow_92f84 by decide +kernel)
  have lf9 := hts (.fieldLink RJx4a65c 9 "java/util/ArrayList" "elementData" "[Ljava/lang/Object;") (by decide +kernel)
  have cw73 := va_cwS (R := (rmX 3 150 1 400)) (s := s) (args := args) (rm := (rmX 1 40 0 0)) (mc := 0) (ms := 0) 3 hts gJx4a65c_grow_92f84_J8_newLength_cabcc rfl rfl rfl (by decide +kernel) ⟨Nat.le_of_ble_eq_true rfl, Nat.le_of_ble_eq_true rfl⟩
  have cw66 := va_cwS (R := (rmX 3 150 1 400)) (s := s) (args := args) (rm := (rmX 2 120 1 400)) (mc := 1) (ms := 400) 2 hts gJx4a65c_grow_92f84_J7_copyOf_1904c rfl rfl rfl (by decide +kernel) ⟨Nat.le_of_ble_eq_true rfl, Nat.le_of_ble_eq_true rfl⟩
  refine lv_aload_n hx hb dJx4a65c_grow_92f84_0 rfl (lv_at hl 0 rfl) ?_
  refine va_get (D := G.1) (ci := 0) (v := .ref a2) (own := RJx4a65c) (C := RJx4a65c) (T := TJx4a65c) (N := 3) hx hb hts hiJx4a65c hown hK.1 hP 0 rfl rfl 1 (by decide) lf9 (fun _ h9 => h9) rfl dJx4a65c_grow_92f84_1 ?_
  refine va_alen hx hb hK.1 hP 1 3 rfl rfl (v := (nI n)) rfl dJx4a65c_grow_92f84_4 ?_
  refine lv_istore_n (lv' := [(2, .int (nI n)), (0, .ref h), (1, .int y)]) hx hb dJx4a65c_grow_92f84_5 rfl hl (by decide) rfl (fun ls hl => ?_)
  refine lv_iload_n hx hb dJx4a65c_grow_92f84_6 rfl (lv_at hl 0 rfl) ?_
  refine lv_if_gt (tgt := 20) hx hb dJx4a65c_grow_92f84_7 (by decide) (fun c7_1 => ?_) (fun c7_1 => ?_)
  · have c7_1 : 0 < ((n : Nat) : Int) := (ti_lt (x := 0) (y := (nI n)) (a := 0) (b := ((n : Nat) : Int)) rfl (ti_nI (k := n) (by omega))).mp c7_1
    refine lv_iload_n hx hb dJx4a65c_grow_92f84_20 rfl (lv_at hl 0 rfl) ?_
    refine lv_iload_n hx hb dJx4a65c_grow_92f84_21 rfl (lv_at hl 2 rfl) ?_
    refine lv_iload_n hx hb dJx4a65c_grow_92f84_22 rfl (lv_at hl 0 rfl) ?_
    refine lv_isub hx hb dJx4a65c_grow_92f84_23 ?_
    refine lv_topi (fun y23_2 e23_2 => ?_)
    have v23_2 : (y23_2).toInt = ((((n + 1) : Nat) : Int) - ((n : Nat) : Int)) := by rw [e23_2]; exact ti_sub (a := (((n + 1) : Nat) : Int)) (b := ((n : Nat) : Int)) hy1 (ti_nI (k := n) (by omega)) (by omega) (by omega)
    refine lv_iload_n hx hb dJx4a65c_grow_92f84_24 rfl (lv_at hl 0 rfl) ?_
    refine lv_iconst (v := 1) hx hb dJx4a65c_grow_92f84_25 (by decide) ?_
    refine lv_ishr hx hb dJx4a65c_grow_92f84_26 ?_
    refine lv_topi (fun ys eys => ?_)
    have vys : ys.toInt = (((n / 2) : Nat) : Int) := by rw [eys]; exact ti_shr1 (ti_nI (k := n) (by omega))
    have va3 : ((nI n)).toInt = ((n : Nat) : Int) := (ti_nI (k := n) (by omega))
    have va4 : (y23_2).toInt = ((((n + 1) : Nat) : Int) - ((n : Nat) : Int)) := v23_2
    have va5 : (ys).toInt = (((n / 2) : Nat) : Int) := vys
    refine rdS_i (As := [.int (nI n), .int y23_2, .int ys]) (rest := []) ⟨hx, hb, hml, hown, hts⟩ (c_J8_newLength_cabcc l G (nI n) y23_2 ys (by omega) (by omega) (by omega) (by omega) (by omega) (by omega)) cw73 hK va_P.nil rfl hl.1 rfl (Nat.le_of_ble_eq_true rfl) dJx4a65c_grow_92f84_27 ⟨Nat.zero_le _, Nat.zero_le _⟩ (fun rn wn => ?_)
    have wn : rn.toInt = (nI n).toInt + (if y23_2.toInt < ys.toInt then ys.toInt else y23_2.toInt) := wn
    obtain ⟨M, eM, hM1, hM2⟩ : ∃ M : Nat, rn.toInt = ((M : Nat) : Int) ∧ n + 1 ≤ M ∧ M ≤ 400 := by split at wn <;> exact ⟨rn.toInt.toNat, by omega, by omega, by omega⟩
    refine lv_istore_n (lv' := [(3, .int rn), (2, .int (nI n)), (0, .ref h), (1, .int y)]) hx hb dJx4a65c_grow_92f84_30 rfl hl (by decide) rfl (fun ls hl => ?_)
    refine lv_aload_n hx hb dJx4a65c_grow_92f84_31 rfl (lv_at hl 2 rfl) ?_
    refine lv_aload_n hx hb dJx4a65c_grow_92f84_32 rfl (lv_at hl 2 rfl) ?_
    refine va_get (D := G.1) (ci := 0) (v := .ref a2) (own := RJx4a65c) (C := RJx4a65c) (T := TJx4a65c) (N := 3) hx hb hts hiJx4a65c hown hK.1 hP 0 rfl rfl 1 (by decide) lf9 (fun _ h9 => h9) rfl dJx4a65c_grow_92f84_33 ?_
    refine lv_iload_n hx hb dJx4a65c_grow_92f84_36 rfl (lv_at hl 0 rfl) ?_
    refine wrS_r (wr := [(h, .inr (0, [.int md, .ref a2, .int (nI n)]))]) (As := [.ref a2, .int rn]) (rest := [.ref h]) ⟨hx, hb, hml, hown, hts⟩ (c_J7_copyOf_1904c l G a2 n M f rn eM (by omega) hM2 tl ht) cw66 hK hZ hP hD hS hA rfl hl.1 rfl (Nat.le_of_ble_eq_true rfl) dJx4a65c_grow_92f84_37 ⟨(Nat.le_of_ble_eq_true rfl), (Nat.le_of_ble_eq_true rfl)⟩ (fun u H locs wu hP hD hS => ?_)
    have hP : va_P G.1 vwCl ((h, .inr (0, [.int md, .ref a2, .int (nI n)])) :: aO G a2 n f :: (tl ++ [aO G u.1 M u.2])) H := hP
    have hD : va_D A ((h, .inr (0, [.int md, .ref a2, .int (nI n)])) :: aO G a2 n f :: (tl ++ [aO G u.1 M u.2])) := hD
    refine lv_dup_x1 hx hb dJx4a65c_grow_92f84_40 rfl rfl ?_
    refine va_put (D := G.1) (ci := 0) (v := .ref u.1) (ty := (.array (.object "java/lang/Object"))) (own := RJx4a65c) (C := RJx4a65c) (T := TJx4a65c) (N := 3) hx hb hts hiJx4a65c tyJx4a65c tyJx4a65c_ok nmJx4a65c hown hK.1 hP hD hS 0 rfl rfl 1 (by decide) lf9 (fun _ h9 => h9) rfl (by decide +kernel) rfl rfl (Nat.le_of_ble_eq_true rfl) dJx4a65c_grow_92f84_41 (fun H locs hP hD hS => ?_)
    have hP : va_P G.1 vwCl ((h, .inr (0, [.int md, .ref u.1, .int (nI n)])) :: aO G a2 n f :: (tl ++ [aO G u.1 M u.2])) H := hP
    have hD : va_D A ((h, .inr (0, [.int md, .ref u.1, .int (nI n)])) :: aO G a2 n f :: (tl ++ [aO G u.1 M u.2])) := hD
    exact hret _ _ _ _ _ _ _ (u.1, M, u.2) dJx4a65c_grow_92f84_44 rfl ⟨hM1, hM2, wu⟩ (re_P hP) (re_D hD) hS (Nat.le_of_ble_eq_true rfl) (Nat.le_of_ble_eq_true rfl)
  · have c7_1 : ¬ (0 < ((n : Nat) : Int)) := mt (ti_lt (x := 0) (y := (nI n)) (a := 0) (b := ((n : Nat) : Int)) rfl (ti_nI (k := n) (by omega))).mpr c7_1
    exfalso; omega

set_option maxHeartbeats 4000000 in
set_option maxRecDepth 100000 in
/-- grow(int), empty -/
theorem c_Jx4a65c_grow_92f84_0 (l : Launch) (G : GG) (h : Nat) (md y : Int32) (hy1 : (y).toInt = 1) (tl : va_W) : WrR l yJx4a65c_grow_92f84 wsJx4a65c_grow_92f84 (rmX 3 150 1 400) G [.ref h, .int y] ((h, .inr (0, [.int md, .ref (gS G), .int 0])) :: tl) (fun u : (Nat × Nat × (Nat → Option Nat)) => 1 ≤ u.2.1 ∧ u.2.1 ≤ 400) (fun u : (Nat × Nat × (Nat → Option Nat)) => (h, .inr (0, [.int md, .ref u.1, .int 0])) :: aO G u.1 u.2.1 u.2.2 :: tl) (fun u : (Nat × Nat × (Nat → Option Nat)) => u.1) 1 400 := by
  refine wr_of_r (cc := cJx4a65c_grow_92f84) (maxL := 4) (by decide +kernel) rfl (Nat.le_of_ble_eq_true rfl) ?_
  intro p e s m args below meth c Q A hx hb hml hown hts hK hZ hA hret ls hl hP hD hS
  have hown : s.vm.findClass RJx4a65c = some m.cls := hown
  have hl : lv_has ls 4 [(0, .ref h), (1, .int y)] := hl
  have hP : va_P G.1 vwCl ((h, .inr (0, [.int md, .ref (gS G), .int 0])) :: tl) s.heap := hP
  have hD : va_D A ((h, .inr (0, [.int md, .ref (gS G), .int 0])) :: tl) := hD
  have hiJx4a65c := (show ∀ w ∈ u_ws RJx4a65c TJx4a65c 3, w ∈ wsJx4a65c_grow_92f84 by decide +kernel)
  have lf9 := hts (.fieldLink RJx4a65c 9 "java/util/ArrayList" "elementData" "[Ljava/lang/Object;") (by decide +kernel)
  have lf39 := hts (.fieldLink RJx4a65c 39 "java/util/ArrayList" "DEFAULTCAPACITY_EMPTY_ELEMENTDATA" "[Ljava/lang/Object;") (by decide +kernel)
  refine lv_aload_n hx hb dJx4a65c_grow_92f84_0 rfl (lv_at hl 0 rfl) ?_
  refine va_get (D := G.1) (ci := 0) (v := .ref (gS G)) (own := RJx4a65c) (C := RJx4a65c) (T := TJx4a65c) (N := 3) hx hb hts hiJx4a65c hown hK.1 hP 0 rfl rfl 1 (by decide) lf9 (fun _ h9 => h9) rfl dJx4a65c_grow_92f84_1 ?_
  refine va_tlen hx hb hZ.2 hS (v := 0) rfl dJx4a65c_grow_92f84_4 ?_
  refine lv_istore_n (lv' := [(2, .int 0), (0, .ref h), (1, .int y)]) hx hb dJx4a65c_grow_92f84_5 rfl hl (by decide) rfl (fun ls hl => ?_)
  refine lv_iload_n hx hb dJx4a65c_grow_92f84_6 rfl (lv_at hl 0 rfl) ?_
  refine lv_if_gt (tgt := 20) hx hb dJx4a65c_grow_92f84_7 (by decide) (fun c7_1 => absurd c7_1 (by decide)) (fun _ => ?_)
  refine lv_aload_n hx hb dJx4a65c_grow_92f84_10 rfl (lv_at hl 1 rfl) ?_
  refine va_get (D := G.1) (ci := 0) (v := .ref (gS G)) (own := RJx4a65c) (C := RJx4a65c) (T := TJx4a65c) (N := 3) hx hb hts hiJx4a65c hown hK.1 hP 0 rfl rfl 1 (by decide) lf9 (fun _ h9 => h9) rfl dJx4a65c_grow_92f84_11 ?_
  refine va_gets (own := RJx4a65c) (C := "java/util/ArrayList") (n := "DEFAULTCAPACITY_EMPTY_ELEMENTDATA") (d := "[Ljava/lang/Object;") hx hb hZ.1 hS hown lf39 (fun _ h9 => h9) dJx4a65c_grow_92f84_14 ?_
  refine lv_acmp_eq (rx := some (gS G)) (ry := some (gS G)) (tgt := 45) hx hb dJx4a65c_grow_92f84_17 (by decide) (fun _ => ?_) (fun c9 => absurd rfl c9)
  refine lv_aload_n hx hb dJx4a65c_grow_92f84_45 rfl (lv_at hl 1 rfl) ?_
  refine lv_bipush (v := 10) hx hb dJx4a65c_grow_92f84_46 (by decide) ?_
  refine lv_iload_n hx hb dJx4a65c_grow_92f84_48 rfl (lv_at hl 2 rfl) ?_
  refine va_mmax hx hb (by rw [hml]; exact hl.1.symm) hown (hts (.methodLink RJx4a65c 79 Lib.Math.max.name) (by decide +kernel)) (hts (.static Lib.Math.max.name) (by decide +kernel)) (hts (.initialized "java/lang/Math") (by decide +kernel)) (hts (.code Lib.Math.max.name Lib.Math.max.code 2 (some .int)) (by decide +kernel)) (Nat.le_of_ble_eq_true rfl) (Nat.le_of_ble_eq_true rfl) (Nat.zero_le _) (Nat.zero_le _) dJx4a65c_grow_92f84_49 ?_
  refine lv_topi (fun ym eym => ?_)
  have vym : ym.toInt = if (10 : Int32).toInt < (y : Int32).toInt then (y : Int32).toInt else (10 : Int32).toInt := by rw [eym]; exact mxi_if _ _
  have e10 : (10 : Int32).toInt = 10 := rfl
  have v10 : ym.toInt = ((10 : Nat) : Int) := by rw [vym, e10]; exact if_neg (by omega)
  refine va_newq (own := RJx4a65c) (C := "java/lang/Object") (n := ym) (N' := 10) hx hb hown (hts (.classLink RJx4a65c 7 "java/lang/Object") (by decide +kernel)) hK.2.2.2.1 hK.1 hP hD hS hA (mt (ti_lt (a := ((10 : Nat) : Int)) (b := 0) v10 rfl).mp (by omega)) (ix_I v10) (by omega) (Nat.le_of_ble_eq_true rfl) (by show 0 + 10 ≤ 400; omega) dJx4a65c_grow_92f84_52 (fun qn cA H hK2 hP hD hS => ?_)
  obtain rfl : cA = gO G := Option.some.inj ((va_nmO (nm := "[Ljava/lang/Object;") (hK2.2 4 _ rfl).2 (by decide +kernel)).symm.trans (va_nmO (nm := "[Ljava/lang/Object;") (hK.1.2 3 _ rfl).2 (by decide +kernel)))
  have hP : va_P G.1 vwCl ((h, .inr (0, [.int md, .ref (gS G), .int 0])) :: (tl ++ [aO G qn 10 (fun _ => none)])) H := hP
  have hD : va_D A ((h, .inr (0, [.int md, .ref (gS G), .int 0])) :: (tl ++ [aO G qn 10 (fun _ => none)])) := hD
  refine lv_dup_x1 hx hb dJx4a65c_grow_92f84_55 rfl rfl ?_
  refine va_put (D := G.1) (ci := 0) (v := .ref qn) (ty := (.array (.object "java/lang/Object"))) (own := RJx4a65c) (C := RJx4a65c) (T := TJx4a65c) (N := 3) hx hb hts hiJx4a65c tyJx4a65c tyJx4a65c_ok nmJx4a65c hown hK.1 hP hD hS 0 rfl rfl 1 (by decide) lf9 (fun _ h9 => h9) rfl (by decide +kernel) rfl rfl (Nat.le_of_ble_eq_true rfl) dJx4a65c_grow_92f84_56 (fun H locs hP hD hS => ?_)
  have hP : va_P G.1 vwCl ((h, .inr (0, [.int md, .ref qn, .int 0])) :: (tl ++ [aO G qn 10 (fun _ => none)])) H := hP
  have hD : va_D A ((h, .inr (0, [.int md, .ref qn, .int 0])) :: (tl ++ [aO G qn 10 (fun _ => none)])) := hD
  exact hret _ _ _ _ _ _ _ (qn, 10, fun _ => none) dJx4a65c_grow_92f84_59 rfl ⟨(show 1 ≤ 10 by omega), (show 10 ≤ 400 by omega)⟩ (re0_P hP) (re0_D hD) hS (Nat.le_of_ble_eq_true rfl) (Nat.le_of_ble_eq_true rfl)

set_option maxHeartbeats 4000000 in
set_option maxRecDepth 100000 in
/-- grow(), full -/
theorem c_Jx4a65c_grow_d5877_n (l : Launch) (G : GG) (h : Nat) (md : Int32) (a2 n : Nat) (f : Nat → Option Nat) (hn0 : 0 < n) (hn : n ≤ 200) (tl : va_W) (ht : ∀ i, i < n → ∃ (y j : Nat) (fs : List Value), f i = some y ∧ tl[j]? = some (y, .inr (1, fs))) : WrR l yJx4a65c_grow_d5877 wsJx4a65c_grow_d5877 (rmX 4 180 1 400) G [.ref h] ((h, .inr (0, [.int md, .ref a2, .int (nI n)])) :: aO G a2 n f :: tl) (fun u : (Nat × Nat × (Nat → Option Nat)) => n + 1 ≤ u.2.1 ∧ u.2.1 ≤ 400 ∧ ∀ i, i < n → u.2.2 i = f i) (fun u : (Nat × Nat × (Nat → Option Nat)) => (h, .inr (0, [.int md, .ref u.1, .int (nI n)])) :: aO G u.1 u.2.1 u.2.2 :: tl) (fun u : (Nat × Nat × (Nat → Option Nat)) => u.1) 1 400 := by
  refine wr_of_r (cc := cJx4a65c_grow_d5877) (maxL := 1) (by decide +kernel) rfl (Nat.le_of_ble_eq_true rfl) ?_
  intro p e s m args below meth c Q A hx hb hml hown hts hK hZ hA hret ls hl hP hD hS
  have hown : s.vm.findClass RJx4a65c = some m.cls := hown
  have hl : lv_has ls 1 [(0, .ref h)] := hl
  have hP : va_P G.1 vwCl ((h, .inr (0, [.int md, .ref a2, .int (nI n)])) :: aO G a2 n f :: tl) s.heap := hP
  have hD : va_D A ((h, .inr (0, [.int md, .ref a2, .int (nI n)])) :: aO G a2 n f :: tl) := hD
  have hiJx4a65c := (show ∀ w ∈ u_ws RJx4a65c TJx4a65c 3, w ∈ wsJx4a65c_grow_d5877 by decide +kernel)
  have lf48 := hts (.fieldLink RJx4a65c 48 "java/util/ArrayList" "size" "I") (by decide +kernel)
  have cw69 := cwV (R := (rmX 4 180 1 400)) (s := s) (args := args) (rm := (rmX 3 150 1 400)) (mc := 1) (ms := 400) 1 hts gJx4a65c_grow_d5877_Jx4a65c_grow_92f84 rfl rfl rfl (by decide +kernel) ⟨Nat.le_of_ble_eq_true rfl, Nat.le_of_ble_eq_true rfl⟩
  refine lv_aload_n hx hb dJx4a65c_grow_d5877_0 rfl (lv_at hl 0 rfl) ?_
  refine lv_aload_n hx hb dJx4a65c_grow_d5877_1 rfl (lv_at hl 0 rfl) ?_
  refine va_get (D := G.1) (ci := 0) (v := .int (nI n)) (own := RJx4a65c) (C := RJx4a65c) (T := TJx4a65c) (N := 3) hx hb hts hiJx4a65c hown hK.1 hP 0 rfl rfl 2 (by decide) lf48 (fun _ h9 => h9) rfl dJx4a65c_grow_d5877_2 ?_
  refine lv_iconst (v := 1) hx hb dJx4a65c_grow_d5877_5 (by decide) ?_
  refine lv_iadd hx hb dJx4a65c_grow_d5877_6 ?_
  refine lv_topi (fun y6_1 e6_1 => ?_)
  have v6_1 : (y6_1).toInt = (((n + 1) : Nat) : Int) := by rw [e6_1]; exact (ti_add (a := ((n : Nat) : Int)) (b := 1) (ti_nI (by omega)) rfl (by omega) (by omega)).trans (by omega)
  refine wrV_r (wr := []) (b := h) (As := [.int y6_1]) (rest := []) ⟨hx, hb, hml, hown, hts⟩ (c_Jx4a65c_grow_92f84_n l G h md y6_1 a2 n f hn0 hn v6_1 tl ht) cw69 hK hZ hP hD hS hA 0 rfl rfl rfl rfl hl.1 rfl (Nat.le_of_ble_eq_true rfl) dJx4a65c_grow_d5877_7 ⟨(Nat.le_of_ble_eq_true rfl), (Nat.le_of_ble_eq_true rfl)⟩ (fun u H locs wu hP hD hS => ?_)
  have hP : va_P G.1 vwCl ((h, .inr (0, [.int md, .ref u.1, .int (nI n)])) :: aO G u.1 u.2.1 u.2.2 :: tl) H := hP
  have hD : va_D A ((h, .inr (0, [.int md, .ref u.1, .int (nI n)])) :: aO G u.1 u.2.1 u.2.2 :: tl) := hD
  exact hret _ _ _ _ _ _ _ u dJx4a65c_grow_d5877_10 rfl wu hP hD hS (Nat.le_of_ble_eq_true rfl) (Nat.le_of_ble_eq_true rfl)

set_option maxHeartbeats 4000000 in
set_option maxRecDepth 100000 in
/-- grow(), empty -/
theorem c_Jx4a65c_grow_d5877_0 (l : Launch) (G : GG) (h : Nat) (md : Int32) (tl : va_W) : WrR l yJx4a65c_grow_d5877 wsJx4a65c_grow_d5877 (rmX 4 180 1 400) G [.ref h] ((h, .inr (0, [.int md, .ref (gS G), .int 0])) :: tl) (fun u : (Nat × Nat × (Nat → Option Nat)) => 1 ≤ u.2.1 ∧ u.2.1 ≤ 400) (fun u : (Nat × Nat × (Nat → Option Nat)) => (h, .inr (0, [.int md, .ref u.1, .int 0])) :: aO G u.1 u.2.1 u.2.2 :: tl) (fun u : (Nat × Nat × (Nat → Option Nat)) => u.1) 1 400 := by
  refine wr_of_r (cc := cJx4a65c_grow_d5877) (maxL := 1) (by decide +kernel) rfl (Nat.le_of_ble_eq_true rfl) ?_
  intro p e s m args below meth c Q A hx hb hml hown hts hK hZ hA hret ls hl hP hD hS
  have hown : s.vm.findClass RJx4a65c = some m.cls := hown
  have hl : lv_has ls 1 [(0, .ref h)] := hl
  have hP : va_P G.1 vwCl ((h, .inr (0, [.int md, .ref (gS G), .int 0])) :: tl) s.heap := hP
  have hD : va_D A ((h, .inr (0, [.int md, .ref (gS G), .int 0])) :: tl) := hD
  have hiJx4a65c := (show ∀ w ∈ u_ws RJx4a65c TJx4a65c 3, w ∈ wsJx4a65c_grow_d5877 by decide +kernel)
  have lf48 := hts (.fieldLink RJx4a65c 48 "java/util/ArrayList" "size" "I") (by decide +kernel)
  have cw69 := cwV (R := (rmX 4 180 1 400)) (s := s) (args := args) (rm := (rmX 3 150 1 400)) (mc := 1) (ms := 400) 1 hts gJx4a65c_grow_d5877_Jx4a65c_grow_92f84 rfl rfl rfl (by decide +kernel) ⟨Nat.le_of_ble_eq_true rfl, Nat.le_of_ble_eq_true rfl⟩
  refine lv_aload_n hx hb dJx4a65c_grow_d5877_0 rfl (lv_at hl 0 rfl) ?_
  refine lv_aload_n hx hb dJx4a65c_grow_d5877_1 rfl (lv_at hl 0 rfl) ?_
  refine va_get (D := G.1) (ci := 0) (v := .int 0) (own := RJx4a65c) (C := RJx4a65c) (T := TJx4a65c) (N := 3) hx hb hts hiJx4a65c hown hK.1 hP 0 rfl rfl 2 (by decide) lf48 (fun _ h9 => h9) rfl dJx4a65c_grow_d5877_2 ?_
  refine lv_iconst (v := 1) hx hb dJx4a65c_grow_d5877_5 (by decide) ?_
  refine lv_iadd hx hb dJx4a65c_grow_d5877_6 ?_
  refine lv_topi (fun y6_1 e6_1 => ?_)
  have v6_1 : (y6_1).toInt = (((0 + 1) : Nat) : Int) := by rw [e6_1]; exact (ti_add (a := 0) (b := 1) rfl rfl (by omega) (by omega)).trans (by omega)
  refine wrV_r (wr := []) (b := h) (As := [.int y6_1]) (rest := []) ⟨hx, hb, hml, hown, hts⟩ (c_Jx4a65c_grow_92f84_0 l G h md y6_1 (v6_1.trans (by omega)) tl) cw69 hK hZ hP hD hS hA 0 rfl rfl rfl rfl hl.1 rfl (Nat.le_of_ble_eq_true rfl) dJx4a65c_grow_d5877_7 ⟨(Nat.le_of_ble_eq_true rfl), (Nat.le_of_ble_eq_true rfl)⟩ (fun u H locs wu hP hD hS => ?_)
  have hP : va_P G.1 vwCl ((h, .inr (0, [.int md, .ref u.1, .int 0])) :: aO G u.1 u.2.1 u.2.2 :: tl) H := hP
  have hD : va_D A ((h, .inr (0, [.int md, .ref u.1, .int 0])) :: aO G u.1 u.2.1 u.2.2 :: tl) := hD
  exact hret _ _ _ _ _ _ _ u dJx4a65c_grow_d5877_10 rfl wu hP hD hS (Nat.le_of_ble_eq_true rfl) (Nat.le_of_ble_eq_true rfl)

set_option maxHeartbeats 4000000 in
set_option maxRecDepth 100000 in
/-- add: room is there -/
theorem c_Jx4a65c_add_72be8_s (l : Launch) (G : GG) (h v : Nat) (md x3 : Int32) (a2 n N : Nat) (f : Nat → Option Nat) (hn0 : 0 < n) (hnN : n < N) (hN : N ≤ 400) (hn : n ≤ 200) (hx3 : (x3).toInt = ((n : Nat) : Int)) (tl : va_W) (jv : Nat) (fs : List Value) (hv : tl[jv]? = some (v, .inr (1, fs))) : WrV l yJx4a65c_add_72be8 wsJx4a65c_add_72be8 (rmX 5 210 1 400) G [.ref h, .ref v, .ref a2, .int x3] ((h, .inr (0, [.int md, .ref a2, .int (nI n)])) :: aO G a2 N f :: tl) (fun u : (Nat × Nat × (Nat → Option Nat)) => n + 1 ≤ u.2.1 ∧ u.2.1 ≤ 400 ∧ u.2.2 n = some v ∧ ∀ i, i < n → u.2.2 i = f i) (fun u : (Nat × Nat × (Nat → Option Nat)) => (h, .inr (0, [.int md, .ref u.1, .int (nI (n + 1))])) :: aO G u.1 u.2.1 u.2.2 :: tl) 1 400 := by
  refine wr_of_v (cc := cJx4a65c_add_72be8) (maxL := 4) (by decide +kernel) rfl (Nat.le_of_ble_eq_true rfl) ?_
  intro p e s m args below meth c Q A hx hb hml hown hts hK hZ hA hin hret ls hl hP hD hS
  have hown : s.vm.findClass RJx4a65c = some m.cls := hown
  have hl : lv_has ls 4 [(0, .ref h), (1, .ref v), (2, .ref a2), (3, .int x3)] := hl
  have hP : va_P G.1 vwCl ((h, .inr (0, [.int md, .ref a2, .int (nI n)])) :: aO G a2 N f :: tl) s.heap := hP
  have hD : va_D A ((h, .inr (0, [.int md, .ref a2, .int (nI n)])) :: aO G a2 N f :: tl) := hD
  have hiJx4a65c := (show ∀ w ∈ u_ws RJx4a65c TJx4a65c 3, w ∈ wsJx4a65c_add_72be8 by decide +kernel)
  have lf48 := hts (.fieldLink RJx4a65c 48 "java/util/ArrayList" "size" "I") (by decide +kernel)
  refine lv_iload_n hx hb dJx4a65c_add_72be8_0 rfl (lv_at hl 3 rfl) ?_
  refine lv_aload_n hx hb dJx4a65c_add_72be8_1 rfl (lv_at hl 2 rfl) ?_
  refine va_alen hx hb hK.1 hP 1 3 rfl rfl (v := (nI N)) rfl dJx4a65c_add_72be8_2 ?_
  refine lv_icmp_ne (tgt := 11) hx hb dJx4a65c_add_72be8_3 (by decide) (fun c3_1 => ?_) (fun c3_1 => ?_)
  · have c3_1 : ¬ (((n : Nat) : Int) = ((N : Nat) : Int)) := mt (ti_eq (x := x3) (y := (nI N)) (a := ((n : Nat) : Int)) (b := ((N : Nat) : Int)) hx3 (ti_nI (k := N) (by omega))).mpr c3_1
    refine lv_aload_n hx hb dJx4a65c_add_72be8_11 rfl (lv_at hl 2 rfl) ?_
    refine lv_iload_n hx hb dJx4a65c_add_72be8_12 rfl (lv_at hl 3 rfl) ?_
    refine lv_aload_n hx hb dJx4a65c_add_72be8_13 rfl (lv_at hl 1 rfl) ?_
    refine va_astqM hx hb hK.1 hP hD hS 1 3 (f := f) rfl rfl (ord_any hK hP (j := jv + 2) hv) (i := x3) (vp_inI (k := n) hx3 (by omega)) dJx4a65c_add_72be8_14 (fun H locs hP hD hS => ?_)
    rw [ix_I hx3] at hP hD
    have hP : va_P G.1 vwCl ((h, .inr (0, [.int md, .ref a2, .int (nI n)])) :: aO G a2 N (va_up f n (some v)) :: tl) H := hP
    have hD : va_D A ((h, .inr (0, [.int md, .ref a2, .int (nI n)])) :: aO G a2 N (va_up f n (some v)) :: tl) := hD
    refine lv_aload_n hx hb dJx4a65c_add_72be8_15 rfl (lv_at hl 0 rfl) ?_
    refine lv_iload_n hx hb dJx4a65c_add_72be8_16 rfl (lv_at hl 3 rfl) ?_
    refine lv_iconst (v := 1) hx hb dJx4a65c_add_72be8_17 (by decide) ?_
    refine lv_iadd hx hb dJx4a65c_add_72be8_18 ?_
    refine lv_topi (fun y18_2 e18_2 => ?_)
    have v18_2 : (y18_2).toInt = (((n + 1) : Nat) : Int) := by rw [e18_2]; exact (ti_add (a := ((n : Nat) : Int)) (b := 1) hx3 rfl (by omega) (by omega)).trans (by omega)
    refine va_put (D := G.1) (ci := 0) (v := .int y18_2) (ty := .int) (own := RJx4a65c) (C := RJx4a65c) (T := TJx4a65c) (N := 3) hx hb hts hiJx4a65c tyJx4a65c tyJx4a65c_ok nmJx4a65c hown hK.1 hP hD hS 0 rfl rfl 2 (by decide) lf48 (fun _ h9 => h9) rfl (by decide +kernel) rfl rfl (Nat.le_of_ble_eq_true rfl) dJx4a65c_add_72be8_19 (fun H locs hP hD hS => ?_)
    have hP : va_P G.1 vwCl ((h, .inr (0, [.int md, .ref a2, .int y18_2])) :: aO G a2 N (va_up f n (some v)) :: tl) H := hP
    have hD : va_D A ((h, .inr (0, [.int md, .ref a2, .int y18_2])) :: aO G a2 N (va_up f n (some v)) :: tl) := hD
    obtain rfl : y18_2 = nI (n + 1) := nI_ofI (v18_2.trans (by omega))
    exact hret _ _ _ _ _ _ (a2, N, (va_up f n (some v))) dJx4a65c_add_72be8_22 ⟨(show n + 1 ≤ N by omega), hN, va_up_self _ _ _, fun i hi => (va_up_ne _ _ (Nat.ne_of_lt hi)).trans rfl⟩ hP hD hS (Nat.le_of_ble_eq_true rfl) (Nat.le_of_ble_eq_true rfl)
  · have c3_1 : ((n : Nat) : Int) = ((N : Nat) : Int) := (ti_eq (x := x3) (y := (nI N)) (a := ((n : Nat) : Int)) (b := ((N : Nat) : Int)) hx3 (ti_nI (k := N) (by omega))).mp c3_1
    exfalso; omega

set_option maxHeartbeats 4000000 in
set_option maxRecDepth 100000 in
/-- add: full -/
theorem c_Jx4a65c_add_72be8_g (l : Launch) (G : GG) (h v : Nat) (md x3 : Int32) (a2 n : Nat) (f : Nat → Option Nat) (hn0 : 0 < n) (hn : n ≤ 200) (hx3 : (x3).toInt = ((n : Nat) : Int)) (tl : va_W) (ht : ∀ i, i < n → ∃ (y j : Nat) (fs : List Value), f i = some y ∧ tl[j]? = some (y, .inr (1, fs))) (jv : Nat) (fs : List Value) (hv : tl[jv]? = some (v, .inr (1, fs))) : WrV l yJx4a65c_add_72be8 wsJx4a65c_add_72be8 (rmX 5 210 1 400) G [.ref h, .ref v, .ref a2, .int x3] ((h, .inr (0, [.int md, .ref a2, .int (nI n)])) :: aO G a2 n f :: tl) (fun u : (Nat × Nat × (Nat → Option Nat)) => n + 1 ≤ u.2.1 ∧ u.2.1 ≤ 400 ∧ u.2.2 n = some v ∧ ∀ i, i < n → u.2.2 i = f i) (fun u : (Nat × Nat × (Nat → Option Nat)) => (h, .inr (0, [.int md, .ref u.1, .int (nI (n + 1))])) :: aO G u.1 u.2.1 u.2.2 :: tl) 1 400 := by
  refine wr_of_v (cc := cJx4a65c_add_72be8) (maxL := 4) (by decide +kernel) rfl (Nat.le_of_ble_eq_true rfl) ?_
  intro p e s m args below meth c Q A hx hb hml hown hts hK hZ hA hin hret ls hl hP hD hS
  have hown : s.vm.findClass RJx4a65c = some m.cls := hown
  have hl : lv_has ls 4 [(0, .ref h), (1, .ref v), (2, .ref a2), (3, .int x3)] := hl
  have hP : va_P G.1 vwCl ((h, .inr (0, [.int md, .ref a2, .int (nI n)])) :: aO G a2 n f :: tl) s.heap := hP
  have hD : va_D A ((h, .inr (0, [.int md, .ref a2, .int (nI n)])) :: aO G a2 n f :: tl) := hD
  have cw129 := cwV (R := (rmX 5 210 1 400)) (s := s) (args := args) (rm := (rmX 4 180 1 400)) (mc := 1) (ms := 400) 0 hts gJx4a65c_add_72be8_Jx4a65c_grow_d5877 rfl rfl rfl (by decide +kernel) ⟨Nat.le_of_ble_eq_true rfl, Nat.le_of_ble_eq_true rfl⟩
  have hiJx4a65c := (show ∀ w ∈ u_ws RJx4a65c TJx4a65c 3, w ∈ wsJx4a65c_add_72be8 by decide +kernel)
  have lf48 := hts (.fieldLink RJx4a65c 48 "java/util/ArrayList" "size" "I") (by decide +kernel)
  refine lv_iload_n hx hb dJx4a65c_add_72be8_0 rfl (lv_at hl 3 rfl) ?_
  refine lv_aload_n hx hb dJx4a65c_add_72be8_1 rfl (lv_at hl 2 rfl) ?_
  refine va_alen hx hb hK.1 hP 1 3 rfl rfl (v := (nI n)) rfl dJx4a65c_add_72be8_2 ?_
  refine lv_icmp_ne (tgt := 11) hx hb dJx4a65c_add_72be8_3 (by decide) (fun c3_1 => ?_) (fun c3_1 => ?_)
  · have c3_1 : ¬ (((n : Nat) : Int) = ((n : Nat) : Int)) := mt (ti_eq (x := x3) (y := (nI n)) (a := ((n : Nat) : Int)) (b := ((n : Nat) : Int)) hx3 (ti_nI (k := n) (by omega))).mpr c3_1
    exfalso; omega
  · have c3_1 : ((n : Nat) : Int) = ((n : Nat) : Int) := (ti_eq (x := x3) (y := (nI n)) (a := ((n : Nat) : Int)) (b := ((n : Nat) : Int)) hx3 (ti_nI (k := n) (by omega))).mp c3_1
    refine lv_aload_n hx hb dJx4a65c_add_72be8_6 rfl (lv_at hl 0 rfl) ?_
    refine wrV_r (wr := []) (b := h) (As := []) (rest := []) ⟨hx, hb, hml, hown, hts⟩ (c_Jx4a65c_grow_d5877_n l G h md a2 n f hn0 hn tl ht) cw129 hK hZ hP hD hS hA 0 rfl rfl rfl rfl hl.1 rfl (Nat.le_of_ble_eq_true rfl) dJx4a65c_add_72be8_7 ⟨(Nat.le_of_ble_eq_true rfl), (Nat.le_of_ble_eq_true rfl)⟩ (fun u H locs wu hP hD hS => ?_)
    have hP : va_P G.1 vwCl ((h, .inr (0, [.int md, .ref u.1, .int (nI n)])) :: aO G u.1 u.2.1 u.2.2 :: tl) H := hP
    have hD : va_D A ((h, .inr (0, [.int md, .ref u.1, .int (nI n)])) :: aO G u.1 u.2.1 u.2.2 :: tl) := hD
    refine lv_astore_n (lv' := [(2, .ref u.1), (0, .ref h), (1, .ref v), (3, .int x3)]) hx hb dJx4a65c_add_72be8_10 rfl hl (by decide) rfl (fun ls hl => ?_)
    refine lv_aload_n hx hb dJx4a65c_add_72be8_11 rfl (lv_at hl 0 rfl) ?_
    refine lv_iload_n hx hb dJx4a65c_add_72be8_12 rfl (lv_at hl 3 rfl) ?_
    refine lv_aload_n hx hb dJx4a65c_add_72be8_13 rfl (lv_at hl 2 rfl) ?_
    obtain ⟨wu1, wu2, wu3⟩ := wu
    refine va_astqM hx hb hK.1 hP hD hS 1 3 (f := u.2.2) rfl rfl (ord_any hK hP (j := jv + 2) hv) (i := x3) (vp_inI (k := n) hx3 (by omega)) dJx4a65c_add_72be8_14 (fun H locs hP hD hS => ?_)
    rw [ix_I hx3] at hP hD
    have hP : va_P G.1 vwCl ((h, .inr (0, [.int md, .ref u.1, .int (nI n)])) :: aO G u.1 u.2.1 (va_up u.2.2 n (some v)) :: tl) H := hP
    have hD : va_D A ((h, .inr (0, [.int md, .ref u.1, .int (nI n)])) :: aO G u.1 u.2.1 (va_up u.2.2 n (some v)) :: tl) := hD
    refine lv_aload_n hx hb dJx4a65c_add_72be8_15 rfl (lv_at hl 1 rfl) ?_
    refine lv_iload_n hx hb dJx4a65c_add_72be8_16 rfl (lv_at hl 3 rfl) ?_
    refine lv_iconst (v := 1) hx hb dJx4a65c_add_72be8_17 (by decide) ?_
    refine lv_iadd hx hb dJx4a65c_add_72be8_18 ?_
    refine lv_topi (fun y18_2 e18_2 => ?_)
    have v18_2 : (y18_2).toInt = (((n + 1) : Nat) : Int) := by rw [e18_2]; exact (ti_add (a := ((n : Nat) : Int)) (b := 1) hx3 rfl (by omega) (by omega)).trans (by omega)
    refine va_put (D := G.1) (ci := 0) (v := .int y18_2) (ty := .int) (own := RJx4a65c) (C := RJx4a65c) (T := TJx4a65c) (N := 3) hx hb hts hiJx4a65c tyJx4a65c tyJx4a65c_ok nmJx4a65c hown hK.1 hP hD hS 0 rfl rfl 2 (by decide) lf48 (fun _ h9 => h9) rfl (by decide +kernel) rfl rfl (Nat.le_of_ble_eq_true rfl) dJx4a65c_add_72be8_19 (fun H locs hP hD hS => ?_)
    have hP : va_P G.1 vwCl ((h, .inr (0, [.int md, .ref u.1, .int y18_2])) :: aO G u.1 u.2.1 (va_up u.2.2 n (some v)) :: tl) H := hP
    have hD : va_D A ((h, .inr (0, [.int md, .ref u.1, .int y18_2])) :: aO G u.1 u.2.1 (va_up u.2.2 n (some v)) :: tl) := hD
    obtain rfl : y18_2 = nI (n + 1) := nI_ofI (v18_2.trans (by omega))
    exact hret _ _ _ _ _ _ (u.1, u.2.1, (va_up u.2.2 n (some v))) dJx4a65c_add_72be8_22 ⟨wu1, wu2, va_up_self _ _ _, fun i hi => (va_up_ne _ _ (Nat.ne_of_lt hi)).trans (wu3 i hi)⟩ hP hD hS (Nat.le_of_ble_eq_true rfl) (Nat.le_of_ble_eq_true rfl)

set_option maxHeartbeats 4000000 in
set_option maxRecDepth 100000 in
/-- add: the first -/
theorem c_Jx4a65c_add_72be8_0 (l : Launch) (G : GG) (h v : Nat) (md x3 : Int32) (hx3 : (x3).toInt = ((0 : Nat) : Int)) (tl : va_W) (jv : Nat) (fs : List Value) (hv : tl[jv]? = some (v, .inr (1, fs))) : WrV l yJx4a65c_add_72be8 wsJx4a65c_add_72be8 (rmX 5 210 1 400) G [.ref h, .ref v, .ref (gS G), .int x3] ((h, .inr (0, [.int md, .ref (gS G), .int 0])) :: tl) (fun u : (Nat × Nat × (Nat → Option Nat)) => 1 ≤ u.2.1 ∧ u.2.1 ≤ 400 ∧ u.2.2 0 = some v) (fun u : (Nat × Nat × (Nat → Option Nat)) => (h, .inr (0, [.int md, .ref u.1, .int (nI (0 + 1))])) :: aO G u.1 u.2.1 u.2.2 :: tl) 1 400 := by
  refine wr_of_v (cc := cJx4a65c_add_72be8) (maxL := 4) (by decide +kernel) rfl (Nat.le_of_ble_eq_true rfl) ?_
  intro p e s m args below meth c Q A hx hb hml hown hts hK hZ hA hin hret ls hl hP hD hS
  have hown : s.vm.findClass RJx4a65c = some m.cls := hown
  have hl : lv_has ls 4 [(0, .ref h), (1, .ref v), (2, .ref (gS G)), (3, .int x3)] := hl
  have hP : va_P G.1 vwCl ((h, .inr (0, [.int md, .ref (gS G), .int 0])) :: tl) s.heap := hP
  have hD : va_D A ((h, .inr (0, [.int md, .ref (gS G), .int 0])) :: tl) := hD
  have cw129 := cwV (R := (rmX 5 210 1 400)) (s := s) (args := args) (rm := (rmX 4 180 1 400)) (mc := 1) (ms := 400) 0 hts gJx4a65c_add_72be8_Jx4a65c_grow_d5877 rfl rfl rfl (by decide +kernel) ⟨Nat.le_of_ble_eq_true rfl, Nat.le_of_ble_eq_true rfl⟩
  have hiJx4a65c := (show ∀ w ∈ u_ws RJx4a65c TJx4a65c 3, w ∈ wsJx4a65c_add_72be8 by decide +kernel)
  have lf48 := hts (.fieldLink RJx4a65c 48 "java/util/ArrayList" "size" "I") (by decide +kernel)
  refine lv_iload_n hx hb dJx4a65c_add_72be8_0 rfl (lv_at hl 3 rfl) ?_
  refine lv_aload_n hx hb dJx4a65c_add_72be8_1 rfl (lv_at hl 2 rfl) ?_
  refine va_tlen hx hb hZ.2 hS (v := 0) rfl dJx4a65c_add_72be8_2 ?_
  refine lv_icmp_ne (tgt := 11) hx hb dJx4a65c_add_72be8_3 (by decide) (fun c3_1 => ?_) (fun c3_1 => ?_)
  · have c3_1 : ¬ (((0 : Nat) : Int) = 0) := mt (ti_eq (x := x3) (y := 0) (a := ((0 : Nat) : Int)) (b := 0) hx3 rfl).mpr c3_1
    exfalso; omega
  · have c3_1 : ((0 : Nat) : Int) = 0 := (ti_eq (x := x3) (y := 0) (a := ((0 : Nat) : Int)) (b := 0) hx3 rfl).mp c3_1
    refine lv_aload_n hx hb dJx4a65c_add_72be8_6 rfl (lv_at hl 0 rfl) ?_
    refine wrV_r (wr := []) (b := h) (As := []) (rest := []) ⟨hx, hb, hml, hown, hts⟩ (c_Jx4a65c_grow_d5877_0 l G h md tl) cw129 hK hZ hP hD hS hA 0 rfl rfl rfl rfl hl.1 rfl (Nat.le_of_ble_eq_true rfl) dJx4a65c_add_72be8_7 ⟨(Nat.le_of_ble_eq_true rfl), (Nat.le_of_ble_eq_true rfl)⟩ (fun u H locs wu hP hD hS => ?_)
    have hP : va_P G.1 vwCl ((h, .inr (0, [.int md, .ref u.1, .int 0])) :: aO G u.1 u.2.1 u.2.2 :: tl) H := hP
    have hD : va_D A ((h, .inr (0, [.int md, .ref u.1, .int 0])) :: aO G u.1 u.2.1 u.2.2 :: tl) := hD
    refine lv_astore_n (lv' := [(2, .ref u.1), (0, .ref h), (1, .ref v), (3, .int x3)]) hx hb dJx4a65c_add_72be8_10 rfl hl (by decide) rfl (fun ls hl => ?_)
    refine lv_aload_n hx hb dJx4a65c_add_72be8_11 rfl (lv_at hl 0 rfl) ?_
    refine lv_iload_n hx hb dJx4a65c_add_72be8_12 rfl (lv_at hl 3 rfl) ?_
    refine lv_aload_n hx hb dJx4a65c_add_72be8_13 rfl (lv_at hl 2 rfl) ?_
    obtain ⟨wu1, wu2⟩ := wu
    refine va_astqM hx hb hK.1 hP hD hS 1 3 (f := u.2.2) rfl rfl (ord_any hK hP (j := jv + 2) hv) (i := x3) (vp_inI (k := 0) hx3 (by omega)) dJx4a65c_add_72be8_14 (fun H locs hP hD hS => ?_)
    rw [ix_I hx3] at hP hD
    have hP : va_P G.1 vwCl ((h, .inr (0, [.int md, .ref u.1, .int 0])) :: aO G u.1 u.2.1 (va_up u.2.2 0 (some v)) :: tl) H := hP
    have hD : va_D A ((h, .inr (0, [.int md, .ref u.1, .int 0])) :: aO G u.1 u.2.1 (va_up u.2.2 0 (some v)) :: tl) := hD
    refine lv_aload_n hx hb dJx4a65c_add_72be8_15 rfl (lv_at hl 1 rfl) ?_
    refine lv_iload_n hx hb dJx4a65c_add_72be8_16 rfl (lv_at hl 3 rfl) ?_
    refine lv_iconst (v := 1) hx hb dJx4a65c_add_72be8_17 (by decide) ?_
    refine lv_iadd hx hb dJx4a65c_add_72be8_18 ?_
    refine lv_topi (fun y18_2 e18_2 => ?_)
    have v18_2 : (y18_2).toInt = (((0 + 1) : Nat) : Int) := by rw [e18_2]; exact (ti_add (a := ((0 : Nat) : Int)) (b := 1) hx3 rfl (by omega) (by omega)).trans (by omega)
    refine va_put (D := G.1) (ci := 0) (v := .int y18_2) (ty := .int) (own := RJx4a65c) (C := RJx4a65c) (T := TJx4a65c) (N := 3) hx hb hts hiJx4a65c tyJx4a65c tyJx4a65c_ok nmJx4a65c hown hK.1 hP hD hS 0 rfl rfl 2 (by decide) lf48 (fun _ h9 => h9) rfl (by decide +kernel) rfl rfl (Nat.le_of_ble_eq_true rfl) dJx4a65c_add_72be8_19 (fun H locs hP hD hS => ?_)
    have hP : va_P G.1 vwCl ((h, .inr (0, [.int md, .ref u.1, .int y18_2])) :: aO G u.1 u.2.1 (va_up u.2.2 0 (some v)) :: tl) H := hP
    have hD : va_D A ((h, .inr (0, [.int md, .ref u.1, .int y18_2])) :: aO G u.1 u.2.1 (va_up u.2.2 0 (some v)) :: tl) := hD
    obtain rfl : y18_2 = nI (0 + 1) := nI_ofI (v18_2.trans (by omega))
    exact hret _ _ _ _ _ _ (u.1, u.2.1, (va_up u.2.2 0 (some v))) dJx4a65c_add_72be8_22 ⟨wu1, wu2, va_up_self u.2.2 0 (some v)⟩ hP hD hS (Nat.le_of_ble_eq_true rfl) (Nat.le_of_ble_eq_true rfl)

set_option maxHeartbeats 4000000 in
set_option maxRecDepth 100000 in
/-- ArrayList.add -/
theorem c_Jx4a65c_add_9ea2d_s (l : Launch) (G : GG) (h v : Nat) (md : Int32) (a2 n N : Nat) (f : Nat → Option Nat) (hn0 : 0 < n) (hnN : n < N) (hN : N ≤ 400) (hn : n ≤ 200) (tl : va_W) (jv : Nat) (fs : List Value) (hv : tl[jv]? = some (v, .inr (1, fs))) : WrI l yJx4a65c_add_9ea2d wsJx4a65c_add_9ea2d (rmX 6 240 1 400) G [.ref h, .ref v] ((h, .inr (0, [.int md, .ref a2, .int (nI n)])) :: aO G a2 N f :: tl) (fun (r : Int32) (u : (Int32 × Nat × Nat × (Nat → Option Nat))) => n + 1 ≤ u.2.2.1 ∧ u.2.2.1 ≤ 400 ∧ u.2.2.2 n = some v ∧ ∀ i, i < n → u.2.2.2 i = f i) (fun u : (Int32 × Nat × Nat × (Nat → Option Nat)) => (h, .inr (0, [.int u.1, .ref u.2.1, .int (nI (n + 1))])) :: aO G u.2.1 u.2.2.1 u.2.2.2 :: tl) 1 400 := by
  refine wr_of_i (cc := cJx4a65c_add_9ea2d) (maxL := 2) (t := .boolean) (by decide +kernel) rfl (Nat.le_of_ble_eq_true rfl) nar_bool ?_
  intro p e s m args below meth c Q A hx hb hml hown hts hK hZ hA hret ls hl hP hD hS
  have hown : s.vm.findClass RJx4a65c = some m.cls := hown
  have hl : lv_has ls 2 [(0, .ref h), (1, .ref v)] := hl
  have hP : va_P G.1 vwCl ((h, .inr (0, [.int md, .ref a2, .int (nI n)])) :: aO G a2 N f :: tl) s.heap := hP
  have hD : va_D A ((h, .inr (0, [.int md, .ref a2, .int (nI n)])) :: aO G a2 N f :: tl) := hD
  have sf63 := hts (.sameField "java/util/ArrayList" "java/util/AbstractList" "modCount" "I") (by decide +kernel)
  have hiJx4a65c := (show ∀ w ∈ u_ws RJx4a65c TJx4a65c 3, w ∈ wsJx4a65c_add_9ea2d by decide +kernel)
  have lf63 := hts (.fieldLink RJx4a65c 63 "java/util/ArrayList" "modCount" "I") (by decide +kernel)
  have lf9 := hts (.fieldLink RJx4a65c 9 "java/util/ArrayList" "elementData" "[Ljava/lang/Object;") (by decide +kernel)
  have lf48 := hts (.fieldLink RJx4a65c 48 "java/util/ArrayList" "size" "I") (by decide +kernel)
  have cw131 := cwV (R := (rmX 6 240 1 400)) (s := s) (args := args) (rm := (rmX 5 210 1 400)) (mc := 1) (ms := 400) 3 hts gJx4a65c_add_9ea2d_Jx4a65c_add_72be8 rfl rfl rfl (by decide +kernel) ⟨Nat.le_of_ble_eq_true rfl, Nat.le_of_ble_eq_true rfl⟩
  refine lv_aload_n hx hb dJx4a65c_add_9ea2d_0 rfl (lv_at hl 0 rfl) ?_
  refine lv_dup hx hb dJx4a65c_add_9ea2d_1 rfl ?_
  refine va_get (D := G.1) (ci := 0) (v := .int md) (own := RJx4a65c) (C := RJx4a65c) (T := TJx4a65c) (N := 3) hx hb hts hiJx4a65c hown hK.1 hP 0 rfl rfl 0 (by decide) lf63 (u_same sf63) rfl dJx4a65c_add_9ea2d_2 ?_
  refine lv_iconst (v := 1) hx hb dJx4a65c_add_9ea2d_5 (by decide) ?_
  refine lv_iadd hx hb dJx4a65c_add_9ea2d_6 ?_
  refine lv_topi (fun ymd eymd => ?_)
  refine va_put (D := G.1) (ci := 0) (v := .int ymd) (ty := .int) (own := RJx4a65c) (C := RJx4a65c) (T := TJx4a65c) (N := 3) hx hb hts hiJx4a65c tyJx4a65c tyJx4a65c_ok nmJx4a65c hown hK.1 hP hD hS 0 rfl rfl 0 (by decide) lf63 (u_same sf63) rfl (by decide +kernel) rfl rfl (Nat.le_of_ble_eq_true rfl) dJx4a65c_add_9ea2d_7 (fun H locs hP hD hS => ?_)
  have hP : va_P G.1 vwCl ((h, .inr (0, [.int ymd, .ref a2, .int (nI n)])) :: aO G a2 N f :: tl) H := hP
  have hD : va_D A ((h, .inr (0, [.int ymd, .ref a2, .int (nI n)])) :: aO G a2 N f :: tl) := hD
  refine lv_aload_n hx hb dJx4a65c_add_9ea2d_10 rfl (lv_at hl 0 rfl) ?_
  refine lv_aload_n hx hb dJx4a65c_add_9ea2d_11 rfl (lv_at hl 1 rfl) ?_
  refine lv_aload_n hx hb dJx4a65c_add_9ea2d_12 rfl (lv_at hl 0 rfl) ?_
  refine va_get (D := G.1) (ci := 0) (v := .ref a2) (own := RJx4a65c) (C := RJx4a65c) (T := TJx4a65c) (N := 3) hx hb hts hiJx4a65c hown hK.1 hP 0 rfl rfl 1 (by decide) lf9 (fun _ h9 => h9) rfl dJx4a65c_add_9ea2d_13 ?_
  refine lv_aload_n hx hb dJx4a65c_add_9ea2d_16 rfl (lv_at hl 0 rfl) ?_
  refine va_get (D := G.1) (ci := 0) (v := .int (nI n)) (own := RJx4a65c) (C := RJx4a65c) (T := TJx4a65c) (N := 3) hx hb hts hiJx4a65c hown hK.1 hP 0 rfl rfl 2 (by decide) lf48 (fun _ h9 => h9) rfl dJx4a65c_add_9ea2d_17 ?_
  refine wrV_v (wr := []) (b := h) (As := [.ref v, .ref a2, .int (nI n)]) (rest := []) ⟨hx, hb, hml, hown, hts⟩ (c_Jx4a65c_add_72be8_s l G h v ymd (nI n) a2 n N f hn0 hnN hN hn (ti_nI (by omega)) tl jv fs hv) cw131 hK hZ hP hD hS hA 0 rfl rfl rfl rfl hl.1 rfl (Nat.le_of_ble_eq_true rfl) dJx4a65c_add_9ea2d_20 ⟨(Nat.le_of_ble_eq_true rfl), (Nat.le_of_ble_eq_true rfl)⟩ (fun u H locs wu hP hD hS => ?_)
  have hP : va_P G.1 vwCl ((h, .inr (0, [.int ymd, .ref u.1, .int (nI (n + 1))])) :: aO G u.1 u.2.1 u.2.2 :: tl) H := hP
  have hD : va_D A ((h, .inr (0, [.int ymd, .ref u.1, .int (nI (n + 1))])) :: aO G u.1 u.2.1 u.2.2 :: tl) := hD
  refine lv_iconst (v := 1) hx hb dJx4a65c_add_9ea2d_23 (by decide) ?_
  exact hret _ _ _ _ _ _ _ (ymd, u) dJx4a65c_add_9ea2d_24 (Or.inr (Or.inl rfl)) wu hP hD hS (Nat.le_of_ble_eq_true rfl) (Nat.le_of_ble_eq_true rfl)

set_option maxHeartbeats 4000000 in
set_option maxRecDepth 100000 in
/-- ArrayList.add -/
theorem c_Jx4a65c_add_9ea2d_g (l : Launch) (G : GG) (h v : Nat) (md : Int32) (a2 n : Nat) (f : Nat → Option Nat) (hn0 : 0 < n) (hn : n ≤ 200) (tl : va_W) (ht : ∀ i, i < n → ∃ (y j : Nat) (fs : List Value), f i = some y ∧ tl[j]? = some (y, .inr (1, fs))) (jv : Nat) (fs : List Value) (hv : tl[jv]? = some (v, .inr (1, fs))) : WrI l yJx4a65c_add_9ea2d wsJx4a65c_add_9ea2d (rmX 6 240 1 400) G [.ref h, .ref v] ((h, .inr (0, [.int md, .ref a2, .int (nI n)])) :: aO G a2 n f :: tl) (fun (r : Int32) (u : (Int32 × Nat × Nat × (Nat → Option Nat))) => n + 1 ≤ u.2.2.1 ∧ u.2.2.1 ≤ 400 ∧ u.2.2.2 n = some v ∧ ∀ i, i < n → u.2.2.2 i = f i) (fun u : (Int32 × Nat × Nat × (Nat → Option Nat)) => (h, .inr (0, [.int u.1, .ref u.2.1, .int (nI (n + 1))])) :: aO G u.2.1 u.2.2.1 u.2.2.2 :: tl) 1 400 := by
  refine wr_of_i (cc := cJx4a65c_add_9ea2d) (maxL := 2) (t := .boolean) (by decide +kernel) rfl (Nat.le_of_ble_eq_true rfl) nar_bool ?_
  intro p e s m args below meth c Q A hx hb hml hown hts hK hZ hA hret ls hl hP hD hS
  have hown : s.vm.findClass RJx4a65c = some m.cls := hown
  have hl : lv_has ls 2 [(0, .ref h), (1, .ref v)] := hl
  have hP : va_P G.1 vwCl ((h, .inr (0, [.int md, .ref a2, .int (nI n)])) :: aO G a2 n f :: tl) s.heap := hP
  have hD : va_D A ((h, .inr (0, [.int md, .ref a2, .int (nI n)])) :: aO G a2 n f :: tl) := hD
  have sf63 := hts (.sameField "java/util/ArrayList" "java/util/AbstractList" "modCount" "I") (by decide +kernel)
  have hiJx4a65c := (show ∀ w ∈ u_ws RJx4a65c TJx4a65c 3, w ∈ wsJx4a65c_add_9ea2d by decide +kernel)
  have lf63 := hts (.fieldLink RJx4a65c 63 "java/util/ArrayList" "modCount" "I") (by decide +kernel)
  have lf9 := hts (.fieldLink RJx4a65c 9 "java/util/ArrayList" "elementData" "[Ljava/lang/Object;") (by decide +kernel)
  have lf48 := hts (.fieldLink RJx4a65c 48 "java/util/ArrayList" "size" "I") (by decide +kernel)
  have cw131 := cwV (R := (rmX 6 240 1 400)) (s := s) (args := args) (rm := (rmX 5 210 1 400)) (mc := 1) (ms := 400) 3 hts gJx4a65c_add_9ea2d_Jx4a65c_add_72be8 rfl rfl rfl (by decide +kernel) ⟨Nat.le_of_ble_eq_true rfl, Nat.le_of_ble_eq_true rfl⟩
  refine lv_aload_n hx hb dJx4a65c_add_9ea2d_0 rfl (lv_at hl 0 rfl) ?_
  refine lv_dup hx hb dJx4a65c_add_9ea2d_1 rfl ?_
  refine va_get (D := G.1) (ci := 0) (v := .int md) (own := RJx4a65c) (C := RJx4a65c) (T := TJx4a65c) (N := 3) hx hb hts hiJx4a65c hown hK.1 hP 0 rfl rfl 0 (by decide) lf63 (u_same sf63) rfl dJx4a65c_add_9ea2d_2 ?_
  refine lv_iconst (v := 1) hx hb dJx4a65c_add_9ea2d_5 (by decide) ?_
  refine lv_iadd hx hb dJx4a65c_add_9ea2d_6 ?_
  refine lv_topi (fun ymd eymd => ?_)
  refine va_put (D := G.1) (ci := 0) (v := .int ymd) (ty := .int) (own := RJx4a65c) (C := RJx4a65c) (T := TJx4a65c) (N := 3) hx hb hts hiJx4a65c tyJx4a65c tyJx4a65c_ok nmJx4a65c hown hK.1 hP hD hS 0 rfl rfl 0 (by decide) lf63 (u_same sf63) rfl (by decide +kernel) rfl rfl (Nat.le_of_ble_eq_true rfl) dJx4a65c_add_9ea2d_7 (fun H locs hP hD hS => ?_)
  have hP : va_P G.1 vwCl ((h, .inr (0, [.int ymd, .ref a2, .int (nI n)])) :: aO G a2 n f :: tl) H := hP
  have hD : va_D A ((h, .inr (0, [.int ymd, .ref a2, .int (nI n)])) :: aO G a2 n f :: tl) := hD
  refine lv_aload_n hx hb dJx4a65c_add_9ea2d_10 rfl (lv_at hl 0 rfl) ?_
  refine lv_aload_n hx hb dJx4a65c_add_9ea2d_11 rfl (lv_at hl 1 rfl) ?_
  refine lv_aload_n hx hb dJx4a65c_add_9ea2d_12 rfl (lv_at hl 0 rfl) ?_
  refine va_get (D := G.1) (ci := 0) (v := .ref a2) (own := RJx4a65c) (C := RJx4a65c) (T := TJx4a65c) (N := 3) hx hb hts hiJx4a65c hown hK.1 hP 0 rfl rfl 1 (by decide) lf9 (fun _ h9 => h9) rfl dJx4a65c_add_9ea2d_13 ?_
  refine lv_aload_n hx hb dJx4a65c_add_9ea2d_16 rfl (lv_at hl 0 rfl) ?_
  refine va_get (D := G.1) (ci := 0) (v := .int (nI n)) (own := RJx4a65c) (C := RJx4a65c) (T := TJx4a65c) (N := 3) hx hb hts hiJx4a65c hown hK.1 hP 0 rfl rfl 2 (by decide) lf48 (fun _ h9 => h9) rfl dJx4a65c_add_9ea2d_17 ?_
  refine wrV_v (wr := []) (b := h) (As := [.ref v, .ref a2, .int (nI n)]) (rest := []) ⟨hx, hb, hml, hown, hts⟩ (c_Jx4a65c_add_72be8_g l G h v ymd (nI n) a2 n f hn0 hn (ti_nI (by omega)) tl ht jv fs hv) cw131 hK hZ hP hD hS hA 0 rfl rfl rfl rfl hl.1 rfl (Nat.le_of_ble_eq_true rfl) dJx4a65c_add_9ea2d_20 ⟨(Nat.le_of_ble_eq_true rfl), (Nat.le_of_ble_eq_true rfl)⟩ (fun u H locs wu hP hD hS => ?_)
  have hP : va_P G.1 vwCl ((h, .inr (0, [.int ymd, .ref u.1, .int (nI (n + 1))])) :: aO G u.1 u.2.1 u.2.2 :: tl) H := hP
  have hD : va_D A ((h, .inr (0, [.int ymd, .ref u.1, .int (nI (n + 1))])) :: aO G u.1 u.2.1 u.2.2 :: tl) := hD
  refine lv_iconst (v := 1) hx hb dJx4a65c_add_9ea2d_23 (by decide) ?_
  exact hret _ _ _ _ _ _ _ (ymd, u) dJx4a65c_add_9ea2d_24 (Or.inr (Or.inl rfl)) wu hP hD hS (Nat.le_of_ble_eq_true rfl) (Nat.le_of_ble_eq_true rfl)

set_option maxHeartbeats 4000000 in
set_option maxRecDepth 100000 in
/-- ArrayList.add -/
theorem c_Jx4a65c_add_9ea2d_0 (l : Launch) (G : GG) (h v : Nat) (md : Int32) (tl : va_W) (jv : Nat) (fs : List Value) (hv : tl[jv]? = some (v, .inr (1, fs))) : WrI l yJx4a65c_add_9ea2d wsJx4a65c_add_9ea2d (rmX 6 240 1 400) G [.ref h, .ref v] ((h, .inr (0, [.int md, .ref (gS G), .int 0])) :: tl) (fun (r : Int32) (u : (Int32 × Nat × Nat × (Nat → Option Nat))) => 1 ≤ u.2.2.1 ∧ u.2.2.1 ≤ 400 ∧ u.2.2.2 0 = some v) (fun u : (Int32 × Nat × Nat × (Nat → Option Nat)) => (h, .inr (0, [.int u.1, .ref u.2.1, .int (nI (0 + 1))])) :: aO G u.2.1 u.2.2.1 u.2.2.2 :: tl) 1 400 := by
  refine wr_of_i (cc := cJx4a65c_add_9ea2d) (maxL := 2) (t := .boolean) (by decide +kernel) rfl (Nat.le_of_ble_eq_true rfl) nar_bool ?_
  intro p e s m args below meth c Q A hx hb hml hown hts hK hZ hA hret ls hl hP hD hS
  have hown : s.vm.findClass RJx4a65c = some m.cls := hown
  have hl : lv_has ls 2 [(0, .ref h), (1, .ref v)] := hl
  have hP : va_P G.1 vwCl ((h, .inr (0, [.int md, .ref (gS G), .int 0])) :: tl) s.heap := hP
  have hD : va_D A ((h, .inr (0, [.int md, .ref (gS G), .int 0])) :: tl) := hD
  have sf63 := hts (.sameField "java/util/ArrayList" "java/util/AbstractList" "modCount" "I") (by decide +kernel)
  have hiJx4a65c := (show ∀ w ∈ u_ws RJx4a65c TJx4a65c 3, w ∈ wsJx4a65c_add_9ea2d by decide +kernel)
  have lf63 := hts (.fieldLink RJx4a65c 63 "java/util/ArrayList" "modCount" "I") (by decide +kernel)
  have lf9 := hts (.fieldLink RJx4a65c 9 "java/util/ArrayList" "elementData" "[Ljava/lang/Object;") (by decide +kernel)
  have lf48 := hts (.fieldLink RJx4a65c 48 "java/util/ArrayList" "size" "I") (by decide +kernel)
  have cw131 := cwV (R := (rmX 6 240 1 400)) (s := s) (args := args) (rm := (rmX 5 210 1 400)) (mc := 1) (ms := 400) 3 hts gJx4a65c_add_9ea2d_Jx4a65c_add_72be8 rfl rfl rfl (by decide +kernel) ⟨Nat.le_of_ble_eq_true rfl, Nat.le_of_ble_eq_true rfl⟩
  refine lv_aload_n hx hb dJx4a65c_add_9ea2d_0 rfl (lv_at hl 0 rfl) ?_
  refine lv_dup hx hb dJx4a65c_add_9ea2d_1 rfl ?_
  refine va_get (D := G.1) (ci := 0) (v := .int md) (own := RJx4a65c) (C := RJx4a65c) (T := TJx4a65c) (N := 3) hx hb hts hiJx4a65c hown hK.1 hP 0 rfl rfl 0 (by decide) lf63 (u_same sf63) rfl dJx4a65c_add_9ea2d_2 ?_
  refine lv_iconst (v := 1) hx hb dJx4a65c_add_9ea2d_5 (by decide) ?_
  refine lv_iadd hx hb dJx4a65c_add_9ea2d_6 ?_
  refine lv_topi (fun ymd eymd => ?_)
  refine va_put (D := G.1) (ci := 0) (v := .int ymd) (ty := .int) (own := RJx4a65c) (C := RJx4a65c) (T := TJx4a65c) (N := 3) hx hb hts hiJx4a65c tyJx4a65c tyJx4a65c_ok nmJx4a65c hown hK.1 hP hD hS 0 rfl rfl 0 (by decide) lf63 (u_same sf63) rfl (by decide +kernel) rfl rfl (Nat.le_of_ble_eq_true rfl) dJx4a65c_add_9ea2d_7 (fun H locs hP hD hS => ?_)
  have hP : va_P G.1 vwCl ((h, .inr (0, [.int ymd, .ref (gS G), .int 0])) :: tl) H := hP
  have hD : va_D A ((h, .inr (0, [.int ymd, .ref (gS G), .int 0])) :: tl) := hD
  refine lv_aload_n hx hb dJx4a65c_add_9ea2d_10 rfl (lv_at hl 0 rfl) ?_
  refine lv_aload_n hx hb dJx4a65c_add_9ea2d_11 rfl (lv_at hl 1 rfl) ?_
  refine lv_aload_n hx hb dJx4a65c_add_9ea2d_12 rfl (lv_at hl 0 rfl) ?_
  refine va_get (D := G.1) (ci := 0) (v := .ref (gS G)) (own := RJx4a65c) (C := RJx4a65c) (T := TJx4a65c) (N := 3) hx hb hts hiJx4a65c hown hK.1 hP 0 rfl rfl 1 (by decide) lf9 (fun _ h9 => h9) rfl dJx4a65c_add_9ea2d_13 ?_
  refine lv_aload_n hx hb dJx4a65c_add_9ea2d_16 rfl (lv_at hl 0 rfl) ?_
  refine va_get (D := G.1) (ci := 0) (v := .int 0) (own := RJx4a65c) (C := RJx4a65c) (T := TJx4a65c) (N := 3) hx hb hts hiJx4a65c hown hK.1 hP 0 rfl rfl 2 (by decide) lf48 (fun _ h9 => h9) rfl dJx4a65c_add_9ea2d_17 ?_
  refine wrV_v (wr := []) (b := h) (As := [.ref v, .ref (gS G), .int 0]) (rest := []) ⟨hx, hb, hml, hown, hts⟩ (c_Jx4a65c_add_72be8_0 l G h v ymd 0 rfl tl jv fs hv) cw131 hK hZ hP hD hS hA 0 rfl rfl rfl rfl hl.1 rfl (Nat.le_of_ble_eq_true rfl) dJx4a65c_add_9ea2d_20 ⟨(Nat.le_of_ble_eq_true rfl), (Nat.le_of_ble_eq_true rfl)⟩ (fun u H locs wu hP hD hS => ?_)
  have hP : va_P G.1 vwCl ((h, .inr (0, [.int ymd, .ref u.1, .int (nI (0 + 1))])) :: aO G u.1 u.2.1 u.2.2 :: tl) H := hP
  have hD : va_D A ((h, .inr (0, [.int ymd, .ref u.1, .int (nI (0 + 1))])) :: aO G u.1 u.2.1 u.2.2 :: tl) := hD
  refine lv_iconst (v := 1) hx hb dJx4a65c_add_9ea2d_23 (by decide) ?_
  exact hret _ _ _ _ _ _ _ (ymd, u) dJx4a65c_add_9ea2d_24 (Or.inr (Or.inl rfl)) wu hP hD hS (Nat.le_of_ble_eq_true rfl) (Nat.le_of_ble_eq_true rfl)
end
section
-- ===== laid by wip/whole/gen.py out of the decode rows =====
set_option maxHeartbeats 4000000 in
set_option maxRecDepth 100000 in
/-- Order(..) -/
theorem c_X0_init (l : Launch) (G : GG) (h : Nat) (kd en wh to : Int32) (fr un md : Int64) : WrV l yX0_init wsX0_init (rmX 1 40 0 0) G [.ref h, .int kd, .int en, .int wh, .int to, .long fr, .long un, .long md] [(h, .inr (1, [.int 0, .int 0, .int 0, .int 0, .long 0, .long 0, .long 0, .long 0, .int 0]))] (fun u : Unit => True) (fun u : Unit => [(h, .inr (1, fl (kd, en, wh, to, fr, md, un, 20001, 0)))]) 0 0 := by
  refine wr_of_v (cc := cX0_init) (maxL := 11) (by decide +kernel) rfl (Nat.le_of_ble_eq_true rfl) ?_
  intro p e s m args below meth c Q A hx hb hml hown hts hK hZ hA hin hret ls hl hP hD hS
  have hown : s.vm.findClass RX0 = some m.cls := hown
  have hl : lv_has ls 11 [(0, .ref h), (1, .int kd), (2, .int en), (3, .int wh), (4, .int to), (5, .long fr), (7, .long un), (9, .long md)] := hl
  have hP : va_P G.1 vwCl [(h, .inr (1, [.int 0, .int 0, .int 0, .int 0, .long 0, .long 0, .long 0, .long 0, .int 0]))] s.heap := hP
  have hD : va_D A [(h, .inr (1, [.int 0, .int 0, .int 0, .int 0, .long 0, .long 0, .long 0, .long 0, .int 0]))] := hD
  have hin : meth.name = "<init>" := hin
  have hiX0 := (show ∀ w ∈ u_ws RX0 TX0 9, w ∈ wsX0_init by decide +kernel)
  have lf9 := hts (.fieldLink RX0 9 "OrderRows2$Order" "kind" "I") (by decide +kernel)
  have lf15 := hts (.fieldLink RX0 15 "OrderRows2$Order" "entry" "I") (by decide +kernel)
  have lf18 := hts (.fieldLink RX0 18 "OrderRows2$Order" "who" "I") (by decide +kernel)
  have lf21 := hts (.fieldLink RX0 21 "OrderRows2$Order" "to" "I") (by decide +kernel)
  have lf24 := hts (.fieldLink RX0 24 "OrderRows2$Order" "from" "J") (by decide +kernel)
  have lf28 := hts (.fieldLink RX0 28 "OrderRows2$Order" "until" "J") (by decide +kernel)
  have lf31 := hts (.fieldLink RX0 31 "OrderRows2$Order" "made" "J") (by decide +kernel)
  have kl34 := hts (.constantLong RX0 34 (20001)) (by decide +kernel)
  have lf36 := hts (.fieldLink RX0 36 "OrderRows2$Order" "overFrom" "J") (by decide +kernel)
  have lf39 := hts (.fieldLink RX0 39 "OrderRows2$Order" "isProved" "Z") (by decide +kernel)
  refine lv_aload_n hx hb dX0_init_0 rfl (lv_at hl 0 rfl) ?_
  refine W.objInit hx hb hown (hts (.methodLink RX0 3 objectInit) (by decide +kernel)) (hts (.instanceMethod objectInit) (by decide +kernel)) (hts (.code objectInit ⟨#[0xb1]⟩ 1 none) (by decide +kernel)) rfl (by rw [hml]; exact hl.1) rfl dX0_init_1 (Nat.le_of_ble_eq_true rfl) (Nat.le_of_ble_eq_true rfl) ?_
  refine W.eq (g2 := F0 m 4 ls []) rfl ?_
  refine lv_aload_n hx hb dX0_init_4 rfl (lv_at hl 0 rfl) ?_
  refine lv_iload_n hx hb dX0_init_5 rfl (lv_at hl 1 rfl) ?_
  refine va_putF (D := G.1) (ci := 1) (v := .int kd) (ty := .int) (own := RX0) (C := RX0) (T := TX0) (N := 9) hx hb hts hiX0 tyX0 tyX0_ok nmX0 hown hK.1 hP hD hS 0 rfl rfl 0 (by decide) lf9 (fun _ h9 => h9) rfl hin rfl (by decide +kernel) rfl rfl (Nat.le_of_ble_eq_true rfl) dX0_init_6 (fun H locs hP hD hS => ?_)
  have hP : va_P G.1 vwCl [(h, .inr (1, [.int kd, .int 0, .int 0, .int 0, .long 0, .long 0, .long 0, .long 0, .int 0]))] H := hP
  have hD : va_D A [(h, .inr (1, [.int kd, .int 0, .int 0, .int 0, .long 0, .long 0, .long 0, .long 0, .int 0]))] := hD
  refine lv_aload_n hx hb dX0_init_9 rfl (lv_at hl 0 rfl) ?_
  refine lv_iload_n hx hb dX0_init_10 rfl (lv_at hl 2 rfl) ?_
  refine va_putF (D := G.1) (ci := 1) (v := .int en) (ty := .int) (own := RX0) (C := RX0) (T := TX0) (N := 9) hx hb hts hiX0 tyX0 tyX0_ok nmX0 hown hK.1 hP hD hS 0 rfl rfl 1 (by decide) lf15 (fun _ h9 => h9) rfl hin rfl (by decide +kernel) rfl rfl (Nat.le_of_ble_eq_true rfl) dX0_init_11 (fun H locs hP hD hS => ?_)
  have hP : va_P G.1 vwCl [(h, .inr (1, [.int kd, .int en, .int 0, .int 0, .long 0, .long 0, .long 0, .long 0, .int 0]))] H := hP
  have hD : va_D A [(h, .inr (1, [.int kd, .int en, .int 0, .int 0, .long 0, .long 0, .long 0, .long 0, .int 0]))] := hD
  refine lv_aload_n hx hb dX0_init_14 rfl (lv_at hl 0 rfl) ?_
  refine lv_iload_n hx hb dX0_init_15 rfl (lv_at hl 3 rfl) ?_
  refine va_putF (D := G.1) (ci := 1) (v := .int wh) (ty := .int) (own := RX0) (C := RX0) (T := TX0) (N := 9) hx hb hts hiX0 tyX0 tyX0_ok nmX0 hown hK.1 hP hD hS 0 rfl rfl 2 (by decide) lf18 (fun _ h9 => h9) rfl hin rfl (by decide +kernel) rfl rfl (Nat.le_of_ble_eq_true rfl) dX0_init_16 (fun H locs hP hD hS => ?_)
  have hP : va_P G.1 vwCl [(h, .inr (1, [.int kd, .int en, .int wh, .int 0, .long 0, .long 0, .long 0, .long 0, .int 0]))] H := hP
  have hD : va_D A [(h, .inr (1, [.int kd, .int en, .int wh, .int 0, .long 0, .long 0, .long 0, .long 0, .int 0]))] := hD
  refine lv_aload_n hx hb dX0_init_19 rfl (lv_at hl 0 rfl) ?_
  refine lv_iload hx hb dX0_init_20 (lv_at hl 4 rfl) ?_
  refine va_putF (D := G.1) (ci := 1) (v := .int to) (ty := .int) (own := RX0) (C := RX0) (T := TX0) (N := 9) hx hb hts hiX0 tyX0 tyX0_ok nmX0 hown hK.1 hP hD hS 0 rfl rfl 3 (by decide) lf21 (fun _ h9 => h9) rfl hin rfl (by decide +kernel) rfl rfl (Nat.le_of_ble_eq_true rfl) dX0_init_22 (fun H locs hP hD hS => ?_)
  have hP : va_P G.1 vwCl [(h, .inr (1, [.int kd, .int en, .int wh, .int to, .long 0, .long 0, .long 0, .long 0, .int 0]))] H := hP
  have hD : va_D A [(h, .inr (1, [.int kd, .int en, .int wh, .int to, .long 0, .long 0, .long 0, .long 0, .int 0]))] := hD
  refine lv_aload_n hx hb dX0_init_25 rfl (lv_at hl 0 rfl) ?_
  refine lv_lload hx hb dX0_init_26 (lv_at hl 5 rfl) ?_
  refine va_putF (D := G.1) (ci := 1) (v := .long fr) (ty := .long) (own := RX0) (C := RX0) (T := TX0) (N := 9) hx hb hts hiX0 tyX0 tyX0_ok nmX0 hown hK.1 hP hD hS 0 rfl rfl 4 (by decide) lf24 (fun _ h9 => h9) rfl hin rfl (by decide +kernel) rfl rfl (Nat.le_of_ble_eq_true rfl) dX0_init_28 (fun H locs hP hD hS => ?_)
  have hP : va_P G.1 vwCl [(h, .inr (1, [.int kd, .int en, .int wh, .int to, .long fr, .long 0, .long 0, .long 0, .int 0]))] H := hP
  have hD : va_D A [(h, .inr (1, [.int kd, .int en, .int wh, .int to, .long fr, .long 0, .long 0, .long 0, .int 0]))] := hD
  refine lv_aload_n hx hb dX0_init_31 rfl (lv_at hl 0 rfl) ?_
  refine lv_lload hx hb dX0_init_32 (lv_at hl 6 rfl) ?_
  refine va_put (D := G.1) (ci := 1) (v := .long un) (ty := .long) (own := RX0) (C := RX0) (T := TX0) (N := 9) hx hb hts hiX0 tyX0 tyX0_ok nmX0 hown hK.1 hP hD hS 0 rfl rfl 6 (by decide) lf28 (fun _ h9 => h9) rfl (by decide +kernel) rfl rfl (Nat.le_of_ble_eq_true rfl) dX0_init_34 (fun H locs hP hD hS => ?_)
  have hP : va_P G.1 vwCl [(h, .inr (1, [.int kd, .int en, .int wh, .int to, .long fr, .long 0, .long un, .long 0, .int 0]))] H := hP
  have hD : va_D A [(h, .inr (1, [.int kd, .int en, .int wh, .int to, .long fr, .long 0, .long un, .long 0, .int 0]))] := hD
  refine lv_aload_n hx hb dX0_init_37 rfl (lv_at hl 0 rfl) ?_
  refine lv_lload hx hb dX0_init_38 (lv_at hl 7 rfl) ?_
  refine va_putF (D := G.1) (ci := 1) (v := .long md) (ty := .long) (own := RX0) (C := RX0) (T := TX0) (N := 9) hx hb hts hiX0 tyX0 tyX0_ok nmX0 hown hK.1 hP hD hS 0 rfl rfl 5 (by decide) lf31 (fun _ h9 => h9) rfl hin rfl (by decide +kernel) rfl rfl (Nat.le_of_ble_eq_true rfl) dX0_init_40 (fun H locs hP hD hS => ?_)
  have hP : va_P G.1 vwCl [(h, .inr (1, [.int kd, .int en, .int wh, .int to, .long fr, .long md, .long un, .long 0, .int 0]))] H := hP
  have hD : va_D A [(h, .inr (1, [.int kd, .int en, .int wh, .int to, .long fr, .long md, .long un, .long 0, .int 0]))] := hD
  refine lv_aload_n hx hb dX0_init_43 rfl (lv_at hl 0 rfl) ?_
  refine lv_ldc2 (v := 20001) hx hb hown kl34 dX0_init_44 ?_
  refine va_put (D := G.1) (ci := 1) (v := .long 20001) (ty := .long) (own := RX0) (C := RX0) (T := TX0) (N := 9) hx hb hts hiX0 tyX0 tyX0_ok nmX0 hown hK.1 hP hD hS 0 rfl rfl 7 (by decide) lf36 (fun _ h9 => h9) rfl (by decide +kernel) rfl rfl (Nat.le_of_ble_eq_true rfl) dX0_init_47 (fun H locs hP hD hS => ?_)
  have hP : va_P G.1 vwCl [(h, .inr (1, [.int kd, .int en, .int wh, .int to, .long fr, .long md, .long un, .long 20001, .int 0]))] H := hP
  have hD : va_D A [(h, .inr (1, [.int kd, .int en, .int wh, .int to, .long fr, .long md, .long un, .long 20001, .int 0]))] := hD
  refine lv_aload_n hx hb dX0_init_50 rfl (lv_at hl 0 rfl) ?_
  refine lv_iconst (v := 0) hx hb dX0_init_51 (by decide) ?_
  refine va_put (D := G.1) (ci := 1) (v := .int 0) (ty := .boolean) (own := RX0) (C := RX0) (T := TX0) (N := 9) hx hb hts hiX0 tyX0 tyX0_ok nmX0 hown hK.1 hP hD hS 0 rfl rfl 8 (by decide) lf39 (fun _ h9 => h9) rfl (by decide +kernel) rfl rfl (Nat.le_of_ble_eq_true rfl) dX0_init_52 (fun H locs hP hD hS => ?_)
  have hP : va_P G.1 vwCl [(h, .inr (1, [.int kd, .int en, .int wh, .int to, .long fr, .long md, .long un, .long 20001, .int 0]))] H := hP
  have hD : va_D A [(h, .inr (1, [.int kd, .int en, .int wh, .int to, .long fr, .long md, .long un, .long 20001, .int 0]))] := hD
  exact hret _ _ _ _ _ _ () dX0_init_55 trivial hP hD hS (Nat.le_refl _) (Nat.le_refl _)

set_option maxHeartbeats 4000000 in
set_option maxRecDepth 100000 in
/-- order -/
theorem c_X1_order (l : Launch) (G : GG) (a : AD) (κ : KP) (σ : St) (hI : SI σ) (hC : CI κ σ) (kd en wh to : Int32) (fr un : Int64) : WrI l yX1_order wsX1_order (rmX 7 280 2 409) G [.ref a.1, .int kd, .int en, .int wh, .int to, .long fr, .long un] (WC G a κ σ) (fun (r : Int32) (u : KP) => r = (fOrder σ kd en wh to fr un).1 ∧ CI u (fOrder σ kd en wh to fr un).2) (fun u : KP => WC G a u (fOrder σ kd en wh to fr un).2) 2 409 := by
  refine wr_of_i (cc := cX1_order) (maxL := 10) (t := .int) (by decide +kernel) rfl (Nat.le_of_ble_eq_true rfl) nar_int ?_
  intro p e s m args below meth c Q A hx hb hml hown hts hK hZ hA hret ls hl hP hD hS
  have hown : s.vm.findClass RX1 = some m.cls := hown
  have hl : lv_has ls 10 [(0, .ref a.1), (1, .int kd), (2, .int en), (3, .int wh), (4, .int to), (5, .long fr), (7, .long un)] := hl
  have hP : va_P G.1 vwCl (CW G a (nI (sG σ).length) (sT σ) (sR σ) κ.2.2.2.2.2.1 κ.2.2.2.2.2.2 (pO κ.2.2.2.2.1 (sO σ) (sN σ)) (LW G a.2.1 κ.1 κ.2.1 κ.2.2.1 κ.2.2.2.1 (sN σ))) s.heap := hP
  have hD : va_D A (CW G a (nI (sG σ).length) (sT σ) (sR σ) κ.2.2.2.2.2.1 κ.2.2.2.2.2.2 (pO κ.2.2.2.2.1 (sO σ) (sN σ)) (LW G a.2.1 κ.1 κ.2.1 κ.2.2.1 κ.2.2.2.1 (sN σ))) := hD
  obtain ⟨hI1, hI2, hI3, hI4, hI5⟩ := id hI
  have cw34 := va_cwS (R := (rmX 7 280 2 409)) (s := s) (args := args) (rm := (rmX 0 0 0 0)) (mc := 0) (ms := 0) 1 hts gX1_order_X1_isKind rfl rfl rfl (by decide +kernel) ⟨Nat.le_of_ble_eq_true rfl, Nat.le_of_ble_eq_true rfl⟩
  have cw42 := va_cwS (R := (rmX 7 280 2 409)) (s := s) (args := args) (rm := (rmX 0 0 0 0)) (mc := 0) (ms := 0) 1 hts gX1_order_X1_isAddress rfl rfl rfl (by decide +kernel) ⟨Nat.le_of_ble_eq_true rfl, Nat.le_of_ble_eq_true rfl⟩
  have cw48 := va_cwS (R := (rmX 7 280 2 409)) (s := s) (args := args) (rm := (rmX 0 0 0 0)) (mc := 0) (ms := 0) 1 hts gX1_order_X1_isDay rfl rfl rfl (by decide +kernel) ⟨Nat.le_of_ble_eq_true rfl, Nat.le_of_ble_eq_true rfl⟩
  have hiX1 := (show ∀ w ∈ u_ws RX1 TX1 6, w ∈ wsX1_order by decide +kernel)
  have lf10 := hts (.fieldLink RX1 10 "OrderRows2" "orders" "Ljava/util/ArrayList;") (by decide +kernel)
  have cw52 := cwV (R := (rmX 7 280 2 409)) (s := s) (args := args) (rm := (rmX 0 0 0 0)) (mc := 0) (ms := 0) 0 hts gX1_order_Jx4a65c_size_8abf5 rfl rfl rfl (by decide +kernel) ⟨Nat.le_of_ble_eq_true rfl, Nat.le_of_ble_eq_true rfl⟩
  have hiX0 := (show ∀ w ∈ u_ws RX0 TX0 9, w ∈ wsX1_order by decide +kernel)
  have lf30 := hts (.fieldLink RX1 30 "OrderRows2" "clock" "J") (by decide +kernel)
  have cw58 := cwI (R := (rmX 7 280 2 409)) (s := s) (args := args) (rm := (rmX 1 40 0 0)) (mc := 0) (ms := 0) (own := RX1) (index := 58) 7 hts gX1_order_X0_init rfl rfl rfl (hts (.initialized RX0) (by decide +kernel)) (hts (.methodLink RX1 58 yX0_init) (by decide +kernel)) (hts (.instanceMethod yX0_init) (by decide +kernel)) rfl (by decide +kernel) ⟨Nat.le_of_ble_eq_true rfl, Nat.le_of_ble_eq_true rfl⟩
  have cw61 := cwV (R := (rmX 7 280 2 409)) (s := s) (args := args) (rm := (rmX 6 240 1 400)) (mc := 1) (ms := 400) 1 hts gX1_order_Jx4a65c_add_9ea2d rfl rfl rfl (by decide +kernel) ⟨Nat.le_of_ble_eq_true rfl, Nat.le_of_ble_eq_true rfl⟩
  have cw45 := va_cwS (R := (rmX 7 280 2 409)) (s := s) (args := args) (rm := (rmX 0 0 0 0)) (mc := 0) (ms := 0) 1 hts gX1_order_X1_isPerson rfl rfl rfl (by decide +kernel) ⟨Nat.le_of_ble_eq_true rfl, Nat.le_of_ble_eq_true rfl⟩
  have cw38 := va_cwS (R := (rmX 7 280 2 409)) (s := s) (args := args) (rm := (rmX 0 0 0 0)) (mc := 0) (ms := 0) 1 hts gX1_order_X1_doneBy rfl rfl rfl (by decide +kernel) ⟨Nat.le_of_ble_eq_true rfl, Nat.le_of_ble_eq_true rfl⟩
  refine lv_iload_n hx hb dX1_order_0 rfl (lv_at hl 1 rfl) ?_
  refine rdS_i (As := [.int kd]) (rest := []) ⟨hx, hb, hml, hown, hts⟩ (c_X1_isKind l G kd) cw34 hK va_P.nil rfl hl.1 rfl (Nat.le_of_ble_eq_true rfl) dX1_order_1 ⟨Nat.zero_le _, Nat.zero_le _⟩ (fun r1_1 w1_1 => ?_)
  have w1_1 : ((r1_1.toInt = 1 ∧ (0 ≤ (kd).toInt ∧ (kd).toInt < 9)) ∨ (r1_1.toInt = 0 ∧ ¬ (0 ≤ (kd).toInt ∧ (kd).toInt < 9))) := w1_1
  refine lv_if_eq (tgt := 18) hx hb dX1_order_4 (by decide) (fun c4_2 => ?_) (fun c4_2 => ?_)
  · have c4_2 : (r1_1).toInt = 0 := (ti_eq (x := r1_1) (y := 0) (a := (r1_1).toInt) (b := 0) rfl rfl).mp c4_2
    refine lv_iconst (v := 0) hx hb dX1_order_18 (by decide) ?_
    refine lv_istore (lv' := [(9, .int 0), (0, .ref a.1), (1, .int kd), (2, .int en), (3, .int wh), (4, .int to), (5, .long fr), (7, .long un)]) hx hb dX1_order_19 hl (by decide) rfl (fun ls hl => ?_)
    refine lv_iload_n hx hb dX1_order_21 rfl (lv_at hl 3 rfl) ?_
    refine rdS_i (As := [.int en]) (rest := []) ⟨hx, hb, hml, hown, hts⟩ (c_X1_isAddress l G en) cw42 hK va_P.nil rfl hl.1 rfl (Nat.le_of_ble_eq_true rfl) dX1_order_22 ⟨Nat.zero_le _, Nat.zero_le _⟩ (fun r22_3 w22_3 => ?_)
    have w22_3 : ((r22_3.toInt = 1 ∧ (1 ≤ (en).toInt ∧ (en).toInt ≤ 99)) ∨ (r22_3.toInt = 0 ∧ ¬ (1 ≤ (en).toInt ∧ (en).toInt ≤ 99))) := w22_3
    refine lv_if_eq (tgt := 53) hx hb dX1_order_25 (by decide) (fun c25_4 => ?_) (fun c25_4 => ?_)
    · have c25_4 : (r22_3).toInt = 0 := (ti_eq (x := r22_3) (y := 0) (a := (r22_3).toInt) (b := 0) rfl rfl).mp c25_4
      refine lv_bipush (v := (-101)) hx hb dX1_order_53 (by decide) ?_
      have hF : fOrder σ kd en wh to fr un = ((-101), σ) := if_pos (by omega)
      exact hret _ _ _ _ _ _ _ κ dX1_order_55 (Or.inr (Or.inr rfl)) (by rw [hF]; exact ⟨rfl, hC⟩) (by rw [hF]; exact hP) (by rw [hF]; exact hD) hS (Nat.zero_le _) (Nat.zero_le _)
    · have c25_4 : ¬ ((r22_3).toInt = 0) := mt (ti_eq (x := r22_3) (y := 0) (a := (r22_3).toInt) (b := 0) rfl rfl).mpr c25_4
      refine lv_iload_n hx hb dX1_order_28 rfl (lv_at hl 4 rfl) ?_
      refine lv_iconst (v := (-1)) hx hb dX1_order_29 (by decide) ?_
      refine lv_icmp_eq (tgt := 40) hx hb dX1_order_30 (by decide) (fun c30_5 => ?_) (fun c30_5 => ?_)
      · have c30_5 : (wh).toInt = (-1) := (ti_eq (x := wh) (y := (-1)) (a := (wh).toInt) (b := (-1)) rfl rfl).mp c30_5
        refine lv_iload hx hb dX1_order_40 (lv_at hl 0 rfl) ?_
        refine lv_if_eq (tgt := 56) hx hb dX1_order_42 (by decide) (fun _ => ?_) (fun c42_6 => absurd (by decide) c42_6)
        refine lv_iload_n hx hb dX1_order_56 rfl (lv_at hl 2 rfl) ?_
        refine rdS_i (As := [.int kd]) (rest := []) ⟨hx, hb, hml, hown, hts⟩ (c_X1_isKind l G kd) cw34 hK va_P.nil rfl hl.1 rfl (Nat.le_of_ble_eq_true rfl) dX1_order_57 ⟨Nat.zero_le _, Nat.zero_le _⟩ (fun r57_7 w57_7 => ?_)
        have w57_7 : ((r57_7.toInt = 1 ∧ (0 ≤ (kd).toInt ∧ (kd).toInt < 9)) ∨ (r57_7.toInt = 0 ∧ ¬ (0 ≤ (kd).toInt ∧ (kd).toInt < 9))) := w57_7
        refine lv_if_eq (tgt := 98) hx hb dX1_order_60 (by decide) (fun c60_8 => ?_) (fun c60_8 => ?_)
        · have c60_8 : (r57_7).toInt = 0 := (ti_eq (x := r57_7) (y := 0) (a := (r57_7).toInt) (b := 0) rfl rfl).mp c60_8
          refine lv_bipush (v := (-102)) hx hb dX1_order_98 (by decide) ?_
          have hF : fOrder σ kd en wh to fr un = ((-102), σ) := (if_neg (by omega)).trans (if_pos (by omega))
          exact hret _ _ _ _ _ _ _ κ dX1_order_100 (Or.inr (Or.inr rfl)) (by rw [hF]; exact ⟨rfl, hC⟩) (by rw [hF]; exact hP) (by rw [hF]; exact hD) hS (Nat.zero_le _) (Nat.zero_le _)
        · have c60_8 : ¬ ((r57_7).toInt = 0) := mt (ti_eq (x := r57_7) (y := 0) (a := (r57_7).toInt) (b := 0) rfl rfl).mpr c60_8
          refine lv_lload hx hb dX1_order_63 (lv_at hl 6 rfl) ?_
          refine rdS_i (As := [.long fr]) (rest := []) ⟨hx, hb, hml, hown, hts⟩ (c_X1_isDay l G fr) cw48 hK va_P.nil rfl hl.1 rfl (Nat.le_of_ble_eq_true rfl) dX1_order_65 ⟨Nat.zero_le _, Nat.zero_le _⟩ (fun r65_9 w65_9 => ?_)
          have w65_9 : ((r65_9.toInt = 1 ∧ (0 ≤ (fr).toInt ∧ (fr).toInt ≤ 20000)) ∨ (r65_9.toInt = 0 ∧ ¬ (0 ≤ (fr).toInt ∧ (fr).toInt ≤ 20000))) := w65_9
          refine lv_if_eq (tgt := 98) hx hb dX1_order_68 (by decide) (fun c68_10 => ?_) (fun c68_10 => ?_)
          · have c68_10 : (r65_9).toInt = 0 := (ti_eq (x := r65_9) (y := 0) (a := (r65_9).toInt) (b := 0) rfl rfl).mp c68_10
            refine lv_bipush (v := (-102)) hx hb dX1_order_98 (by decide) ?_
            have hF : fOrder σ kd en wh to fr un = ((-102), σ) := (if_neg (by omega)).trans (if_pos (by omega))
            exact hret _ _ _ _ _ _ _ κ dX1_order_100 (Or.inr (Or.inr rfl)) (by rw [hF]; exact ⟨rfl, hC⟩) (by rw [hF]; exact hP) (by rw [hF]; exact hD) hS (Nat.zero_le _) (Nat.zero_le _)
          · have c68_10 : ¬ ((r65_9).toInt = 0) := mt (ti_eq (x := r65_9) (y := 0) (a := (r65_9).toInt) (b := 0) rfl rfl).mpr c68_10
            refine lv_lload hx hb dX1_order_71 (lv_at hl 7 rfl) ?_
            refine rdS_i (As := [.long un]) (rest := []) ⟨hx, hb, hml, hown, hts⟩ (c_X1_isDay l G un) cw48 hK va_P.nil rfl hl.1 rfl (Nat.le_of_ble_eq_true rfl) dX1_order_73 ⟨Nat.zero_le _, Nat.zero_le _⟩ (fun r73_11 w73_11 => ?_)
            have w73_11 : ((r73_11.toInt = 1 ∧ (0 ≤ (un).toInt ∧ (un).toInt ≤ 20000)) ∨ (r73_11.toInt = 0 ∧ ¬ (0 ≤ (un).toInt ∧ (un).toInt ≤ 20000))) := w73_11
            refine lv_if_eq (tgt := 98) hx hb dX1_order_76 (by decide) (fun c76_12 => ?_) (fun c76_12 => ?_)
            · have c76_12 : (r73_11).toInt = 0 := (ti_eq (x := r73_11) (y := 0) (a := (r73_11).toInt) (b := 0) rfl rfl).mp c76_12
              refine lv_bipush (v := (-102)) hx hb dX1_order_98 (by decide) ?_
              have hF : fOrder σ kd en wh to fr un = ((-102), σ) := (if_neg (by omega)).trans (if_pos (by omega))
              exact hret _ _ _ _ _ _ _ κ dX1_order_100 (Or.inr (Or.inr rfl)) (by rw [hF]; exact ⟨rfl, hC⟩) (by rw [hF]; exact hP) (by rw [hF]; exact hD) hS (Nat.zero_le _) (Nat.zero_le _)
            · have c76_12 : ¬ ((r73_11).toInt = 0) := mt (ti_eq (x := r73_11) (y := 0) (a := (r73_11).toInt) (b := 0) rfl rfl).mpr c76_12
              refine lv_lload hx hb dX1_order_79 (lv_at hl 7 rfl) ?_
              refine lv_lload hx hb dX1_order_81 (lv_at hl 6 rfl) ?_
              refine lc_lt (tgt := 98) hx hb dX1_order_83 dX1_order_84 (by decide) (fun c83_13 => ?_) (fun c83_13 => ?_)
              · have c83_13 : (un).toInt < (fr).toInt := (tl_lt (x := un) (y := fr) (a := (un).toInt) (b := (fr).toInt) rfl rfl).mp c83_13
                refine lv_bipush (v := (-102)) hx hb dX1_order_98 (by decide) ?_
                have hF : fOrder σ kd en wh to fr un = ((-102), σ) := (if_neg (by omega)).trans (if_pos (by omega))
                exact hret _ _ _ _ _ _ _ κ dX1_order_100 (Or.inr (Or.inr rfl)) (by rw [hF]; exact ⟨rfl, hC⟩) (by rw [hF]; exact hP) (by rw [hF]; exact hD) hS (Nat.zero_le _) (Nat.zero_le _)
              · have c83_13 : ¬ ((un).toInt < (fr).toInt) := mt (tl_lt (x := un) (y := fr) (a := (un).toInt) (b := (fr).toInt) rfl rfl).mpr c83_13
                refine lv_iload hx hb dX1_order_87 (lv_at hl 0 rfl) ?_
                refine lv_if_eq (tgt := 101) hx hb dX1_order_89 (by decide) (fun _ => ?_) (fun c89_14 => absurd (by decide) c89_14)
                refine lv_aload_n hx hb dX1_order_101 rfl (lv_at hl 1 rfl) ?_
                refine va_get (D := G.1) (ci := 2) (v := .ref a.2.1) (own := RX1) (C := RX1) (T := TX1) (N := 6) hx hb hts hiX1 hown hK.1 hP 0 rfl rfl 0 (by decide) lf10 (fun _ h9 => h9) rfl dX1_order_102 ?_
                refine rdV_i (b := a.2.1) (As := []) (rest := []) ⟨hx, hb, hml, hown, hts⟩ (c_Jx4a65c_size_8abf5 l G a.2.1 κ.1 (nI (sN σ)) _) cw52 hK (LW_one (CW_list hP)) 0 rfl rfl rfl rfl hl.1 rfl (Nat.le_of_ble_eq_true rfl) dX1_order_105 ⟨Nat.zero_le _, Nat.zero_le _⟩ (fun r15 w15 => ?_)
                have w15 : r15.toInt = (((sN σ) : Nat) : Int) := by rw [w15]; exact ti_nI (by omega)
                refine lv_sipush (v := 200) hx hb dX1_order_108 (by decide) ?_
                refine lv_icmp_lt (tgt := 117) hx hb dX1_order_111 (by decide) (fun c111_16 => ?_) (fun c111_16 => ?_)
                · have c111_16 : (((sN σ) : Nat) : Int) < 200 := (ti_lt (x := r15) (y := 200) (a := (((sN σ) : Nat) : Int)) (b := 200) w15 rfl).mp c111_16
                  refine lv_aload_n hx hb dX1_order_117 rfl (lv_at hl 1 rfl) ?_
                  refine va_get (D := G.1) (ci := 2) (v := .ref a.2.1) (own := RX1) (C := RX1) (T := TX1) (N := 6) hx hb hts hiX1 hown hK.1 hP 0 rfl rfl 0 (by decide) lf10 (fun _ h9 => h9) rfl dX1_order_118 ?_
                  refine va_new (ci := 1) (fs := [.int 0, .int 0, .int 0, .int 0, .long 0, .long 0, .long 0, .long 0, .int 0]) (own := RX1) (C := RX0) (T := TX0) (N := 9) hx hb hts hiX0 tyX0 tyX0_ok hown (hts (.classLink RX1 56 RX0) (by decide +kernel)) (hts (.instantiable RX0 9) (by decide +kernel)) (hts (.initialized RX0) (by decide +kernel)) hK.1 hP hD hS hA rfl (fun j hj => by rcases (show j = 0 ∨ j = 1 ∨ j = 2 ∨ j = 3 ∨ j = 4 ∨ j = 5 ∨ j = 6 ∨ j = 7 ∨ j = 8 by omega) with rfl | rfl | rfl | rfl | rfl | rfl | rfl | rfl | rfl <;> rfl) (Nat.le_of_ble_eq_true rfl) (Nat.le_of_ble_eq_true rfl) dX1_order_121 (fun qn H hP hD hS => ?_)
                  have hP : va_P G.1 vwCl ((CW G a (nI (sG σ).length) (sT σ) (sR σ) κ.2.2.2.2.2.1 κ.2.2.2.2.2.2 (pO κ.2.2.2.2.1 (sO σ) (sN σ)) (LW G a.2.1 κ.1 κ.2.1 κ.2.2.1 κ.2.2.2.1 (sN σ))) ++ [(qn, .inr (1, [.int 0, .int 0, .int 0, .int 0, .long 0, .long 0, .long 0, .long 0, .int 0]))]) H := hP
                  have hD : va_D A ((CW G a (nI (sG σ).length) (sT σ) (sR σ) κ.2.2.2.2.2.1 κ.2.2.2.2.2.2 (pO κ.2.2.2.2.1 (sO σ) (sN σ)) (LW G a.2.1 κ.1 κ.2.1 κ.2.2.1 κ.2.2.2.1 (sN σ))) ++ [(qn, .inr (1, [.int 0, .int 0, .int 0, .int 0, .long 0, .long 0, .long 0, .long 0, .int 0]))]) := hD
                  refine lv_dup hx hb dX1_order_124 rfl ?_
                  refine lv_iload_n hx hb dX1_order_125 rfl (lv_at hl 2 rfl) ?_
                  refine lv_iload_n hx hb dX1_order_126 rfl (lv_at hl 3 rfl) ?_
                  refine lv_iload_n hx hb dX1_order_127 rfl (lv_at hl 4 rfl) ?_
                  refine lv_iload hx hb dX1_order_128 (lv_at hl 5 rfl) ?_
                  refine lv_lload hx hb dX1_order_130 (lv_at hl 6 rfl) ?_
                  refine lv_lload hx hb dX1_order_132 (lv_at hl 7 rfl) ?_
                  refine lv_aload_n hx hb dX1_order_134 rfl (lv_at hl 1 rfl) ?_
                  refine va_get (D := G.1) (ci := 2) (v := .long (sT σ)) (own := RX1) (C := RX1) (T := TX1) (N := 6) hx hb hts hiX1 hown hK.1 hP 0 rfl rfl 5 (by decide) lf30 (fun _ h9 => h9) rfl dX1_order_135 ?_
                  refine wrI_v (wr := (CW G a (nI (sG σ).length) (sT σ) (sR σ) κ.2.2.2.2.2.1 κ.2.2.2.2.2.2 (pO κ.2.2.2.2.1 (sO σ) (sN σ)) (LW G a.2.1 κ.1 κ.2.1 κ.2.2.1 κ.2.2.2.1 (sN σ)))) (b := qn) (As := [.int kd, .int en, .int wh, .int to, .long fr, .long un, .long (sT σ)]) (rest := [.ref qn, .ref a.2.1]) ⟨hx, hb, hml, hown, hts⟩ (c_X0_init l G qn kd en wh to fr un (sT σ)) cw58 hK hZ hP hD hS hA rfl hl.1 rfl (Nat.le_of_ble_eq_true rfl) dX1_order_138 ⟨(Nat.le_of_ble_eq_true rfl), (Nat.le_of_ble_eq_true rfl)⟩ (fun _ H locs _ hP hD hS => ?_)
                  have hP : va_P G.1 vwCl ((CW G a (nI (sG σ).length) (sT σ) (sR σ) κ.2.2.2.2.2.1 κ.2.2.2.2.2.2 (pO κ.2.2.2.2.1 (sO σ) (sN σ)) (LW G a.2.1 κ.1 κ.2.1 κ.2.2.1 κ.2.2.2.1 (sN σ))) ++ [(qn, .inr (1, fl (kd, en, wh, to, fr, sT σ, un, 20001, 0)))]) H := hP
                  have hD : va_D A ((CW G a (nI (sG σ).length) (sT σ) (sR σ) κ.2.2.2.2.2.1 κ.2.2.2.2.2.2 (pO κ.2.2.2.2.1 (sO σ) (sN σ)) (LW G a.2.1 κ.1 κ.2.1 κ.2.2.1 κ.2.2.2.1 (sN σ))) ++ [(qn, .inr (1, fl (kd, en, wh, to, fr, sT σ, un, 20001, 0)))]) := hD
                  have tail : ∀ (ux : Int32 × Nat × Nat × (Nat → Option Nat)) (r : Int32) (H : Heap) (locs : List Loc), sN σ + 1 ≤ ux.2.2.1 → ux.2.2.1 ≤ 400 → ux.2.2.2 (sN σ) = some qn → (∀ i, i < sN σ → ux.2.2.2 i = some (κ.2.2.2.2.1 i)) → va_P G.1 vwCl ((CX G a (nI (sG σ).length) (sT σ) (sR σ) κ.2.2.2.2.2.1 κ.2.2.2.2.2.2) ++ ([(a.2.1, .inr (0, [.int ux.1, .ref ux.2.1, .int (nI (sN σ + 1))])), aO G ux.2.1 ux.2.2.1 ux.2.2.2] ++ ((pO κ.2.2.2.2.1 (sO σ) (sN σ)) ++ [(qn, Sum.inr (1, fl (kd, en, wh, to, fr, sT σ, un, 20001, 0)))] : va_W))) H → va_D A ((CX G a (nI (sG σ).length) (sT σ) (sR σ) κ.2.2.2.2.2.1 κ.2.2.2.2.2.2) ++ ([(a.2.1, .inr (0, [.int ux.1, .ref ux.2.1, .int (nI (sN σ + 1))])), aO G ux.2.1 ux.2.2.1 ux.2.2.2] ++ ((pO κ.2.2.2.2.1 (sO σ) (sN σ)) ++ [(qn, Sum.inr (1, fl (kd, en, wh, to, fr, sT σ, un, 20001, 0)))] : va_W))) → va_S A s.heap H locs → W p l e (rmX 7 280 2 409) s m args below meth c H locs (0 + 1 + 0 + 1) (0 + 9 + 0 + 400) Q (F0 m 144 ls [.int r]) := by
                    intro ux r H locs g1 g2 g3 g4 hP hD hS
                    have hP := back_P hP
                    have hD := back_D hD
                    rw [pO_push, ← LW_pos (G := G) (h := a.2.1) (md := ux.1) (a2 := ux.2.1) (N := ux.2.2.1) (f := ux.2.2.2) (n := sN σ + 1) (by omega)] at hP hD
                    have hP : va_P G.1 vwCl (CW G a (nI (sG σ).length) (sT σ) (sR σ) κ.2.2.2.2.2.1 κ.2.2.2.2.2.2 (pO (kNew κ ux (sN σ) qn).2.2.2.2.1 (va_up (sO σ) (sN σ) (kd, en, wh, to, fr, sT σ, un, 20001, 0)) (sN σ + 1)) (LW G a.2.1 (kNew κ ux (sN σ) qn).1 (kNew κ ux (sN σ) qn).2.1 (kNew κ ux (sN σ) qn).2.2.1 (kNew κ ux (sN σ) qn).2.2.2.1 (sN σ + 1))) H := hP
                    have hD : va_D A (CW G a (nI (sG σ).length) (sT σ) (sR σ) κ.2.2.2.2.2.1 κ.2.2.2.2.2.2 (pO (kNew κ ux (sN σ) qn).2.2.2.2.1 (va_up (sO σ) (sN σ) (kd, en, wh, to, fr, sT σ, un, 20001, 0)) (sN σ + 1)) (LW G a.2.1 (kNew κ ux (sN σ) qn).1 (kNew κ ux (sN σ) qn).2.1 (kNew κ ux (sN σ) qn).2.2.1 (kNew κ ux (sN σ) qn).2.2.2.1 (sN σ + 1))) := hD
                    refine lv_pop hx hb dX1_order_144 rfl ?_
                    refine lv_aload_n hx hb dX1_order_145 rfl (lv_at hl 1 rfl) ?_
                    refine va_get (D := G.1) (ci := 2) (v := .ref a.2.1) (own := RX1) (C := RX1) (T := TX1) (N := 6) hx hb hts hiX1 hown hK.1 hP 0 rfl rfl 0 (by decide) lf10 (fun _ h9 => h9) rfl dX1_order_146 ?_
                    refine rdV_i (b := a.2.1) (As := []) (rest := []) ⟨hx, hb, hml, hown, hts⟩ (c_Jx4a65c_size_8abf5 l G a.2.1 (kNew κ ux (sN σ) qn).1 (nI (sN σ + 1)) _) cw52 hK (LW_one (CW_list hP)) 0 rfl rfl rfl rfl hl.1 rfl (Nat.le_of_ble_eq_true rfl) dX1_order_149 ⟨Nat.le_of_ble_eq_true rfl, Nat.le_of_ble_eq_true rfl⟩ (fun r17 w17 => ?_)
                    have w17 : r17.toInt = (((sN σ + 1) : Nat) : Int) := by rw [w17]; exact ti_nI (by omega)
                    have hF : fOrder σ kd en wh to fr un = (nI (sN σ + 1), (sN σ + 1, va_up (sO σ) (sN σ) (kd, en, wh, to, fr, sT σ, un, 20001, 0), sT σ, sR σ, sG σ)) := (if_neg (by omega)).trans ((if_neg (by omega)).trans (if_neg (by omega)))
                    obtain rfl : r17 = nI (sN σ + 1) := nI_ofI w17
                    exact hret _ _ _ _ _ _ _ (kNew κ ux (sN σ) qn) dX1_order_152 (Or.inr (Or.inr rfl)) (by rw [hF]; exact ⟨rfl, CI_new hC g1 g2 g3 g4⟩) (by rw [hF]; exact hP) (by rw [hF]; exact hD) hS (Nat.le_of_ble_eq_true rfl) (Nat.le_of_ble_eq_true rfl)
                  have hP := ord_P (x := (CX G a (nI (sG σ).length) (sT σ) (sR σ) κ.2.2.2.2.2.1 κ.2.2.2.2.2.2)) hP
                  have hD := ord_D (x := (CX G a (nI (sG σ).length) (sT σ) (sR σ) κ.2.2.2.2.2.1 κ.2.2.2.2.2.2)) hD
                  rcases Nat.eq_zero_or_pos (sN σ) with hz | hz
                  · rw [LW_zero hz] at hP hD
                    refine wrV_i (wr := (CX G a (nI (sG σ).length) (sT σ) (sR σ) κ.2.2.2.2.2.1 κ.2.2.2.2.2.2)) (b := a.2.1) (As := [.ref qn]) (rest := []) ⟨hx, hb, hml, hown, hts⟩ (c_Jx4a65c_add_9ea2d_0 l G a.2.1 qn κ.1 ((pO κ.2.2.2.2.1 (sO σ) (sN σ)) ++ [(qn, Sum.inr (1, fl (kd, en, wh, to, fr, sT σ, un, 20001, 0)))] : va_W) (sN σ) (fl (kd, en, wh, to, fr, sT σ, un, 20001, 0)) tl_new) cw61 hK hZ hP hD hS hA 0 rfl rfl rfl rfl hl.1 rfl (Nat.le_of_ble_eq_true rfl) dX1_order_141 ⟨(Nat.le_of_ble_eq_true rfl), (Nat.le_of_ble_eq_true rfl)⟩ (fun r u H locs wu hP hD hS => ?_)
                    obtain ⟨g1, g2, g3⟩ := wu
                    exact tail u r H locs (by rw [hz]; exact g1) g2 (by rw [hz]; exact g3) (fun i hi => absurd hi (by omega)) (by rw [hz] at hP ⊢; exact hP) (by rw [hz] at hD ⊢; exact hD) hS
                  · obtain ⟨k1, k2, k3⟩ := hC.1 hz
                    rw [LW_pos (show sN σ ≠ 0 by omega)] at hP hD
                    rcases Nat.lt_or_ge (sN σ) κ.2.2.1 with hnN | hnN
                    · refine wrV_i (wr := (CX G a (nI (sG σ).length) (sT σ) (sR σ) κ.2.2.2.2.2.1 κ.2.2.2.2.2.2)) (b := a.2.1) (As := [.ref qn]) (rest := []) ⟨hx, hb, hml, hown, hts⟩ (c_Jx4a65c_add_9ea2d_s l G a.2.1 qn κ.1 κ.2.1 (sN σ) κ.2.2.1 κ.2.2.2.1 hz hnN k2 hI1 ((pO κ.2.2.2.2.1 (sO σ) (sN σ)) ++ [(qn, Sum.inr (1, fl (kd, en, wh, to, fr, sT σ, un, 20001, 0)))] : va_W) (sN σ) (fl (kd, en, wh, to, fr, sT σ, un, 20001, 0)) tl_new) cw61 hK hZ hP hD hS hA 0 rfl rfl rfl rfl hl.1 rfl (Nat.le_of_ble_eq_true rfl) dX1_order_141 ⟨(Nat.le_of_ble_eq_true rfl), (Nat.le_of_ble_eq_true rfl)⟩ (fun r u H locs wu hP hD hS => ?_)
                      obtain ⟨g1, g2, g3, g4⟩ := wu
                      exact tail u r H locs g1 g2 g3 (fun i hi => (g4 i hi).trans (k3 i hi)) hP hD hS
                    · have eN : κ.2.2.1 = sN σ := by omega
                      rw [eN] at hP hD
                      refine wrV_i (wr := (CX G a (nI (sG σ).length) (sT σ) (sR σ) κ.2.2.2.2.2.1 κ.2.2.2.2.2.2)) (b := a.2.1) (As := [.ref qn]) (rest := []) ⟨hx, hb, hml, hown, hts⟩ (c_Jx4a65c_add_9ea2d_g l G a.2.1 qn κ.1 κ.2.1 (sN σ) κ.2.2.2.1 hz hI1 ((pO κ.2.2.2.2.1 (sO σ) (sN σ)) ++ [(qn, Sum.inr (1, fl (kd, en, wh, to, fr, sT σ, un, 20001, 0)))] : va_W) (fun i hi => ⟨_, i, _, k3 i hi, tl_get hi⟩) (sN σ) (fl (kd, en, wh, to, fr, sT σ, un, 20001, 0)) tl_new) cw61 hK hZ hP hD hS hA 0 rfl rfl rfl rfl hl.1 rfl (Nat.le_of_ble_eq_true rfl) dX1_order_141 ⟨(Nat.le_of_ble_eq_true rfl), (Nat.le_of_ble_eq_true rfl)⟩ (fun r u H locs wu hP hD hS => ?_)
                      obtain ⟨g1, g2, g3, g4⟩ := wu
                      exact tail u r H locs g1 g2 g3 (fun i hi => (g4 i hi).trans (k3 i hi)) hP hD hS
                · have c111_16 : ¬ ((((sN σ) : Nat) : Int) < 200) := mt (ti_lt (x := r15) (y := 200) (a := (((sN σ) : Nat) : Int)) (b := 200) w15 rfl).mpr c111_16
                  refine lv_bipush (v := (-104)) hx hb dX1_order_114 (by decide) ?_
                  have hF : fOrder σ kd en wh to fr un = ((-104), σ) := (if_neg (by omega)).trans ((if_neg (by omega)).trans (if_pos (by omega)))
                  exact hret _ _ _ _ _ _ _ κ dX1_order_116 (Or.inr (Or.inr rfl)) (by rw [hF]; exact ⟨rfl, hC⟩) (by rw [hF]; exact hP) (by rw [hF]; exact hD) hS (Nat.zero_le _) (Nat.zero_le _)
      · have c30_5 : ¬ ((wh).toInt = (-1)) := mt (ti_eq (x := wh) (y := (-1)) (a := (wh).toInt) (b := (-1)) rfl rfl).mpr c30_5
        refine lv_iload_n hx hb dX1_order_33 rfl (lv_at hl 4 rfl) ?_
        refine rdS_i (As := [.int wh]) (rest := []) ⟨hx, hb, hml, hown, hts⟩ (c_X1_isPerson l G wh) cw45 hK va_P.nil rfl hl.1 rfl (Nat.le_of_ble_eq_true rfl) dX1_order_34 ⟨Nat.zero_le _, Nat.zero_le _⟩ (fun r34_18 w34_18 => ?_)
        have w34_18 : ((r34_18.toInt = 1 ∧ (0 ≤ (wh).toInt ∧ (wh).toInt ≤ 49)) ∨ (r34_18.toInt = 0 ∧ ¬ (0 ≤ (wh).toInt ∧ (wh).toInt ≤ 49))) := w34_18
        refine lv_if_eq (tgt := 53) hx hb dX1_order_37 (by decide) (fun c37_19 => ?_) (fun c37_19 => ?_)
        · have c37_19 : (r34_18).toInt = 0 := (ti_eq (x := r34_18) (y := 0) (a := (r34_18).toInt) (b := 0) rfl rfl).mp c37_19
          refine lv_bipush (v := (-101)) hx hb dX1_order_53 (by decide) ?_
          have hF : fOrder σ kd en wh to fr un = ((-101), σ) := if_pos (by omega)
          exact hret _ _ _ _ _ _ _ κ dX1_order_55 (Or.inr (Or.inr rfl)) (by rw [hF]; exact ⟨rfl, hC⟩) (by rw [hF]; exact hP) (by rw [hF]; exact hD) hS (Nat.zero_le _) (Nat.zero_le _)
        · have c37_19 : ¬ ((r34_18).toInt = 0) := mt (ti_eq (x := r34_18) (y := 0) (a := (r34_18).toInt) (b := 0) rfl rfl).mpr c37_19
          refine lv_iload hx hb dX1_order_40 (lv_at hl 0 rfl) ?_
          refine lv_if_eq (tgt := 56) hx hb dX1_order_42 (by decide) (fun _ => ?_) (fun c42_20 => absurd (by decide) c42_20)
          refine lv_iload_n hx hb dX1_order_56 rfl (lv_at hl 2 rfl) ?_
          refine rdS_i (As := [.int kd]) (rest := []) ⟨hx, hb, hml, hown, hts⟩ (c_X1_isKind l G kd) cw34 hK va_P.nil rfl hl.1 rfl (Nat.le_of_ble_eq_true rfl) dX1_order_57 ⟨Nat.zero_le _, Nat.zero_le _⟩ (fun r57_21 w57_21 => ?_)
          have w57_21 : ((r57_21.toInt = 1 ∧ (0 ≤ (kd).toInt ∧ (kd).toInt < 9)) ∨ (r57_21.toInt = 0 ∧ ¬ (0 ≤ (kd).toInt ∧ (kd).toInt < 9))) := w57_21
          refine lv_if_eq (tgt := 98) hx hb dX1_order_60 (by decide) (fun c60_22 => ?_) (fun c60_22 => ?_)
          · have c60_22 : (r57_21).toInt = 0 := (ti_eq (x := r57_21) (y := 0) (a := (r57_21).toInt) (b := 0) rfl rfl).mp c60_22
            refine lv_bipush (v := (-102)) hx hb dX1_order_98 (by decide) ?_
            have hF : fOrder σ kd en wh to fr un = ((-102), σ) := (if_neg (by omega)).trans (if_pos (by omega))
            exact hret _ _ _ _ _ _ _ κ dX1_order_100 (Or.inr (Or.inr rfl)) (by rw [hF]; exact ⟨rfl, hC⟩) (by rw [hF]; exact hP) (by rw [hF]; exact hD) hS (Nat.zero_le _) (Nat.zero_le _)
          · have c60_22 : ¬ ((r57_21).toInt = 0) := mt (ti_eq (x := r57_21) (y := 0) (a := (r57_21).toInt) (b := 0) rfl rfl).mpr c60_22
            refine lv_lload hx hb dX1_order_63 (lv_at hl 6 rfl) ?_
            refine rdS_i (As := [.long fr]) (rest := []) ⟨hx, hb, hml, hown, hts⟩ (c_X1_isDay l G fr) cw48 hK va_P.nil rfl hl.1 rfl (Nat.le_of_ble_eq_true rfl) dX1_order_65 ⟨Nat.zero_le _, Nat.zero_le _⟩ (fun r65_23 w65_23 => ?_)
            have w65_23 : ((r65_23.toInt = 1 ∧ (0 ≤ (fr).toInt ∧ (fr).toInt ≤ 20000)) ∨ (r65_23.toInt = 0 ∧ ¬ (0 ≤ (fr).toInt ∧ (fr).toInt ≤ 20000))) := w65_23
            refine lv_if_eq (tgt := 98) hx hb dX1_order_68 (by decide) (fun c68_24 => ?_) (fun c68_24 => ?_)
            · have c68_24 : (r65_23).toInt = 0 := (ti_eq (x := r65_23) (y := 0) (a := (r65_23).toInt) (b := 0) rfl rfl).mp c68_24
              refine lv_bipush (v := (-102)) hx hb dX1_order_98 (by decide) ?_
              have hF : fOrder σ kd en wh to fr un = ((-102), σ) := (if_neg (by omega)).trans (if_pos (by omega))
              exact hret _ _ _ _ _ _ _ κ dX1_order_100 (Or.inr (Or.inr rfl)) (by rw [hF]; exact ⟨rfl, hC⟩) (by rw [hF]; exact hP) (by rw [hF]; exact hD) hS (Nat.zero_le _) (Nat.zero_le _)
            · have c68_24 : ¬ ((r65_23).toInt = 0) := mt (ti_eq (x := r65_23) (y := 0) (a := (r65_23).toInt) (b := 0) rfl rfl).mpr c68_24
              refine lv_lload hx hb dX1_order_71 (lv_at hl 7 rfl) ?_
              refine rdS_i (As := [.long un]) (rest := []) ⟨hx, hb, hml, hown, hts⟩ (c_X1_isDay l G un) cw48 hK va_P.nil rfl hl.1 rfl (Nat.le_of_ble_eq_true rfl) dX1_order_73 ⟨Nat.zero_le _, Nat.zero_le _⟩ (fun r73_25 w73_25 => ?_)
              have w73_25 : ((r73_25.toInt = 1 ∧ (0 ≤ (un).toInt ∧ (un).toInt ≤ 20000)) ∨ (r73_25.toInt = 0 ∧ ¬ (0 ≤ (un).toInt ∧ (un).toInt ≤ 20000))) := w73_25
              refine lv_if_eq (tgt := 98) hx hb dX1_order_76 (by decide) (fun c76_26 => ?_) (fun c76_26 => ?_)
              · have c76_26 : (r73_25).toInt = 0 := (ti_eq (x := r73_25) (y := 0) (a := (r73_25).toInt) (b := 0) rfl rfl).mp c76_26
                refine lv_bipush (v := (-102)) hx hb dX1_order_98 (by decide) ?_
                have hF : fOrder σ kd en wh to fr un = ((-102), σ) := (if_neg (by omega)).trans (if_pos (by omega))
                exact hret _ _ _ _ _ _ _ κ dX1_order_100 (Or.inr (Or.inr rfl)) (by rw [hF]; exact ⟨rfl, hC⟩) (by rw [hF]; exact hP) (by rw [hF]; exact hD) hS (Nat.zero_le _) (Nat.zero_le _)
              · have c76_26 : ¬ ((r73_25).toInt = 0) := mt (ti_eq (x := r73_25) (y := 0) (a := (r73_25).toInt) (b := 0) rfl rfl).mpr c76_26
                refine lv_lload hx hb dX1_order_79 (lv_at hl 7 rfl) ?_
                refine lv_lload hx hb dX1_order_81 (lv_at hl 6 rfl) ?_
                refine lc_lt (tgt := 98) hx hb dX1_order_83 dX1_order_84 (by decide) (fun c83_27 => ?_) (fun c83_27 => ?_)
                · have c83_27 : (un).toInt < (fr).toInt := (tl_lt (x := un) (y := fr) (a := (un).toInt) (b := (fr).toInt) rfl rfl).mp c83_27
                  refine lv_bipush (v := (-102)) hx hb dX1_order_98 (by decide) ?_
                  have hF : fOrder σ kd en wh to fr un = ((-102), σ) := (if_neg (by omega)).trans (if_pos (by omega))
                  exact hret _ _ _ _ _ _ _ κ dX1_order_100 (Or.inr (Or.inr rfl)) (by rw [hF]; exact ⟨rfl, hC⟩) (by rw [hF]; exact hP) (by rw [hF]; exact hD) hS (Nat.zero_le _) (Nat.zero_le _)
                · have c83_27 : ¬ ((un).toInt < (fr).toInt) := mt (tl_lt (x := un) (y := fr) (a := (un).toInt) (b := (fr).toInt) rfl rfl).mpr c83_27
                  refine lv_iload hx hb dX1_order_87 (lv_at hl 0 rfl) ?_
                  refine lv_if_eq (tgt := 101) hx hb dX1_order_89 (by decide) (fun _ => ?_) (fun c89_28 => absurd (by decide) c89_28)
                  refine lv_aload_n hx hb dX1_order_101 rfl (lv_at hl 1 rfl) ?_
                  refine va_get (D := G.1) (ci := 2) (v := .ref a.2.1) (own := RX1) (C := RX1) (T := TX1) (N := 6) hx hb hts hiX1 hown hK.1 hP 0 rfl rfl 0 (by decide) lf10 (fun _ h9 => h9) rfl dX1_order_102 ?_
                  refine rdV_i (b := a.2.1) (As := []) (rest := []) ⟨hx, hb, hml, hown, hts⟩ (c_Jx4a65c_size_8abf5 l G a.2.1 κ.1 (nI (sN σ)) _) cw52 hK (LW_one (CW_list hP)) 0 rfl rfl rfl rfl hl.1 rfl (Nat.le_of_ble_eq_true rfl) dX1_order_105 ⟨Nat.zero_le _, Nat.zero_le _⟩ (fun r29 w29 => ?_)
                  have w29 : r29.toInt = (((sN σ) : Nat) : Int) := by rw [w29]; exact ti_nI (by omega)
                  refine lv_sipush (v := 200) hx hb dX1_order_108 (by decide) ?_
                  refine lv_icmp_lt (tgt := 117) hx hb dX1_order_111 (by decide) (fun c111_30 => ?_) (fun c111_30 => ?_)
                  · have c111_30 : (((sN σ) : Nat) : Int) < 200 := (ti_lt (x := r29) (y := 200) (a := (((sN σ) : Nat) : Int)) (b := 200) w29 rfl).mp c111_30
                    refine lv_aload_n hx hb dX1_order_117 rfl (lv_at hl 1 rfl) ?_
                    refine va_get (D := G.1) (ci := 2) (v := .ref a.2.1) (own := RX1) (C := RX1) (T := TX1) (N := 6) hx hb hts hiX1 hown hK.1 hP 0 rfl rfl 0 (by decide) lf10 (fun _ h9 => h9) rfl dX1_order_118 ?_
                    refine va_new (ci := 1) (fs := [.int 0, .int 0, .int 0, .int 0, .long 0, .long 0, .long 0, .long 0, .int 0]) (own := RX1) (C := RX0) (T := TX0) (N := 9) hx hb hts hiX0 tyX0 tyX0_ok hown (hts (.classLink RX1 56 RX0) (by decide +kernel)) (hts (.instantiable RX0 9) (by decide +kernel)) (hts (.initialized RX0) (by decide +kernel)) hK.1 hP hD hS hA rfl (fun j hj => by rcases (show j = 0 ∨ j = 1 ∨ j = 2 ∨ j = 3 ∨ j = 4 ∨ j = 5 ∨ j = 6 ∨ j = 7 ∨ j = 8 by omega) with rfl | rfl | rfl | rfl | rfl | rfl | rfl | rfl | rfl <;> rfl) (Nat.le_of_ble_eq_true rfl) (Nat.le_of_ble_eq_true rfl) dX1_order_121 (fun qn H hP hD hS => ?_)
                    have hP : va_P G.1 vwCl ((CW G a (nI (sG σ).length) (sT σ) (sR σ) κ.2.2.2.2.2.1 κ.2.2.2.2.2.2 (pO κ.2.2.2.2.1 (sO σ) (sN σ)) (LW G a.2.1 κ.1 κ.2.1 κ.2.2.1 κ.2.2.2.1 (sN σ))) ++ [(qn, .inr (1, [.int 0, .int 0, .int 0, .int 0, .long 0, .long 0, .long 0, .long 0, .int 0]))]) H := hP
                    have hD : va_D A ((CW G a (nI (sG σ).length) (sT σ) (sR σ) κ.2.2.2.2.2.1 κ.2.2.2.2.2.2 (pO κ.2.2.2.2.1 (sO σ) (sN σ)) (LW G a.2.1 κ.1 κ.2.1 κ.2.2.1 κ.2.2.2.1 (sN σ))) ++ [(qn, .inr (1, [.int 0, .int 0, .int 0, .int 0, .long 0, .long 0, .long 0, .long 0, .int 0]))]) := hD
                    refine lv_dup hx hb dX1_order_124 rfl ?_
                    refine lv_iload_n hx hb dX1_order_125 rfl (lv_at hl 2 rfl) ?_
                    refine lv_iload_n hx hb dX1_order_126 rfl (lv_at hl 3 rfl) ?_
                    refine lv_iload_n hx hb dX1_order_127 rfl (lv_at hl 4 rfl) ?_
                    refine lv_iload hx hb dX1_order_128 (lv_at hl 5 rfl) ?_
                    refine lv_lload hx hb dX1_order_130 (lv_at hl 6 rfl) ?_
                    refine lv_lload hx hb dX1_order_132 (lv_at hl 7 rfl) ?_
                    refine lv_aload_n hx hb dX1_order_134 rfl (lv_at hl 1 rfl) ?_
                    refine va_get (D := G.1) (ci := 2) (v := .long (sT σ)) (own := RX1) (C := RX1) (T := TX1) (N := 6) hx hb hts hiX1 hown hK.1 hP 0 rfl rfl 5 (by decide) lf30 (fun _ h9 => h9) rfl dX1_order_135 ?_
                    refine wrI_v (wr := (CW G a (nI (sG σ).length) (sT σ) (sR σ) κ.2.2.2.2.2.1 κ.2.2.2.2.2.2 (pO κ.2.2.2.2.1 (sO σ) (sN σ)) (LW G a.2.1 κ.1 κ.2.1 κ.2.2.1 κ.2.2.2.1 (sN σ)))) (b := qn) (As := [.int kd, .int en, .int wh, .int to, .long fr, .long un, .long (sT σ)]) (rest := [.ref qn, .ref a.2.1]) ⟨hx, hb, hml, hown, hts⟩ (c_X0_init l G qn kd en wh to fr un (sT σ)) cw58 hK hZ hP hD hS hA rfl hl.1 rfl (Nat.le_of_ble_eq_true rfl) dX1_order_138 ⟨(Nat.le_of_ble_eq_true rfl), (Nat.le_of_ble_eq_true rfl)⟩ (fun _ H locs _ hP hD hS => ?_)
                    have hP : va_P G.1 vwCl ((CW G a (nI (sG σ).length) (sT σ) (sR σ) κ.2.2.2.2.2.1 κ.2.2.2.2.2.2 (pO κ.2.2.2.2.1 (sO σ) (sN σ)) (LW G a.2.1 κ.1 κ.2.1 κ.2.2.1 κ.2.2.2.1 (sN σ))) ++ [(qn, .inr (1, fl (kd, en, wh, to, fr, sT σ, un, 20001, 0)))]) H := hP
                    have hD : va_D A ((CW G a (nI (sG σ).length) (sT σ) (sR σ) κ.2.2.2.2.2.1 κ.2.2.2.2.2.2 (pO κ.2.2.2.2.1 (sO σ) (sN σ)) (LW G a.2.1 κ.1 κ.2.1 κ.2.2.1 κ.2.2.2.1 (sN σ))) ++ [(qn, .inr (1, fl (kd, en, wh, to, fr, sT σ, un, 20001, 0)))]) := hD
                    have tail : ∀ (ux : Int32 × Nat × Nat × (Nat → Option Nat)) (r : Int32) (H : Heap) (locs : List Loc), sN σ + 1 ≤ ux.2.2.1 → ux.2.2.1 ≤ 400 → ux.2.2.2 (sN σ) = some qn → (∀ i, i < sN σ → ux.2.2.2 i = some (κ.2.2.2.2.1 i)) → va_P G.1 vwCl ((CX G a (nI (sG σ).length) (sT σ) (sR σ) κ.2.2.2.2.2.1 κ.2.2.2.2.2.2) ++ ([(a.2.1, .inr (0, [.int ux.1, .ref ux.2.1, .int (nI (sN σ + 1))])), aO G ux.2.1 ux.2.2.1 ux.2.2.2] ++ ((pO κ.2.2.2.2.1 (sO σ) (sN σ)) ++ [(qn, Sum.inr (1, fl (kd, en, wh, to, fr, sT σ, un, 20001, 0)))] : va_W))) H → va_D A ((CX G a (nI (sG σ).length) (sT σ) (sR σ) κ.2.2.2.2.2.1 κ.2.2.2.2.2.2) ++ ([(a.2.1, .inr (0, [.int ux.1, .ref ux.2.1, .int (nI (sN σ + 1))])), aO G ux.2.1 ux.2.2.1 ux.2.2.2] ++ ((pO κ.2.2.2.2.1 (sO σ) (sN σ)) ++ [(qn, Sum.inr (1, fl (kd, en, wh, to, fr, sT σ, un, 20001, 0)))] : va_W))) → va_S A s.heap H locs → W p l e (rmX 7 280 2 409) s m args below meth c H locs (0 + 1 + 0 + 1) (0 + 9 + 0 + 400) Q (F0 m 144 ls [.int r]) := by
                      intro ux r H locs g1 g2 g3 g4 hP hD hS
                      have hP := back_P hP
                      have hD := back_D hD
                      rw [pO_push, ← LW_pos (G := G) (h := a.2.1) (md := ux.1) (a2 := ux.2.1) (N := ux.2.2.1) (f := ux.2.2.2) (n := sN σ + 1) (by omega)] at hP hD
                      have hP : va_P G.1 vwCl (CW G a (nI (sG σ).length) (sT σ) (sR σ) κ.2.2.2.2.2.1 κ.2.2.2.2.2.2 (pO (kNew κ ux (sN σ) qn).2.2.2.2.1 (va_up (sO σ) (sN σ) (kd, en, wh, to, fr, sT σ, un, 20001, 0)) (sN σ + 1)) (LW G a.2.1 (kNew κ ux (sN σ) qn).1 (kNew κ ux (sN σ) qn).2.1 (kNew κ ux (sN σ) qn).2.2.1 (kNew κ ux (sN σ) qn).2.2.2.1 (sN σ + 1))) H := hP
                      have hD : va_D A (CW G a (nI (sG σ).length) (sT σ) (sR σ) κ.2.2.2.2.2.1 κ.2.2.2.2.2.2 (pO (kNew κ ux (sN σ) qn).2.2.2.2.1 (va_up (sO σ) (sN σ) (kd, en, wh, to, fr, sT σ, un, 20001, 0)) (sN σ + 1)) (LW G a.2.1 (kNew κ ux (sN σ) qn).1 (kNew κ ux (sN σ) qn).2.1 (kNew κ ux (sN σ) qn).2.2.1 (kNew κ ux (sN σ) qn).2.2.2.1 (sN σ + 1))) := hD
                      refine lv_pop hx hb dX1_order_144 rfl ?_
                      refine lv_aload_n hx hb dX1_order_145 rfl (lv_at hl 1 rfl) ?_
                      refine va_get (D := G.1) (ci := 2) (v := .ref a.2.1) (own := RX1) (C := RX1) (T := TX1) (N := 6) hx hb hts hiX1 hown hK.1 hP 0 rfl rfl 0 (by decide) lf10 (fun _ h9 => h9) rfl dX1_order_146 ?_
                      refine rdV_i (b := a.2.1) (As := []) (rest := []) ⟨hx, hb, hml, hown, hts⟩ (c_Jx4a65c_size_8abf5 l G a.2.1 (kNew κ ux (sN σ) qn).1 (nI (sN σ + 1)) _) cw52 hK (LW_one (CW_list hP)) 0 rfl rfl rfl rfl hl.1 rfl (Nat.le_of_ble_eq_true rfl) dX1_order_149 ⟨Nat.le_of_ble_eq_true rfl, Nat.le_of_ble_eq_true rfl⟩ (fun r31 w31 => ?_)
                      have w31 : r31.toInt = (((sN σ + 1) : Nat) : Int) := by rw [w31]; exact ti_nI (by omega)
                      have hF : fOrder σ kd en wh to fr un = (nI (sN σ + 1), (sN σ + 1, va_up (sO σ) (sN σ) (kd, en, wh, to, fr, sT σ, un, 20001, 0), sT σ, sR σ, sG σ)) := (if_neg (by omega)).trans ((if_neg (by omega)).trans (if_neg (by omega)))
                      obtain rfl : r31 = nI (sN σ + 1) := nI_ofI w31
                      exact hret _ _ _ _ _ _ _ (kNew κ ux (sN σ) qn) dX1_order_152 (Or.inr (Or.inr rfl)) (by rw [hF]; exact ⟨rfl, CI_new hC g1 g2 g3 g4⟩) (by rw [hF]; exact hP) (by rw [hF]; exact hD) hS (Nat.le_of_ble_eq_true rfl) (Nat.le_of_ble_eq_true rfl)
                    have hP := ord_P (x := (CX G a (nI (sG σ).length) (sT σ) (sR σ) κ.2.2.2.2.2.1 κ.2.2.2.2.2.2)) hP
                    have hD := ord_D (x := (CX G a (nI (sG σ).length) (sT σ) (sR σ) κ.2.2.2.2.2.1 κ.2.2.2.2.2.2)) hD
                    rcases Nat.eq_zero_or_pos (sN σ) with hz | hz
                    · rw [LW_zero hz] at hP hD
                      refine wrV_i (wr := (CX G a (nI (sG σ).length) (sT σ) (sR σ) κ.2.2.2.2.2.1 κ.2.2.2.2.2.2)) (b := a.2.1) (As := [.ref qn]) (rest := []) ⟨hx, hb, hml, hown, hts⟩ (c_Jx4a65c_add_9ea2d_0 l G a.2.1 qn κ.1 ((pO κ.2.2.2.2.1 (sO σ) (sN σ)) ++ [(qn, Sum.inr (1, fl (kd, en, wh, to, fr, sT σ, un, 20001, 0)))] : va_W) (sN σ) (fl (kd, en, wh, to, fr, sT σ, un, 20001, 0)) tl_new) cw61 hK hZ hP hD hS hA 0 rfl rfl rfl rfl hl.1 rfl (Nat.le_of_ble_eq_true rfl) dX1_order_141 ⟨(Nat.le_of_ble_eq_true rfl), (Nat.le_of_ble_eq_true rfl)⟩ (fun r u H locs wu hP hD hS => ?_)
                      obtain ⟨g1, g2, g3⟩ := wu
                      exact tail u r H locs (by rw [hz]; exact g1) g2 (by rw [hz]; exact g3) (fun i hi => absurd hi (by omega)) (by rw [hz] at hP ⊢; exact hP) (by rw [hz] at hD ⊢; exact hD) hS
                    · obtain ⟨k1, k2, k3⟩ := hC.1 hz
                      rw [LW_pos (show sN σ ≠ 0 by omega)] at hP hD
                      rcases Nat.lt_or_ge (sN σ) κ.2.2.1 with hnN | hnN
                      · refine wrV_i (wr := (CX G a (nI (sG σ).length) (sT σ) (sR σ) κ.2.2.2.2.2.1 κ.2.2.2.2.2.2)) (b := a.2.1) (As := [.ref qn]) (rest := []) ⟨hx, hb, hml, hown, hts⟩ (c_Jx4a65c_add_9ea2d_s l G a.2.1 qn κ.1 κ.2.1 (sN σ) κ.2.2.1 κ.2.2.2.1 hz hnN k2 hI1 ((pO κ.2.2.2.2.1 (sO σ) (sN σ)) ++ [(qn, Sum.inr (1, fl (kd, en, wh, to, fr, sT σ, un, 20001, 0)))] : va_W) (sN σ) (fl (kd, en, wh, to, fr, sT σ, un, 20001, 0)) tl_new) cw61 hK hZ hP hD hS hA 0 rfl rfl rfl rfl hl.1 rfl (Nat.le_of_ble_eq_true rfl) dX1_order_141 ⟨(Nat.le_of_ble_eq_true rfl), (Nat.le_of_ble_eq_true rfl)⟩ (fun r u H locs wu hP hD hS => ?_)
                        obtain ⟨g1, g2, g3, g4⟩ := wu
                        exact tail u r H locs g1 g2 g3 (fun i hi => (g4 i hi).trans (k3 i hi)) hP hD hS
                      · have eN : κ.2.2.1 = sN σ := by omega
                        rw [eN] at hP hD
                        refine wrV_i (wr := (CX G a (nI (sG σ).length) (sT σ) (sR σ) κ.2.2.2.2.2.1 κ.2.2.2.2.2.2)) (b := a.2.1) (As := [.ref qn]) (rest := []) ⟨hx, hb, hml, hown, hts⟩ (c_Jx4a65c_add_9ea2d_g l G a.2.1 qn κ.1 κ.2.1 (sN σ) κ.2.2.2.1 hz hI1 ((pO κ.2.2.2.2.1 (sO σ) (sN σ)) ++ [(qn, Sum.inr (1, fl (kd, en, wh, to, fr, sT σ, un, 20001, 0)))] : va_W) (fun i hi => ⟨_, i, _, k3 i hi, tl_get hi⟩) (sN σ) (fl (kd, en, wh, to, fr, sT σ, un, 20001, 0)) tl_new) cw61 hK hZ hP hD hS hA 0 rfl rfl rfl rfl hl.1 rfl (Nat.le_of_ble_eq_true rfl) dX1_order_141 ⟨(Nat.le_of_ble_eq_true rfl), (Nat.le_of_ble_eq_true rfl)⟩ (fun r u H locs wu hP hD hS => ?_)
                        obtain ⟨g1, g2, g3, g4⟩ := wu
                        exact tail u r H locs g1 g2 g3 (fun i hi => (g4 i hi).trans (k3 i hi)) hP hD hS
                  · have c111_30 : ¬ ((((sN σ) : Nat) : Int) < 200) := mt (ti_lt (x := r29) (y := 200) (a := (((sN σ) : Nat) : Int)) (b := 200) w29 rfl).mpr c111_30
                    refine lv_bipush (v := (-104)) hx hb dX1_order_114 (by decide) ?_
                    have hF : fOrder σ kd en wh to fr un = ((-104), σ) := (if_neg (by omega)).trans ((if_neg (by omega)).trans (if_pos (by omega)))
                    exact hret _ _ _ _ _ _ _ κ dX1_order_116 (Or.inr (Or.inr rfl)) (by rw [hF]; exact ⟨rfl, hC⟩) (by rw [hF]; exact hP) (by rw [hF]; exact hD) hS (Nat.zero_le _) (Nat.zero_le _)
  · have c4_2 : ¬ ((r1_1).toInt = 0) := mt (ti_eq (x := r1_1) (y := 0) (a := (r1_1).toInt) (b := 0) rfl rfl).mpr c4_2
    refine lv_iload_n hx hb dX1_order_7 rfl (lv_at hl 1 rfl) ?_
    refine rdS_i (As := [.int kd]) (rest := []) ⟨hx, hb, hml, hown, hts⟩ (c_X1_doneBy l G kd (by omega)) cw38 hK va_P.nil rfl hl.1 rfl (Nat.le_of_ble_eq_true rfl) dX1_order_8 ⟨Nat.zero_le _, Nat.zero_le _⟩ (fun r8_32 w8_32 => ?_)
    have w8_32 : r8_32.toInt = (kd).toInt / 3 := w8_32
    refine lv_if_ne (tgt := 18) hx hb dX1_order_11 (by decide) (fun c11_33 => ?_) (fun c11_33 => ?_)
    · have c11_33 : ¬ ((r8_32).toInt = 0) := mt (ti_eq (x := r8_32) (y := 0) (a := (r8_32).toInt) (b := 0) rfl rfl).mpr c11_33
      refine lv_iconst (v := 0) hx hb dX1_order_18 (by decide) ?_
      refine lv_istore (lv' := [(9, .int 0), (0, .ref a.1), (1, .int kd), (2, .int en), (3, .int wh), (4, .int to), (5, .long fr), (7, .long un)]) hx hb dX1_order_19 hl (by decide) rfl (fun ls hl => ?_)
      refine lv_iload_n hx hb dX1_order_21 rfl (lv_at hl 3 rfl) ?_
      refine rdS_i (As := [.int en]) (rest := []) ⟨hx, hb, hml, hown, hts⟩ (c_X1_isAddress l G en) cw42 hK va_P.nil rfl hl.1 rfl (Nat.le_of_ble_eq_true rfl) dX1_order_22 ⟨Nat.zero_le _, Nat.zero_le _⟩ (fun r22_34 w22_34 => ?_)
      have w22_34 : ((r22_34.toInt = 1 ∧ (1 ≤ (en).toInt ∧ (en).toInt ≤ 99)) ∨ (r22_34.toInt = 0 ∧ ¬ (1 ≤ (en).toInt ∧ (en).toInt ≤ 99))) := w22_34
      refine lv_if_eq (tgt := 53) hx hb dX1_order_25 (by decide) (fun c25_35 => ?_) (fun c25_35 => ?_)
      · have c25_35 : (r22_34).toInt = 0 := (ti_eq (x := r22_34) (y := 0) (a := (r22_34).toInt) (b := 0) rfl rfl).mp c25_35
        refine lv_bipush (v := (-101)) hx hb dX1_order_53 (by decide) ?_
        have hF : fOrder σ kd en wh to fr un = ((-101), σ) := if_pos (by omega)
        exact hret _ _ _ _ _ _ _ κ dX1_order_55 (Or.inr (Or.inr rfl)) (by rw [hF]; exact ⟨rfl, hC⟩) (by rw [hF]; exact hP) (by rw [hF]; exact hD) hS (Nat.zero_le _) (Nat.zero_le _)
      · have c25_35 : ¬ ((r22_34).toInt = 0) := mt (ti_eq (x := r22_34) (y := 0) (a := (r22_34).toInt) (b := 0) rfl rfl).mpr c25_35
        refine lv_iload_n hx hb dX1_order_28 rfl (lv_at hl 4 rfl) ?_
        refine lv_iconst (v := (-1)) hx hb dX1_order_29 (by decide) ?_
        refine lv_icmp_eq (tgt := 40) hx hb dX1_order_30 (by decide) (fun c30_36 => ?_) (fun c30_36 => ?_)
        · have c30_36 : (wh).toInt = (-1) := (ti_eq (x := wh) (y := (-1)) (a := (wh).toInt) (b := (-1)) rfl rfl).mp c30_36
          refine lv_iload hx hb dX1_order_40 (lv_at hl 0 rfl) ?_
          refine lv_if_eq (tgt := 56) hx hb dX1_order_42 (by decide) (fun _ => ?_) (fun c42_37 => absurd (by decide) c42_37)
          refine lv_iload_n hx hb dX1_order_56 rfl (lv_at hl 2 rfl) ?_
          refine rdS_i (As := [.int kd]) (rest := []) ⟨hx, hb, hml, hown, hts⟩ (c_X1_isKind l G kd) cw34 hK va_P.nil rfl hl.1 rfl (Nat.le_of_ble_eq_true rfl) dX1_order_57 ⟨Nat.zero_le _, Nat.zero_le _⟩ (fun r57_38 w57_38 => ?_)
          have w57_38 : ((r57_38.toInt = 1 ∧ (0 ≤ (kd).toInt ∧ (kd).toInt < 9)) ∨ (r57_38.toInt = 0 ∧ ¬ (0 ≤ (kd).toInt ∧ (kd).toInt < 9))) := w57_38
          refine lv_if_eq (tgt := 98) hx hb dX1_order_60 (by decide) (fun c60_39 => ?_) (fun c60_39 => ?_)
          · have c60_39 : (r57_38).toInt = 0 := (ti_eq (x := r57_38) (y := 0) (a := (r57_38).toInt) (b := 0) rfl rfl).mp c60_39
            refine lv_bipush (v := (-102)) hx hb dX1_order_98 (by decide) ?_
            have hF : fOrder σ kd en wh to fr un = ((-102), σ) := (if_neg (by omega)).trans (if_pos (by omega))
            exact hret _ _ _ _ _ _ _ κ dX1_order_100 (Or.inr (Or.inr rfl)) (by rw [hF]; exact ⟨rfl, hC⟩) (by rw [hF]; exact hP) (by rw [hF]; exact hD) hS (Nat.zero_le _) (Nat.zero_le _)
          · have c60_39 : ¬ ((r57_38).toInt = 0) := mt (ti_eq (x := r57_38) (y := 0) (a := (r57_38).toInt) (b := 0) rfl rfl).mpr c60_39
            refine lv_lload hx hb dX1_order_63 (lv_at hl 6 rfl) ?_
            refine rdS_i (As := [.long fr]) (rest := []) ⟨hx, hb, hml, hown, hts⟩ (c_X1_isDay l G fr) cw48 hK va_P.nil rfl hl.1 rfl (Nat.le_of_ble_eq_true rfl) dX1_order_65 ⟨Nat.zero_le _, Nat.zero_le _⟩ (fun r65_40 w65_40 => ?_)
            have w65_40 : ((r65_40.toInt = 1 ∧ (0 ≤ (fr).toInt ∧ (fr).toInt ≤ 20000)) ∨ (r65_40.toInt = 0 ∧ ¬ (0 ≤ (fr).toInt ∧ (fr).toInt ≤ 20000))) := w65_40
            refine lv_if_eq (tgt := 98) hx hb dX1_order_68 (by decide) (fun c68_41 => ?_) (fun c68_41 => ?_)
            · have c68_41 : (r65_40).toInt = 0 := (ti_eq (x := r65_40) (y := 0) (a := (r65_40).toInt) (b := 0) rfl rfl).mp c68_41
              refine lv_bipush (v := (-102)) hx hb dX1_order_98 (by decide) ?_
              have hF : fOrder σ kd en wh to fr un = ((-102), σ) := (if_neg (by omega)).trans (if_pos (by omega))
              exact hret _ _ _ _ _ _ _ κ dX1_order_100 (Or.inr (Or.inr rfl)) (by rw [hF]; exact ⟨rfl, hC⟩) (by rw [hF]; exact hP) (by rw [hF]; exact hD) hS (Nat.zero_le _) (Nat.zero_le _)
            · have c68_41 : ¬ ((r65_40).toInt = 0) := mt (ti_eq (x := r65_40) (y := 0) (a := (r65_40).toInt) (b := 0) rfl rfl).mpr c68_41
              refine lv_lload hx hb dX1_order_71 (lv_at hl 7 rfl) ?_
              refine rdS_i (As := [.long un]) (rest := []) ⟨hx, hb, hml, hown, hts⟩ (c_X1_isDay l G un) cw48 hK va_P.nil rfl hl.1 rfl (Nat.le_of_ble_eq_true rfl) dX1_order_73 ⟨Nat.zero_le _, Nat.zero_le _⟩ (fun r73_42 w73_42 => ?_)
              have w73_42 : ((r73_42.toInt = 1 ∧ (0 ≤ (un).toInt ∧ (un).toInt ≤ 20000)) ∨ (r73_42.toInt = 0 ∧ ¬ (0 ≤ (un).toInt ∧ (un).toInt ≤ 20000))) := w73_42
              refine lv_if_eq (tgt := 98) hx hb dX1_order_76 (by decide) (fun c76_43 => ?_) (fun c76_43 => ?_)
              · have c76_43 : (r73_42).toInt = 0 := (ti_eq (x := r73_42) (y := 0) (a := (r73_42).toInt) (b := 0) rfl rfl).mp c76_43
                refine lv_bipush (v := (-102)) hx hb dX1_order_98 (by decide) ?_
                have hF : fOrder σ kd en wh to fr un = ((-102), σ) := (if_neg (by omega)).trans (if_pos (by omega))
                exact hret _ _ _ _ _ _ _ κ dX1_order_100 (Or.inr (Or.inr rfl)) (by rw [hF]; exact ⟨rfl, hC⟩) (by rw [hF]; exact hP) (by rw [hF]; exact hD) hS (Nat.zero_le _) (Nat.zero_le _)
              · have c76_43 : ¬ ((r73_42).toInt = 0) := mt (ti_eq (x := r73_42) (y := 0) (a := (r73_42).toInt) (b := 0) rfl rfl).mpr c76_43
                refine lv_lload hx hb dX1_order_79 (lv_at hl 7 rfl) ?_
                refine lv_lload hx hb dX1_order_81 (lv_at hl 6 rfl) ?_
                refine lc_lt (tgt := 98) hx hb dX1_order_83 dX1_order_84 (by decide) (fun c83_44 => ?_) (fun c83_44 => ?_)
                · have c83_44 : (un).toInt < (fr).toInt := (tl_lt (x := un) (y := fr) (a := (un).toInt) (b := (fr).toInt) rfl rfl).mp c83_44
                  refine lv_bipush (v := (-102)) hx hb dX1_order_98 (by decide) ?_
                  have hF : fOrder σ kd en wh to fr un = ((-102), σ) := (if_neg (by omega)).trans (if_pos (by omega))
                  exact hret _ _ _ _ _ _ _ κ dX1_order_100 (Or.inr (Or.inr rfl)) (by rw [hF]; exact ⟨rfl, hC⟩) (by rw [hF]; exact hP) (by rw [hF]; exact hD) hS (Nat.zero_le _) (Nat.zero_le _)
                · have c83_44 : ¬ ((un).toInt < (fr).toInt) := mt (tl_lt (x := un) (y := fr) (a := (un).toInt) (b := (fr).toInt) rfl rfl).mpr c83_44
                  refine lv_iload hx hb dX1_order_87 (lv_at hl 0 rfl) ?_
                  refine lv_if_eq (tgt := 101) hx hb dX1_order_89 (by decide) (fun _ => ?_) (fun c89_45 => absurd (by decide) c89_45)
                  refine lv_aload_n hx hb dX1_order_101 rfl (lv_at hl 1 rfl) ?_
                  refine va_get (D := G.1) (ci := 2) (v := .ref a.2.1) (own := RX1) (C := RX1) (T := TX1) (N := 6) hx hb hts hiX1 hown hK.1 hP 0 rfl rfl 0 (by decide) lf10 (fun _ h9 => h9) rfl dX1_order_102 ?_
                  refine rdV_i (b := a.2.1) (As := []) (rest := []) ⟨hx, hb, hml, hown, hts⟩ (c_Jx4a65c_size_8abf5 l G a.2.1 κ.1 (nI (sN σ)) _) cw52 hK (LW_one (CW_list hP)) 0 rfl rfl rfl rfl hl.1 rfl (Nat.le_of_ble_eq_true rfl) dX1_order_105 ⟨Nat.zero_le _, Nat.zero_le _⟩ (fun r46 w46 => ?_)
                  have w46 : r46.toInt = (((sN σ) : Nat) : Int) := by rw [w46]; exact ti_nI (by omega)
                  refine lv_sipush (v := 200) hx hb dX1_order_108 (by decide) ?_
                  refine lv_icmp_lt (tgt := 117) hx hb dX1_order_111 (by decide) (fun c111_47 => ?_) (fun c111_47 => ?_)
                  · have c111_47 : (((sN σ) : Nat) : Int) < 200 := (ti_lt (x := r46) (y := 200) (a := (((sN σ) : Nat) : Int)) (b := 200) w46 rfl).mp c111_47
                    refine lv_aload_n hx hb dX1_order_117 rfl (lv_at hl 1 rfl) ?_
                    refine va_get (D := G.1) (ci := 2) (v := .ref a.2.1) (own := RX1) (C := RX1) (T := TX1) (N := 6) hx hb hts hiX1 hown hK.1 hP 0 rfl rfl 0 (by decide) lf10 (fun _ h9 => h9) rfl dX1_order_118 ?_
                    refine va_new (ci := 1) (fs := [.int 0, .int 0, .int 0, .int 0, .long 0, .long 0, .long 0, .long 0, .int 0]) (own := RX1) (C := RX0) (T := TX0) (N := 9) hx hb hts hiX0 tyX0 tyX0_ok hown (hts (.classLink RX1 56 RX0) (by decide +kernel)) (hts (.instantiable RX0 9) (by decide +kernel)) (hts (.initialized RX0) (by decide +kernel)) hK.1 hP hD hS hA rfl (fun j hj => by rcases (show j = 0 ∨ j = 1 ∨ j = 2 ∨ j = 3 ∨ j = 4 ∨ j = 5 ∨ j = 6 ∨ j = 7 ∨ j = 8 by omega) with rfl | rfl | rfl | rfl | rfl | rfl | rfl | rfl | rfl <;> rfl) (Nat.le_of_ble_eq_true rfl) (Nat.le_of_ble_eq_true rfl) dX1_order_121 (fun qn H hP hD hS => ?_)
                    have hP : va_P G.1 vwCl ((CW G a (nI (sG σ).length) (sT σ) (sR σ) κ.2.2.2.2.2.1 κ.2.2.2.2.2.2 (pO κ.2.2.2.2.1 (sO σ) (sN σ)) (LW G a.2.1 κ.1 κ.2.1 κ.2.2.1 κ.2.2.2.1 (sN σ))) ++ [(qn, .inr (1, [.int 0, .int 0, .int 0, .int 0, .long 0, .long 0, .long 0, .long 0, .int 0]))]) H := hP
                    have hD : va_D A ((CW G a (nI (sG σ).length) (sT σ) (sR σ) κ.2.2.2.2.2.1 κ.2.2.2.2.2.2 (pO κ.2.2.2.2.1 (sO σ) (sN σ)) (LW G a.2.1 κ.1 κ.2.1 κ.2.2.1 κ.2.2.2.1 (sN σ))) ++ [(qn, .inr (1, [.int 0, .int 0, .int 0, .int 0, .long 0, .long 0, .long 0, .long 0, .int 0]))]) := hD
                    refine lv_dup hx hb dX1_order_124 rfl ?_
                    refine lv_iload_n hx hb dX1_order_125 rfl (lv_at hl 2 rfl) ?_
                    refine lv_iload_n hx hb dX1_order_126 rfl (lv_at hl 3 rfl) ?_
                    refine lv_iload_n hx hb dX1_order_127 rfl (lv_at hl 4 rfl) ?_
                    refine lv_iload hx hb dX1_order_128 (lv_at hl 5 rfl) ?_
                    refine lv_lload hx hb dX1_order_130 (lv_at hl 6 rfl) ?_
                    refine lv_lload hx hb dX1_order_132 (lv_at hl 7 rfl) ?_
                    refine lv_aload_n hx hb dX1_order_134 rfl (lv_at hl 1 rfl) ?_
                    refine va_get (D := G.1) (ci := 2) (v := .long (sT σ)) (own := RX1) (C := RX1) (T := TX1) (N := 6) hx hb hts hiX1 hown hK.1 hP 0 rfl rfl 5 (by decide) lf30 (fun _ h9 => h9) rfl dX1_order_135 ?_
                    refine wrI_v (wr := (CW G a (nI (sG σ).length) (sT σ) (sR σ) κ.2.2.2.2.2.1 κ.2.2.2.2.2.2 (pO κ.2.2.2.2.1 (sO σ) (sN σ)) (LW G a.2.1 κ.1 κ.2.1 κ.2.2.1 κ.2.2.2.1 (sN σ)))) (b := qn) (As := [.int kd, .int en, .int wh, .int to, .long fr, .long un, .long (sT σ)]) (rest := [.ref qn, .ref a.2.1]) ⟨hx, hb, hml, hown, hts⟩ (c_X0_init l G qn kd en wh to fr un (sT σ)) cw58 hK hZ hP hD hS hA rfl hl.1 rfl (Nat.le_of_ble_eq_true rfl) dX1_order_138 ⟨(Nat.le_of_ble_eq_true rfl), (Nat.le_of_ble_eq_true rfl)⟩ (fun _ H locs _ hP hD hS => ?_)
                    have hP : va_P G.1 vwCl ((CW G a (nI (sG σ).length) (sT σ) (sR σ) κ.2.2.2.2.2.1 κ.2.2.2.2.2.2 (pO κ.2.2.2.2.1 (sO σ) (sN σ)) (LW G a.2.1 κ.1 κ.2.1 κ.2.2.1 κ.2.2.2.1 (sN σ))) ++ [(qn, .inr (1, fl (kd, en, wh, to, fr, sT σ, un, 20001, 0)))]) H := hP
                    have hD : va_D A ((CW G a (nI (sG σ).length) (sT σ) (sR σ) κ.2.2.2.2.2.1 κ.2.2.2.2.2.2 (pO κ.2.2.2.2.1 (sO σ) (sN σ)) (LW G a.2.1 κ.1 κ.2.1 κ.2.2.1 κ.2.2.2.1 (sN σ))) ++ [(qn, .inr (1, fl (kd, en, wh, to, fr, sT σ, un, 20001, 0)))]) := hD
                    have tail : ∀ (ux : Int32 × Nat × Nat × (Nat → Option Nat)) (r : Int32) (H : Heap) (locs : List Loc), sN σ + 1 ≤ ux.2.2.1 → ux.2.2.1 ≤ 400 → ux.2.2.2 (sN σ) = some qn → (∀ i, i < sN σ → ux.2.2.2 i = some (κ.2.2.2.2.1 i)) → va_P G.1 vwCl ((CX G a (nI (sG σ).length) (sT σ) (sR σ) κ.2.2.2.2.2.1 κ.2.2.2.2.2.2) ++ ([(a.2.1, .inr (0, [.int ux.1, .ref ux.2.1, .int (nI (sN σ + 1))])), aO G ux.2.1 ux.2.2.1 ux.2.2.2] ++ ((pO κ.2.2.2.2.1 (sO σ) (sN σ)) ++ [(qn, Sum.inr (1, fl (kd, en, wh, to, fr, sT σ, un, 20001, 0)))] : va_W))) H → va_D A ((CX G a (nI (sG σ).length) (sT σ) (sR σ) κ.2.2.2.2.2.1 κ.2.2.2.2.2.2) ++ ([(a.2.1, .inr (0, [.int ux.1, .ref ux.2.1, .int (nI (sN σ + 1))])), aO G ux.2.1 ux.2.2.1 ux.2.2.2] ++ ((pO κ.2.2.2.2.1 (sO σ) (sN σ)) ++ [(qn, Sum.inr (1, fl (kd, en, wh, to, fr, sT σ, un, 20001, 0)))] : va_W))) → va_S A s.heap H locs → W p l e (rmX 7 280 2 409) s m args below meth c H locs (0 + 1 + 0 + 1) (0 + 9 + 0 + 400) Q (F0 m 144 ls [.int r]) := by
                      intro ux r H locs g1 g2 g3 g4 hP hD hS
                      have hP := back_P hP
                      have hD := back_D hD
                      rw [pO_push, ← LW_pos (G := G) (h := a.2.1) (md := ux.1) (a2 := ux.2.1) (N := ux.2.2.1) (f := ux.2.2.2) (n := sN σ + 1) (by omega)] at hP hD
                      have hP : va_P G.1 vwCl (CW G a (nI (sG σ).length) (sT σ) (sR σ) κ.2.2.2.2.2.1 κ.2.2.2.2.2.2 (pO (kNew κ ux (sN σ) qn).2.2.2.2.1 (va_up (sO σ) (sN σ) (kd, en, wh, to, fr, sT σ, un, 20001, 0)) (sN σ + 1)) (LW G a.2.1 (kNew κ ux (sN σ) qn).1 (kNew κ ux (sN σ) qn).2.1 (kNew κ ux (sN σ) qn).2.2.1 (kNew κ ux (sN σ) qn).2.2.2.1 (sN σ + 1))) H := hP
                      have hD : va_D A (CW G a (nI (sG σ).length) (sT σ) (sR σ) κ.2.2.2.2.2.1 κ.2.2.2.2.2.2 (pO (kNew κ ux (sN σ) qn).2.2.2.2.1 (va_up (sO σ) (sN σ) (kd, en, wh, to, fr, sT σ, un, 20001, 0)) (sN σ + 1)) (LW G a.2.1 (kNew κ ux (sN σ) qn).1 (kNew κ ux (sN σ) qn).2.1 (kNew κ ux (sN σ) qn).2.2.1 (kNew κ ux (sN σ) qn).2.2.2.1 (sN σ + 1))) := hD
                      refine lv_pop hx hb dX1_order_144 rfl ?_
                      refine lv_aload_n hx hb dX1_order_145 rfl (lv_at hl 1 rfl) ?_
                      refine va_get (D := G.1) (ci := 2) (v := .ref a.2.1) (own := RX1) (C := RX1) (T := TX1) (N := 6) hx hb hts hiX1 hown hK.1 hP 0 rfl rfl 0 (by decide) lf10 (fun _ h9 => h9) rfl dX1_order_146 ?_
                      refine rdV_i (b := a.2.1) (As := []) (rest := []) ⟨hx, hb, hml, hown, hts⟩ (c_Jx4a65c_size_8abf5 l G a.2.1 (kNew κ ux (sN σ) qn).1 (nI (sN σ + 1)) _) cw52 hK (LW_one (CW_list hP)) 0 rfl rfl rfl rfl hl.1 rfl (Nat.le_of_ble_eq_true rfl) dX1_order_149 ⟨Nat.le_of_ble_eq_true rfl, Nat.le_of_ble_eq_true rfl⟩ (fun r48 w48 => ?_)
                      have w48 : r48.toInt = (((sN σ + 1) : Nat) : Int) := by rw [w48]; exact ti_nI (by omega)
                      have hF : fOrder σ kd en wh to fr un = (nI (sN σ + 1), (sN σ + 1, va_up (sO σ) (sN σ) (kd, en, wh, to, fr, sT σ, un, 20001, 0), sT σ, sR σ, sG σ)) := (if_neg (by omega)).trans ((if_neg (by omega)).trans (if_neg (by omega)))
                      obtain rfl : r48 = nI (sN σ + 1) := nI_ofI w48
                      exact hret _ _ _ _ _ _ _ (kNew κ ux (sN σ) qn) dX1_order_152 (Or.inr (Or.inr rfl)) (by rw [hF]; exact ⟨rfl, CI_new hC g1 g2 g3 g4⟩) (by rw [hF]; exact hP) (by rw [hF]; exact hD) hS (Nat.le_of_ble_eq_true rfl) (Nat.le_of_ble_eq_true rfl)
                    have hP := ord_P (x := (CX G a (nI (sG σ).length) (sT σ) (sR σ) κ.2.2.2.2.2.1 κ.2.2.2.2.2.2)) hP
                    have hD := ord_D (x := (CX G a (nI (sG σ).length) (sT σ) (sR σ) κ.2.2.2.2.2.1 κ.2.2.2.2.2.2)) hD
                    rcases Nat.eq_zero_or_pos (sN σ) with hz | hz
                    · rw [LW_zero hz] at hP hD
                      refine wrV_i (wr := (CX G a (nI (sG σ).length) (sT σ) (sR σ) κ.2.2.2.2.2.1 κ.2.2.2.2.2.2)) (b := a.2.1) (As := [.ref qn]) (rest := []) ⟨hx, hb, hml, hown, hts⟩ (c_Jx4a65c_add_9ea2d_0 l G a.2.1 qn κ.1 ((pO κ.2.2.2.2.1 (sO σ) (sN σ)) ++ [(qn, Sum.inr (1, fl (kd, en, wh, to, fr, sT σ, un, 20001, 0)))] : va_W) (sN σ) (fl (kd, en, wh, to, fr, sT σ, un, 20001, 0)) tl_new) cw61 hK hZ hP hD hS hA 0 rfl rfl rfl rfl hl.1 rfl (Nat.le_of_ble_eq_true rfl) dX1_order_141 ⟨(Nat.le_of_ble_eq_true rfl), (Nat.le_of_ble_eq_true rfl)⟩ (fun r u H locs wu hP hD hS => ?_)
                      obtain ⟨g1, g2, g3⟩ := wu
                      exact tail u r H locs (by rw [hz]; exact g1) g2 (by rw [hz]; exact g3) (fun i hi => absurd hi (by omega)) (by rw [hz] at hP ⊢; exact hP) (by rw [hz] at hD ⊢; exact hD) hS
                    · obtain ⟨k1, k2, k3⟩ := hC.1 hz
                      rw [LW_pos (show sN σ ≠ 0 by omega)] at hP hD
                      rcases Nat.lt_or_ge (sN σ) κ.2.2.1 with hnN | hnN
                      · refine wrV_i (wr := (CX G a (nI (sG σ).length) (sT σ) (sR σ) κ.2.2.2.2.2.1 κ.2.2.2.2.2.2)) (b := a.2.1) (As := [.ref qn]) (rest := []) ⟨hx, hb, hml, hown, hts⟩ (c_Jx4a65c_add_9ea2d_s l G a.2.1 qn κ.1 κ.2.1 (sN σ) κ.2.2.1 κ.2.2.2.1 hz hnN k2 hI1 ((pO κ.2.2.2.2.1 (sO σ) (sN σ)) ++ [(qn, Sum.inr (1, fl (kd, en, wh, to, fr, sT σ, un, 20001, 0)))] : va_W) (sN σ) (fl (kd, en, wh, to, fr, sT σ, un, 20001, 0)) tl_new) cw61 hK hZ hP hD hS hA 0 rfl rfl rfl rfl hl.1 rfl (Nat.le_of_ble_eq_true rfl) dX1_order_141 ⟨(Nat.le_of_ble_eq_true rfl), (Nat.le_of_ble_eq_true rfl)⟩ (fun r u H locs wu hP hD hS => ?_)
                        obtain ⟨g1, g2, g3, g4⟩ := wu
                        exact tail u r H locs g1 g2 g3 (fun i hi => (g4 i hi).trans (k3 i hi)) hP hD hS
                      · have eN : κ.2.2.1 = sN σ := by omega
                        rw [eN] at hP hD
                        refine wrV_i (wr := (CX G a (nI (sG σ).length) (sT σ) (sR σ) κ.2.2.2.2.2.1 κ.2.2.2.2.2.2)) (b := a.2.1) (As := [.ref qn]) (rest := []) ⟨hx, hb, hml, hown, hts⟩ (c_Jx4a65c_add_9ea2d_g l G a.2.1 qn κ.1 κ.2.1 (sN σ) κ.2.2.2.1 hz hI1 ((pO κ.2.2.2.2.1 (sO σ) (sN σ)) ++ [(qn, Sum.inr (1, fl (kd, en, wh, to, fr, sT σ, un, 20001, 0)))] : va_W) (fun i hi => ⟨_, i, _, k3 i hi, tl_get hi⟩) (sN σ) (fl (kd, en, wh, to, fr, sT σ, un, 20001, 0)) tl_new) cw61 hK hZ hP hD hS hA 0 rfl rfl rfl rfl hl.1 rfl (Nat.le_of_ble_eq_true rfl) dX1_order_141 ⟨(Nat.le_of_ble_eq_true rfl), (Nat.le_of_ble_eq_true rfl)⟩ (fun r u H locs wu hP hD hS => ?_)
                        obtain ⟨g1, g2, g3, g4⟩ := wu
                        exact tail u r H locs g1 g2 g3 (fun i hi => (g4 i hi).trans (k3 i hi)) hP hD hS
                  · have c111_47 : ¬ ((((sN σ) : Nat) : Int) < 200) := mt (ti_lt (x := r46) (y := 200) (a := (((sN σ) : Nat) : Int)) (b := 200) w46 rfl).mpr c111_47
                    refine lv_bipush (v := (-104)) hx hb dX1_order_114 (by decide) ?_
                    have hF : fOrder σ kd en wh to fr un = ((-104), σ) := (if_neg (by omega)).trans ((if_neg (by omega)).trans (if_pos (by omega)))
                    exact hret _ _ _ _ _ _ _ κ dX1_order_116 (Or.inr (Or.inr rfl)) (by rw [hF]; exact ⟨rfl, hC⟩) (by rw [hF]; exact hP) (by rw [hF]; exact hD) hS (Nat.zero_le _) (Nat.zero_le _)
        · have c30_36 : ¬ ((wh).toInt = (-1)) := mt (ti_eq (x := wh) (y := (-1)) (a := (wh).toInt) (b := (-1)) rfl rfl).mpr c30_36
          refine lv_iload_n hx hb dX1_order_33 rfl (lv_at hl 4 rfl) ?_
          refine rdS_i (As := [.int wh]) (rest := []) ⟨hx, hb, hml, hown, hts⟩ (c_X1_isPerson l G wh) cw45 hK va_P.nil rfl hl.1 rfl (Nat.le_of_ble_eq_true rfl) dX1_order_34 ⟨Nat.zero_le _, Nat.zero_le _⟩ (fun r34_49 w34_49 => ?_)
          have w34_49 : ((r34_49.toInt = 1 ∧ (0 ≤ (wh).toInt ∧ (wh).toInt ≤ 49)) ∨ (r34_49.toInt = 0 ∧ ¬ (0 ≤ (wh).toInt ∧ (wh).toInt ≤ 49))) := w34_49
          refine lv_if_eq (tgt := 53) hx hb dX1_order_37 (by decide) (fun c37_50 => ?_) (fun c37_50 => ?_)
          · have c37_50 : (r34_49).toInt = 0 := (ti_eq (x := r34_49) (y := 0) (a := (r34_49).toInt) (b := 0) rfl rfl).mp c37_50
            refine lv_bipush (v := (-101)) hx hb dX1_order_53 (by decide) ?_
            have hF : fOrder σ kd en wh to fr un = ((-101), σ) := if_pos (by omega)
            exact hret _ _ _ _ _ _ _ κ dX1_order_55 (Or.inr (Or.inr rfl)) (by rw [hF]; exact ⟨rfl, hC⟩) (by rw [hF]; exact hP) (by rw [hF]; exact hD) hS (Nat.zero_le _) (Nat.zero_le _)
          · have c37_50 : ¬ ((r34_49).toInt = 0) := mt (ti_eq (x := r34_49) (y := 0) (a := (r34_49).toInt) (b := 0) rfl rfl).mpr c37_50
            refine lv_iload hx hb dX1_order_40 (lv_at hl 0 rfl) ?_
            refine lv_if_eq (tgt := 56) hx hb dX1_order_42 (by decide) (fun _ => ?_) (fun c42_51 => absurd (by decide) c42_51)
            refine lv_iload_n hx hb dX1_order_56 rfl (lv_at hl 2 rfl) ?_
            refine rdS_i (As := [.int kd]) (rest := []) ⟨hx, hb, hml, hown, hts⟩ (c_X1_isKind l G kd) cw34 hK va_P.nil rfl hl.1 rfl (Nat.le_of_ble_eq_true rfl) dX1_order_57 ⟨Nat.zero_le _, Nat.zero_le _⟩ (fun r57_52 w57_52 => ?_)
            have w57_52 : ((r57_52.toInt = 1 ∧ (0 ≤ (kd).toInt ∧ (kd).toInt < 9)) ∨ (r57_52.toInt = 0 ∧ ¬ (0 ≤ (kd).toInt ∧ (kd).toInt < 9))) := w57_52
            refine lv_if_eq (tgt := 98) hx hb dX1_order_60 (by decide) (fun c60_53 => ?_) (fun c60_53 => ?_)
            · have c60_53 : (r57_52).toInt = 0 := (ti_eq (x := r57_52) (y := 0) (a := (r57_52).toInt) (b := 0) rfl rfl).mp c60_53
              refine lv_bipush (v := (-102)) hx hb dX1_order_98 (by decide) ?_
              have hF : fOrder σ kd en wh to fr un = ((-102), σ) := (if_neg (by omega)).trans (if_pos (by omega))
              exact hret _ _ _ _ _ _ _ κ dX1_order_100 (Or.inr (Or.inr rfl)) (by rw [hF]; exact ⟨rfl, hC⟩) (by rw [hF]; exact hP) (by rw [hF]; exact hD) hS (Nat.zero_le _) (Nat.zero_le _)
            · have c60_53 : ¬ ((r57_52).toInt = 0) := mt (ti_eq (x := r57_52) (y := 0) (a := (r57_52).toInt) (b := 0) rfl rfl).mpr c60_53
              refine lv_lload hx hb dX1_order_63 (lv_at hl 6 rfl) ?_
              refine rdS_i (As := [.long fr]) (rest := []) ⟨hx, hb, hml, hown, hts⟩ (c_X1_isDay l G fr) cw48 hK va_P.nil rfl hl.1 rfl (Nat.le_of_ble_eq_true rfl) dX1_order_65 ⟨Nat.zero_le _, Nat.zero_le _⟩ (fun r65_54 w65_54 => ?_)
              have w65_54 : ((r65_54.toInt = 1 ∧ (0 ≤ (fr).toInt ∧ (fr).toInt ≤ 20000)) ∨ (r65_54.toInt = 0 ∧ ¬ (0 ≤ (fr).toInt ∧ (fr).toInt ≤ 20000))) := w65_54
              refine lv_if_eq (tgt := 98) hx hb dX1_order_68 (by decide) (fun c68_55 => ?_) (fun c68_55 => ?_)
              · have c68_55 : (r65_54).toInt = 0 := (ti_eq (x := r65_54) (y := 0) (a := (r65_54).toInt) (b := 0) rfl rfl).mp c68_55
                refine lv_bipush (v := (-102)) hx hb dX1_order_98 (by decide) ?_
                have hF : fOrder σ kd en wh to fr un = ((-102), σ) := (if_neg (by omega)).trans (if_pos (by omega))
                exact hret _ _ _ _ _ _ _ κ dX1_order_100 (Or.inr (Or.inr rfl)) (by rw [hF]; exact ⟨rfl, hC⟩) (by rw [hF]; exact hP) (by rw [hF]; exact hD) hS (Nat.zero_le _) (Nat.zero_le _)
              · have c68_55 : ¬ ((r65_54).toInt = 0) := mt (ti_eq (x := r65_54) (y := 0) (a := (r65_54).toInt) (b := 0) rfl rfl).mpr c68_55
                refine lv_lload hx hb dX1_order_71 (lv_at hl 7 rfl) ?_
                refine rdS_i (As := [.long un]) (rest := []) ⟨hx, hb, hml, hown, hts⟩ (c_X1_isDay l G un) cw48 hK va_P.nil rfl hl.1 rfl (Nat.le_of_ble_eq_true rfl) dX1_order_73 ⟨Nat.zero_le _, Nat.zero_le _⟩ (fun r73_56 w73_56 => ?_)
                have w73_56 : ((r73_56.toInt = 1 ∧ (0 ≤ (un).toInt ∧ (un).toInt ≤ 20000)) ∨ (r73_56.toInt = 0 ∧ ¬ (0 ≤ (un).toInt ∧ (un).toInt ≤ 20000))) := w73_56
                refine lv_if_eq (tgt := 98) hx hb dX1_order_76 (by decide) (fun c76_57 => ?_) (fun c76_57 => ?_)
                · have c76_57 : (r73_56).toInt = 0 := (ti_eq (x := r73_56) (y := 0) (a := (r73_56).toInt) (b := 0) rfl rfl).mp c76_57
                  refine lv_bipush (v := (-102)) hx hb dX1_order_98 (by decide) ?_
                  have hF : fOrder σ kd en wh to fr un = ((-102), σ) := (if_neg (by omega)).trans (if_pos (by omega))
                  exact hret _ _ _ _ _ _ _ κ dX1_order_100 (Or.inr (Or.inr rfl)) (by rw [hF]; exact ⟨rfl, hC⟩) (by rw [hF]; exact hP) (by rw [hF]; exact hD) hS (Nat.zero_le _) (Nat.zero_le _)
                · have c76_57 : ¬ ((r73_56).toInt = 0) := mt (ti_eq (x := r73_56) (y := 0) (a := (r73_56).toInt) (b := 0) rfl rfl).mpr c76_57
                  refine lv_lload hx hb dX1_order_79 (lv_at hl 7 rfl) ?_
                  refine lv_lload hx hb dX1_order_81 (lv_at hl 6 rfl) ?_
                  refine lc_lt (tgt := 98) hx hb dX1_order_83 dX1_order_84 (by decide) (fun c83_58 => ?_) (fun c83_58 => ?_)
                  · have c83_58 : (un).toInt < (fr).toInt := (tl_lt (x := un) (y := fr) (a := (un).toInt) (b := (fr).toInt) rfl rfl).mp c83_58
                    refine lv_bipush (v := (-102)) hx hb dX1_order_98 (by decide) ?_
                    have hF : fOrder σ kd en wh to fr un = ((-102), σ) := (if_neg (by omega)).trans (if_pos (by omega))
                    exact hret _ _ _ _ _ _ _ κ dX1_order_100 (Or.inr (Or.inr rfl)) (by rw [hF]; exact ⟨rfl, hC⟩) (by rw [hF]; exact hP) (by rw [hF]; exact hD) hS (Nat.zero_le _) (Nat.zero_le _)
                  · have c83_58 : ¬ ((un).toInt < (fr).toInt) := mt (tl_lt (x := un) (y := fr) (a := (un).toInt) (b := (fr).toInt) rfl rfl).mpr c83_58
                    refine lv_iload hx hb dX1_order_87 (lv_at hl 0 rfl) ?_
                    refine lv_if_eq (tgt := 101) hx hb dX1_order_89 (by decide) (fun _ => ?_) (fun c89_59 => absurd (by decide) c89_59)
                    refine lv_aload_n hx hb dX1_order_101 rfl (lv_at hl 1 rfl) ?_
                    refine va_get (D := G.1) (ci := 2) (v := .ref a.2.1) (own := RX1) (C := RX1) (T := TX1) (N := 6) hx hb hts hiX1 hown hK.1 hP 0 rfl rfl 0 (by decide) lf10 (fun _ h9 => h9) rfl dX1_order_102 ?_
                    refine rdV_i (b := a.2.1) (As := []) (rest := []) ⟨hx, hb, hml, hown, hts⟩ (c_Jx4a65c_size_8abf5 l G a.2.1 κ.1 (nI (sN σ)) _) cw52 hK (LW_one (CW_list hP)) 0 rfl rfl rfl rfl hl.1 rfl (Nat.le_of_ble_eq_true rfl) dX1_order_105 ⟨Nat.zero_le _, Nat.zero_le _⟩ (fun r60 w60 => ?_)
                    have w60 : r60.toInt = (((sN σ) : Nat) : Int) := by rw [w60]; exact ti_nI (by omega)
                    refine lv_sipush (v := 200) hx hb dX1_order_108 (by decide) ?_
                    refine lv_icmp_lt (tgt := 117) hx hb dX1_order_111 (by decide) (fun c111_61 => ?_) (fun c111_61 => ?_)
                    · have c111_61 : (((sN σ) : Nat) : Int) < 200 := (ti_lt (x := r60) (y := 200) (a := (((sN σ) : Nat) : Int)) (b := 200) w60 rfl).mp c111_61
                      refine lv_aload_n hx hb dX1_order_117 rfl (lv_at hl 1 rfl) ?_
                      refine va_get (D := G.1) (ci := 2) (v := .ref a.2.1) (own := RX1) (C := RX1) (T := TX1) (N := 6) hx hb hts hiX1 hown hK.1 hP 0 rfl rfl 0 (by decide) lf10 (fun _ h9 => h9) rfl dX1_order_118 ?_
                      refine va_new (ci := 1) (fs := [.int 0, .int 0, .int 0, .int 0, .long 0, .long 0, .long 0, .long 0, .int 0]) (own := RX1) (C := RX0) (T := TX0) (N := 9) hx hb hts hiX0 tyX0 tyX0_ok hown (hts (.classLink RX1 56 RX0) (by decide +kernel)) (hts (.instantiable RX0 9) (by decide +kernel)) (hts (.initialized RX0) (by decide +kernel)) hK.1 hP hD hS hA rfl (fun j hj => by rcases (show j = 0 ∨ j = 1 ∨ j = 2 ∨ j = 3 ∨ j = 4 ∨ j = 5 ∨ j = 6 ∨ j = 7 ∨ j = 8 by omega) with rfl | rfl | rfl | rfl | rfl | rfl | rfl | rfl | rfl <;> rfl) (Nat.le_of_ble_eq_true rfl) (Nat.le_of_ble_eq_true rfl) dX1_order_121 (fun qn H hP hD hS => ?_)
                      have hP : va_P G.1 vwCl ((CW G a (nI (sG σ).length) (sT σ) (sR σ) κ.2.2.2.2.2.1 κ.2.2.2.2.2.2 (pO κ.2.2.2.2.1 (sO σ) (sN σ)) (LW G a.2.1 κ.1 κ.2.1 κ.2.2.1 κ.2.2.2.1 (sN σ))) ++ [(qn, .inr (1, [.int 0, .int 0, .int 0, .int 0, .long 0, .long 0, .long 0, .long 0, .int 0]))]) H := hP
                      have hD : va_D A ((CW G a (nI (sG σ).length) (sT σ) (sR σ) κ.2.2.2.2.2.1 κ.2.2.2.2.2.2 (pO κ.2.2.2.2.1 (sO σ) (sN σ)) (LW G a.2.1 κ.1 κ.2.1 κ.2.2.1 κ.2.2.2.1 (sN σ))) ++ [(qn, .inr (1, [.int 0, .int 0, .int 0, .int 0, .long 0, .long 0, .long 0, .long 0, .int 0]))]) := hD
                      refine lv_dup hx hb dX1_order_124 rfl ?_
                      refine lv_iload_n hx hb dX1_order_125 rfl (lv_at hl 2 rfl) ?_
                      refine lv_iload_n hx hb dX1_order_126 rfl (lv_at hl 3 rfl) ?_
                      refine lv_iload_n hx hb dX1_order_127 rfl (lv_at hl 4 rfl) ?_
                      refine lv_iload hx hb dX1_order_128 (lv_at hl 5 rfl) ?_
                      refine lv_lload hx hb dX1_order_130 (lv_at hl 6 rfl) ?_
                      refine lv_lload hx hb dX1_order_132 (lv_at hl 7 rfl) ?_
                      refine lv_aload_n hx hb dX1_order_134 rfl (lv_at hl 1 rfl) ?_
                      refine va_get (D := G.1) (ci := 2) (v := .long (sT σ)) (own := RX1) (C := RX1) (T := TX1) (N := 6) hx hb hts hiX1 hown hK.1 hP 0 rfl rfl 5 (by decide) lf30 (fun _ h9 => h9) rfl dX1_order_135 ?_
                      refine wrI_v (wr := (CW G a (nI (sG σ).length) (sT σ) (sR σ) κ.2.2.2.2.2.1 κ.2.2.2.2.2.2 (pO κ.2.2.2.2.1 (sO σ) (sN σ)) (LW G a.2.1 κ.1 κ.2.1 κ.2.2.1 κ.2.2.2.1 (sN σ)))) (b := qn) (As := [.int kd, .int en, .int wh, .int to, .long fr, .long un, .long (sT σ)]) (rest := [.ref qn, .ref a.2.1]) ⟨hx, hb, hml, hown, hts⟩ (c_X0_init l G qn kd en wh to fr un (sT σ)) cw58 hK hZ hP hD hS hA rfl hl.1 rfl (Nat.le_of_ble_eq_true rfl) dX1_order_138 ⟨(Nat.le_of_ble_eq_true rfl), (Nat.le_of_ble_eq_true rfl)⟩ (fun _ H locs _ hP hD hS => ?_)
                      have hP : va_P G.1 vwCl ((CW G a (nI (sG σ).length) (sT σ) (sR σ) κ.2.2.2.2.2.1 κ.2.2.2.2.2.2 (pO κ.2.2.2.2.1 (sO σ) (sN σ)) (LW G a.2.1 κ.1 κ.2.1 κ.2.2.1 κ.2.2.2.1 (sN σ))) ++ [(qn, .inr (1, fl (kd, en, wh, to, fr, sT σ, un, 20001, 0)))]) H := hP
                      have hD : va_D A ((CW G a (nI (sG σ).length) (sT σ) (sR σ) κ.2.2.2.2.2.1 κ.2.2.2.2.2.2 (pO κ.2.2.2.2.1 (sO σ) (sN σ)) (LW G a.2.1 κ.1 κ.2.1 κ.2.2.1 κ.2.2.2.1 (sN σ))) ++ [(qn, .inr (1, fl (kd, en, wh, to, fr, sT σ, un, 20001, 0)))]) := hD
                      have tail : ∀ (ux : Int32 × Nat × Nat × (Nat → Option Nat)) (r : Int32) (H : Heap) (locs : List Loc), sN σ + 1 ≤ ux.2.2.1 → ux.2.2.1 ≤ 400 → ux.2.2.2 (sN σ) = some qn → (∀ i, i < sN σ → ux.2.2.2 i = some (κ.2.2.2.2.1 i)) → va_P G.1 vwCl ((CX G a (nI (sG σ).length) (sT σ) (sR σ) κ.2.2.2.2.2.1 κ.2.2.2.2.2.2) ++ ([(a.2.1, .inr (0, [.int ux.1, .ref ux.2.1, .int (nI (sN σ + 1))])), aO G ux.2.1 ux.2.2.1 ux.2.2.2] ++ ((pO κ.2.2.2.2.1 (sO σ) (sN σ)) ++ [(qn, Sum.inr (1, fl (kd, en, wh, to, fr, sT σ, un, 20001, 0)))] : va_W))) H → va_D A ((CX G a (nI (sG σ).length) (sT σ) (sR σ) κ.2.2.2.2.2.1 κ.2.2.2.2.2.2) ++ ([(a.2.1, .inr (0, [.int ux.1, .ref ux.2.1, .int (nI (sN σ + 1))])), aO G ux.2.1 ux.2.2.1 ux.2.2.2] ++ ((pO κ.2.2.2.2.1 (sO σ) (sN σ)) ++ [(qn, Sum.inr (1, fl (kd, en, wh, to, fr, sT σ, un, 20001, 0)))] : va_W))) → va_S A s.heap H locs → W p l e (rmX 7 280 2 409) s m args below meth c H locs (0 + 1 + 0 + 1) (0 + 9 + 0 + 400) Q (F0 m 144 ls [.int r]) := by
                        intro ux r H locs g1 g2 g3 g4 hP hD hS
                        have hP := back_P hP
                        have hD := back_D hD
                        rw [pO_push, ← LW_pos (G := G) (h := a.2.1) (md := ux.1) (a2 := ux.2.1) (N := ux.2.2.1) (f := ux.2.2.2) (n := sN σ + 1) (by omega)] at hP hD
                        have hP : va_P G.1 vwCl (CW G a (nI (sG σ).length) (sT σ) (sR σ) κ.2.2.2.2.2.1 κ.2.2.2.2.2.2 (pO (kNew κ ux (sN σ) qn).2.2.2.2.1 (va_up (sO σ) (sN σ) (kd, en, wh, to, fr, sT σ, un, 20001, 0)) (sN σ + 1)) (LW G a.2.1 (kNew κ ux (sN σ) qn).1 (kNew κ ux (sN σ) qn).2.1 (kNew κ ux (sN σ) qn).2.2.1 (kNew κ ux (sN σ) qn).2.2.2.1 (sN σ + 1))) H := hP
                        have hD : va_D A (CW G a (nI (sG σ).length) (sT σ) (sR σ) κ.2.2.2.2.2.1 κ.2.2.2.2.2.2 (pO (kNew κ ux (sN σ) qn).2.2.2.2.1 (va_up (sO σ) (sN σ) (kd, en, wh, to, fr, sT σ, un, 20001, 0)) (sN σ + 1)) (LW G a.2.1 (kNew κ ux (sN σ) qn).1 (kNew κ ux (sN σ) qn).2.1 (kNew κ ux (sN σ) qn).2.2.1 (kNew κ ux (sN σ) qn).2.2.2.1 (sN σ + 1))) := hD
                        refine lv_pop hx hb dX1_order_144 rfl ?_
                        refine lv_aload_n hx hb dX1_order_145 rfl (lv_at hl 1 rfl) ?_
                        refine va_get (D := G.1) (ci := 2) (v := .ref a.2.1) (own := RX1) (C := RX1) (T := TX1) (N := 6) hx hb hts hiX1 hown hK.1 hP 0 rfl rfl 0 (by decide) lf10 (fun _ h9 => h9) rfl dX1_order_146 ?_
                        refine rdV_i (b := a.2.1) (As := []) (rest := []) ⟨hx, hb, hml, hown, hts⟩ (c_Jx4a65c_size_8abf5 l G a.2.1 (kNew κ ux (sN σ) qn).1 (nI (sN σ + 1)) _) cw52 hK (LW_one (CW_list hP)) 0 rfl rfl rfl rfl hl.1 rfl (Nat.le_of_ble_eq_true rfl) dX1_order_149 ⟨Nat.le_of_ble_eq_true rfl, Nat.le_of_ble_eq_true rfl⟩ (fun r62 w62 => ?_)
                        have w62 : r62.toInt = (((sN σ + 1) : Nat) : Int) := by rw [w62]; exact ti_nI (by omega)
                        have hF : fOrder σ kd en wh to fr un = (nI (sN σ + 1), (sN σ + 1, va_up (sO σ) (sN σ) (kd, en, wh, to, fr, sT σ, un, 20001, 0), sT σ, sR σ, sG σ)) := (if_neg (by omega)).trans ((if_neg (by omega)).trans (if_neg (by omega)))
                        obtain rfl : r62 = nI (sN σ + 1) := nI_ofI w62
                        exact hret _ _ _ _ _ _ _ (kNew κ ux (sN σ) qn) dX1_order_152 (Or.inr (Or.inr rfl)) (by rw [hF]; exact ⟨rfl, CI_new hC g1 g2 g3 g4⟩) (by rw [hF]; exact hP) (by rw [hF]; exact hD) hS (Nat.le_of_ble_eq_true rfl) (Nat.le_of_ble_eq_true rfl)
                      have hP := ord_P (x := (CX G a (nI (sG σ).length) (sT σ) (sR σ) κ.2.2.2.2.2.1 κ.2.2.2.2.2.2)) hP
                      have hD := ord_D (x := (CX G a (nI (sG σ).length) (sT σ) (sR σ) κ.2.2.2.2.2.1 κ.2.2.2.2.2.2)) hD
                      rcases Nat.eq_zero_or_pos (sN σ) with hz | hz
                      · rw [LW_zero hz] at hP hD
                        refine wrV_i (wr := (CX G a (nI (sG σ).length) (sT σ) (sR σ) κ.2.2.2.2.2.1 κ.2.2.2.2.2.2)) (b := a.2.1) (As := [.ref qn]) (rest := []) ⟨hx, hb, hml, hown, hts⟩ (c_Jx4a65c_add_9ea2d_0 l G a.2.1 qn κ.1 ((pO κ.2.2.2.2.1 (sO σ) (sN σ)) ++ [(qn, Sum.inr (1, fl (kd, en, wh, to, fr, sT σ, un, 20001, 0)))] : va_W) (sN σ) (fl (kd, en, wh, to, fr, sT σ, un, 20001, 0)) tl_new) cw61 hK hZ hP hD hS hA 0 rfl rfl rfl rfl hl.1 rfl (Nat.le_of_ble_eq_true rfl) dX1_order_141 ⟨(Nat.le_of_ble_eq_true rfl), (Nat.le_of_ble_eq_true rfl)⟩ (fun r u H locs wu hP hD hS => ?_)
                        obtain ⟨g1, g2, g3⟩ := wu
                        exact tail u r H locs (by rw [hz]; exact g1) g2 (by rw [hz]; exact g3) (fun i hi => absurd hi (by omega)) (by rw [hz] at hP ⊢; exact hP) (by rw [hz] at hD ⊢; exact hD) hS
                      · obtain ⟨k1, k2, k3⟩ := hC.1 hz
                        rw [LW_pos (show sN σ ≠ 0 by omega)] at hP hD
                        rcases Nat.lt_or_ge (sN σ) κ.2.2.1 with hnN | hnN
                        · refine wrV_i (wr := (CX G a (nI (sG σ).length) (sT σ) (sR σ) κ.2.2.2.2.2.1 κ.2.2.2.2.2.2)) (b := a.2.1) (As := [.ref qn]) (rest := []) ⟨hx, hb, hml, hown, hts⟩ (c_Jx4a65c_add_9ea2d_s l G a.2.1 qn κ.1 κ.2.1 (sN σ) κ.2.2.1 κ.2.2.2.1 hz hnN k2 hI1 ((pO κ.2.2.2.2.1 (sO σ) (sN σ)) ++ [(qn, Sum.inr (1, fl (kd, en, wh, to, fr, sT σ, un, 20001, 0)))] : va_W) (sN σ) (fl (kd, en, wh, to, fr, sT σ, un, 20001, 0)) tl_new) cw61 hK hZ hP hD hS hA 0 rfl rfl rfl rfl hl.1 rfl (Nat.le_of_ble_eq_true rfl) dX1_order_141 ⟨(Nat.le_of_ble_eq_true rfl), (Nat.le_of_ble_eq_true rfl)⟩ (fun r u H locs wu hP hD hS => ?_)
                          obtain ⟨g1, g2, g3, g4⟩ := wu
                          exact tail u r H locs g1 g2 g3 (fun i hi => (g4 i hi).trans (k3 i hi)) hP hD hS
                        · have eN : κ.2.2.1 = sN σ := by omega
                          rw [eN] at hP hD
                          refine wrV_i (wr := (CX G a (nI (sG σ).length) (sT σ) (sR σ) κ.2.2.2.2.2.1 κ.2.2.2.2.2.2)) (b := a.2.1) (As := [.ref qn]) (rest := []) ⟨hx, hb, hml, hown, hts⟩ (c_Jx4a65c_add_9ea2d_g l G a.2.1 qn κ.1 κ.2.1 (sN σ) κ.2.2.2.1 hz hI1 ((pO κ.2.2.2.2.1 (sO σ) (sN σ)) ++ [(qn, Sum.inr (1, fl (kd, en, wh, to, fr, sT σ, un, 20001, 0)))] : va_W) (fun i hi => ⟨_, i, _, k3 i hi, tl_get hi⟩) (sN σ) (fl (kd, en, wh, to, fr, sT σ, un, 20001, 0)) tl_new) cw61 hK hZ hP hD hS hA 0 rfl rfl rfl rfl hl.1 rfl (Nat.le_of_ble_eq_true rfl) dX1_order_141 ⟨(Nat.le_of_ble_eq_true rfl), (Nat.le_of_ble_eq_true rfl)⟩ (fun r u H locs wu hP hD hS => ?_)
                          obtain ⟨g1, g2, g3, g4⟩ := wu
                          exact tail u r H locs g1 g2 g3 (fun i hi => (g4 i hi).trans (k3 i hi)) hP hD hS
                    · have c111_61 : ¬ ((((sN σ) : Nat) : Int) < 200) := mt (ti_lt (x := r60) (y := 200) (a := (((sN σ) : Nat) : Int)) (b := 200) w60 rfl).mpr c111_61
                      refine lv_bipush (v := (-104)) hx hb dX1_order_114 (by decide) ?_
                      have hF : fOrder σ kd en wh to fr un = ((-104), σ) := (if_neg (by omega)).trans ((if_neg (by omega)).trans (if_pos (by omega)))
                      exact hret _ _ _ _ _ _ _ κ dX1_order_116 (Or.inr (Or.inr rfl)) (by rw [hF]; exact ⟨rfl, hC⟩) (by rw [hF]; exact hP) (by rw [hF]; exact hD) hS (Nat.zero_le _) (Nat.zero_le _)
    · have c11_33 : (r8_32).toInt = 0 := (ti_eq (x := r8_32) (y := 0) (a := (r8_32).toInt) (b := 0) rfl rfl).mp c11_33
      refine lv_iconst (v := 1) hx hb dX1_order_14 (by decide) ?_
      refine lv_goto (tgt := 19) hx hb dX1_order_15 (by decide) ?_
      refine lv_istore (lv' := [(9, .int 1), (0, .ref a.1), (1, .int kd), (2, .int en), (3, .int wh), (4, .int to), (5, .long fr), (7, .long un)]) hx hb dX1_order_19 hl (by decide) rfl (fun ls hl => ?_)
      refine lv_iload_n hx hb dX1_order_21 rfl (lv_at hl 3 rfl) ?_
      refine rdS_i (As := [.int en]) (rest := []) ⟨hx, hb, hml, hown, hts⟩ (c_X1_isAddress l G en) cw42 hK va_P.nil rfl hl.1 rfl (Nat.le_of_ble_eq_true rfl) dX1_order_22 ⟨Nat.zero_le _, Nat.zero_le _⟩ (fun r22_63 w22_63 => ?_)
      have w22_63 : ((r22_63.toInt = 1 ∧ (1 ≤ (en).toInt ∧ (en).toInt ≤ 99)) ∨ (r22_63.toInt = 0 ∧ ¬ (1 ≤ (en).toInt ∧ (en).toInt ≤ 99))) := w22_63
      refine lv_if_eq (tgt := 53) hx hb dX1_order_25 (by decide) (fun c25_64 => ?_) (fun c25_64 => ?_)
      · have c25_64 : (r22_63).toInt = 0 := (ti_eq (x := r22_63) (y := 0) (a := (r22_63).toInt) (b := 0) rfl rfl).mp c25_64
        refine lv_bipush (v := (-101)) hx hb dX1_order_53 (by decide) ?_
        have hF : fOrder σ kd en wh to fr un = ((-101), σ) := if_pos (by omega)
        exact hret _ _ _ _ _ _ _ κ dX1_order_55 (Or.inr (Or.inr rfl)) (by rw [hF]; exact ⟨rfl, hC⟩) (by rw [hF]; exact hP) (by rw [hF]; exact hD) hS (Nat.zero_le _) (Nat.zero_le _)
      · have c25_64 : ¬ ((r22_63).toInt = 0) := mt (ti_eq (x := r22_63) (y := 0) (a := (r22_63).toInt) (b := 0) rfl rfl).mpr c25_64
        refine lv_iload_n hx hb dX1_order_28 rfl (lv_at hl 4 rfl) ?_
        refine lv_iconst (v := (-1)) hx hb dX1_order_29 (by decide) ?_
        refine lv_icmp_eq (tgt := 40) hx hb dX1_order_30 (by decide) (fun c30_65 => ?_) (fun c30_65 => ?_)
        · have c30_65 : (wh).toInt = (-1) := (ti_eq (x := wh) (y := (-1)) (a := (wh).toInt) (b := (-1)) rfl rfl).mp c30_65
          refine lv_iload hx hb dX1_order_40 (lv_at hl 0 rfl) ?_
          refine lv_if_eq (tgt := 56) hx hb dX1_order_42 (by decide) (fun c42_66 => absurd c42_66 (by decide)) (fun _ => ?_)
          refine lv_iload hx hb dX1_order_45 (lv_at hl 5 rfl) ?_
          refine rdS_i (As := [.int to]) (rest := []) ⟨hx, hb, hml, hown, hts⟩ (c_X1_isAddress l G to) cw42 hK va_P.nil rfl hl.1 rfl (Nat.le_of_ble_eq_true rfl) dX1_order_47 ⟨Nat.zero_le _, Nat.zero_le _⟩ (fun r47_67 w47_67 => ?_)
          have w47_67 : ((r47_67.toInt = 1 ∧ (1 ≤ (to).toInt ∧ (to).toInt ≤ 99)) ∨ (r47_67.toInt = 0 ∧ ¬ (1 ≤ (to).toInt ∧ (to).toInt ≤ 99))) := w47_67
          refine lv_if_ne (tgt := 56) hx hb dX1_order_50 (by decide) (fun c50_68 => ?_) (fun c50_68 => ?_)
          · have c50_68 : ¬ ((r47_67).toInt = 0) := mt (ti_eq (x := r47_67) (y := 0) (a := (r47_67).toInt) (b := 0) rfl rfl).mpr c50_68
            refine lv_iload_n hx hb dX1_order_56 rfl (lv_at hl 2 rfl) ?_
            refine rdS_i (As := [.int kd]) (rest := []) ⟨hx, hb, hml, hown, hts⟩ (c_X1_isKind l G kd) cw34 hK va_P.nil rfl hl.1 rfl (Nat.le_of_ble_eq_true rfl) dX1_order_57 ⟨Nat.zero_le _, Nat.zero_le _⟩ (fun r57_69 w57_69 => ?_)
            have w57_69 : ((r57_69.toInt = 1 ∧ (0 ≤ (kd).toInt ∧ (kd).toInt < 9)) ∨ (r57_69.toInt = 0 ∧ ¬ (0 ≤ (kd).toInt ∧ (kd).toInt < 9))) := w57_69
            refine lv_if_eq (tgt := 98) hx hb dX1_order_60 (by decide) (fun c60_70 => ?_) (fun c60_70 => ?_)
            · have c60_70 : (r57_69).toInt = 0 := (ti_eq (x := r57_69) (y := 0) (a := (r57_69).toInt) (b := 0) rfl rfl).mp c60_70
              refine lv_bipush (v := (-102)) hx hb dX1_order_98 (by decide) ?_
              have hF : fOrder σ kd en wh to fr un = ((-102), σ) := (if_neg (by omega)).trans (if_pos (by omega))
              exact hret _ _ _ _ _ _ _ κ dX1_order_100 (Or.inr (Or.inr rfl)) (by rw [hF]; exact ⟨rfl, hC⟩) (by rw [hF]; exact hP) (by rw [hF]; exact hD) hS (Nat.zero_le _) (Nat.zero_le _)
            · have c60_70 : ¬ ((r57_69).toInt = 0) := mt (ti_eq (x := r57_69) (y := 0) (a := (r57_69).toInt) (b := 0) rfl rfl).mpr c60_70
              refine lv_lload hx hb dX1_order_63 (lv_at hl 6 rfl) ?_
              refine rdS_i (As := [.long fr]) (rest := []) ⟨hx, hb, hml, hown, hts⟩ (c_X1_isDay l G fr) cw48 hK va_P.nil rfl hl.1 rfl (Nat.le_of_ble_eq_true rfl) dX1_order_65 ⟨Nat.zero_le _, Nat.zero_le _⟩ (fun r65_71 w65_71 => ?_)
              have w65_71 : ((r65_71.toInt = 1 ∧ (0 ≤ (fr).toInt ∧ (fr).toInt ≤ 20000)) ∨ (r65_71.toInt = 0 ∧ ¬ (0 ≤ (fr).toInt ∧ (fr).toInt ≤ 20000))) := w65_71
              refine lv_if_eq (tgt := 98) hx hb dX1_order_68 (by decide) (fun c68_72 => ?_) (fun c68_72 => ?_)
              · have c68_72 : (r65_71).toInt = 0 := (ti_eq (x := r65_71) (y := 0) (a := (r65_71).toInt) (b := 0) rfl rfl).mp c68_72
                refine lv_bipush (v := (-102)) hx hb dX1_order_98 (by decide) ?_
                have hF : fOrder σ kd en wh to fr un = ((-102), σ) := (if_neg (by omega)).trans (if_pos (by omega))
                exact hret _ _ _ _ _ _ _ κ dX1_order_100 (Or.inr (Or.inr rfl)) (by rw [hF]; exact ⟨rfl, hC⟩) (by rw [hF]; exact hP) (by rw [hF]; exact hD) hS (Nat.zero_le _) (Nat.zero_le _)
              · have c68_72 : ¬ ((r65_71).toInt = 0) := mt (ti_eq (x := r65_71) (y := 0) (a := (r65_71).toInt) (b := 0) rfl rfl).mpr c68_72
                refine lv_lload hx hb dX1_order_71 (lv_at hl 7 rfl) ?_
                refine rdS_i (As := [.long un]) (rest := []) ⟨hx, hb, hml, hown, hts⟩ (c_X1_isDay l G un) cw48 hK va_P.nil rfl hl.1 rfl (Nat.le_of_ble_eq_true rfl) dX1_order_73 ⟨Nat.zero_le _, Nat.zero_le _⟩ (fun r73_73 w73_73 => ?_)
                have w73_73 : ((r73_73.toInt = 1 ∧ (0 ≤ (un).toInt ∧ (un).toInt ≤ 20000)) ∨ (r73_73.toInt = 0 ∧ ¬ (0 ≤ (un).toInt ∧ (un).toInt ≤ 20000))) := w73_73
                refine lv_if_eq (tgt := 98) hx hb dX1_order_76 (by decide) (fun c76_74 => ?_) (fun c76_74 => ?_)
                · have c76_74 : (r73_73).toInt = 0 := (ti_eq (x := r73_73) (y := 0) (a := (r73_73).toInt) (b := 0) rfl rfl).mp c76_74
                  refine lv_bipush (v := (-102)) hx hb dX1_order_98 (by decide) ?_
                  have hF : fOrder σ kd en wh to fr un = ((-102), σ) := (if_neg (by omega)).trans (if_pos (by omega))
                  exact hret _ _ _ _ _ _ _ κ dX1_order_100 (Or.inr (Or.inr rfl)) (by rw [hF]; exact ⟨rfl, hC⟩) (by rw [hF]; exact hP) (by rw [hF]; exact hD) hS (Nat.zero_le _) (Nat.zero_le _)
                · have c76_74 : ¬ ((r73_73).toInt = 0) := mt (ti_eq (x := r73_73) (y := 0) (a := (r73_73).toInt) (b := 0) rfl rfl).mpr c76_74
                  refine lv_lload hx hb dX1_order_79 (lv_at hl 7 rfl) ?_
                  refine lv_lload hx hb dX1_order_81 (lv_at hl 6 rfl) ?_
                  refine lc_lt (tgt := 98) hx hb dX1_order_83 dX1_order_84 (by decide) (fun c83_75 => ?_) (fun c83_75 => ?_)
                  · have c83_75 : (un).toInt < (fr).toInt := (tl_lt (x := un) (y := fr) (a := (un).toInt) (b := (fr).toInt) rfl rfl).mp c83_75
                    refine lv_bipush (v := (-102)) hx hb dX1_order_98 (by decide) ?_
                    have hF : fOrder σ kd en wh to fr un = ((-102), σ) := (if_neg (by omega)).trans (if_pos (by omega))
                    exact hret _ _ _ _ _ _ _ κ dX1_order_100 (Or.inr (Or.inr rfl)) (by rw [hF]; exact ⟨rfl, hC⟩) (by rw [hF]; exact hP) (by rw [hF]; exact hD) hS (Nat.zero_le _) (Nat.zero_le _)
                  · have c83_75 : ¬ ((un).toInt < (fr).toInt) := mt (tl_lt (x := un) (y := fr) (a := (un).toInt) (b := (fr).toInt) rfl rfl).mpr c83_75
                    refine lv_iload hx hb dX1_order_87 (lv_at hl 0 rfl) ?_
                    refine lv_if_eq (tgt := 101) hx hb dX1_order_89 (by decide) (fun c89_76 => absurd c89_76 (by decide)) (fun _ => ?_)
                    refine lv_iload hx hb dX1_order_92 (lv_at hl 5 rfl) ?_
                    refine lv_iload_n hx hb dX1_order_94 rfl (lv_at hl 3 rfl) ?_
                    refine lv_icmp_ne (tgt := 101) hx hb dX1_order_95 (by decide) (fun c95_77 => ?_) (fun c95_77 => ?_)
                    · have c95_77 : ¬ ((to).toInt = (en).toInt) := mt (ti_eq (x := to) (y := en) (a := (to).toInt) (b := (en).toInt) rfl rfl).mpr c95_77
                      refine lv_aload_n hx hb dX1_order_101 rfl (lv_at hl 1 rfl) ?_
                      refine va_get (D := G.1) (ci := 2) (v := .ref a.2.1) (own := RX1) (C := RX1) (T := TX1) (N := 6) hx hb hts hiX1 hown hK.1 hP 0 rfl rfl 0 (by decide) lf10 (fun _ h9 => h9) rfl dX1_order_102 ?_
                      refine rdV_i (b := a.2.1) (As := []) (rest := []) ⟨hx, hb, hml, hown, hts⟩ (c_Jx4a65c_size_8abf5 l G a.2.1 κ.1 (nI (sN σ)) _) cw52 hK (LW_one (CW_list hP)) 0 rfl rfl rfl rfl hl.1 rfl (Nat.le_of_ble_eq_true rfl) dX1_order_105 ⟨Nat.zero_le _, Nat.zero_le _⟩ (fun r78 w78 => ?_)
                      have w78 : r78.toInt = (((sN σ) : Nat) : Int) := by rw [w78]; exact ti_nI (by omega)
                      refine lv_sipush (v := 200) hx hb dX1_order_108 (by decide) ?_
                      refine lv_icmp_lt (tgt := 117) hx hb dX1_order_111 (by decide) (fun c111_79 => ?_) (fun c111_79 => ?_)
                      · have c111_79 : (((sN σ) : Nat) : Int) < 200 := (ti_lt (x := r78) (y := 200) (a := (((sN σ) : Nat) : Int)) (b := 200) w78 rfl).mp c111_79
                        refine lv_aload_n hx hb dX1_order_117 rfl (lv_at hl 1 rfl) ?_
                        refine va_get (D := G.1) (ci := 2) (v := .ref a.2.1) (own := RX1) (C := RX1) (T := TX1) (N := 6) hx hb hts hiX1 hown hK.1 hP 0 rfl rfl 0 (by decide) lf10 (fun _ h9 => h9) rfl dX1_order_118 ?_
                        refine va_new (ci := 1) (fs := [.int 0, .int 0, .int 0, .int 0, .long 0, .long 0, .long 0, .long 0, .int 0]) (own := RX1) (C := RX0) (T := TX0) (N := 9) hx hb hts hiX0 tyX0 tyX0_ok hown (hts (.classLink RX1 56 RX0) (by decide +kernel)) (hts (.instantiable RX0 9) (by decide +kernel)) (hts (.initialized RX0) (by decide +kernel)) hK.1 hP hD hS hA rfl (fun j hj => by rcases (show j = 0 ∨ j = 1 ∨ j = 2 ∨ j = 3 ∨ j = 4 ∨ j = 5 ∨ j = 6 ∨ j = 7 ∨ j = 8 by omega) with rfl | rfl | rfl | rfl | rfl | rfl | rfl | rfl | rfl <;> rfl) (Nat.le_of_ble_eq_true rfl) (Nat.le_of_ble_eq_true rfl) dX1_order_121 (fun qn H hP hD hS => ?_)
                        have hP : va_P G.1 vwCl ((CW G a (nI (sG σ).length) (sT σ) (sR σ) κ.2.2.2.2.2.1 κ.2.2.2.2.2.2 (pO κ.2.2.2.2.1 (sO σ) (sN σ)) (LW G a.2.1 κ.1 κ.2.1 κ.2.2.1 κ.2.2.2.1 (sN σ))) ++ [(qn, .inr (1, [.int 0, .int 0, .int 0, .int 0, .long 0, .long 0, .long 0, .long 0, .int 0]))]) H := hP
                        have hD : va_D A ((CW G a (nI (sG σ).length) (sT σ) (sR σ) κ.2.2.2.2.2.1 κ.2.2.2.2.2.2 (pO κ.2.2.2.2.1 (sO σ) (sN σ)) (LW G a.2.1 κ.1 κ.2.1 κ.2.2.1 κ.2.2.2.1 (sN σ))) ++ [(qn, .inr (1, [.int 0, .int 0, .int 0, .int 0, .long 0, .long 0, .long 0, .long 0, .int 0]))]) := hD
                        refine lv_dup hx hb dX1_order_124 rfl ?_
                        refine lv_iload_n hx hb dX1_order_125 rfl (lv_at hl 2 rfl) ?_
                        refine lv_iload_n hx hb dX1_order_126 rfl (lv_at hl 3 rfl) ?_
                        refine lv_iload_n hx hb dX1_order_127 rfl (lv_at hl 4 rfl) ?_
                        refine lv_iload hx hb dX1_order_128 (lv_at hl 5 rfl) ?_
                        refine lv_lload hx hb dX1_order_130 (lv_at hl 6 rfl) ?_
                        refine lv_lload hx hb dX1_order_132 (lv_at hl 7 rfl) ?_
                        refine lv_aload_n hx hb dX1_order_134 rfl (lv_at hl 1 rfl) ?_
                        refine va_get (D := G.1) (ci := 2) (v := .long (sT σ)) (own := RX1) (C := RX1) (T := TX1) (N := 6) hx hb hts hiX1 hown hK.1 hP 0 rfl rfl 5 (by decide) lf30 (fun _ h9 => h9) rfl dX1_order_135 ?_
                        refine wrI_v (wr := (CW G a (nI (sG σ).length) (sT σ) (sR σ) κ.2.2.2.2.2.1 κ.2.2.2.2.2.2 (pO κ.2.2.2.2.1 (sO σ) (sN σ)) (LW G a.2.1 κ.1 κ.2.1 κ.2.2.1 κ.2.2.2.1 (sN σ)))) (b := qn) (As := [.int kd, .int en, .int wh, .int to, .long fr, .long un, .long (sT σ)]) (rest := [.ref qn, .ref a.2.1]) ⟨hx, hb, hml, hown, hts⟩ (c_X0_init l G qn kd en wh to fr un (sT σ)) cw58 hK hZ hP hD hS hA rfl hl.1 rfl (Nat.le_of_ble_eq_true rfl) dX1_order_138 ⟨(Nat.le_of_ble_eq_true rfl), (Nat.le_of_ble_eq_true rfl)⟩ (fun _ H locs _ hP hD hS => ?_)
                        have hP : va_P G.1 vwCl ((CW G a (nI (sG σ).length) (sT σ) (sR σ) κ.2.2.2.2.2.1 κ.2.2.2.2.2.2 (pO κ.2.2.2.2.1 (sO σ) (sN σ)) (LW G a.2.1 κ.1 κ.2.1 κ.2.2.1 κ.2.2.2.1 (sN σ))) ++ [(qn, .inr (1, fl (kd, en, wh, to, fr, sT σ, un, 20001, 0)))]) H := hP
                        have hD : va_D A ((CW G a (nI (sG σ).length) (sT σ) (sR σ) κ.2.2.2.2.2.1 κ.2.2.2.2.2.2 (pO κ.2.2.2.2.1 (sO σ) (sN σ)) (LW G a.2.1 κ.1 κ.2.1 κ.2.2.1 κ.2.2.2.1 (sN σ))) ++ [(qn, .inr (1, fl (kd, en, wh, to, fr, sT σ, un, 20001, 0)))]) := hD
                        have tail : ∀ (ux : Int32 × Nat × Nat × (Nat → Option Nat)) (r : Int32) (H : Heap) (locs : List Loc), sN σ + 1 ≤ ux.2.2.1 → ux.2.2.1 ≤ 400 → ux.2.2.2 (sN σ) = some qn → (∀ i, i < sN σ → ux.2.2.2 i = some (κ.2.2.2.2.1 i)) → va_P G.1 vwCl ((CX G a (nI (sG σ).length) (sT σ) (sR σ) κ.2.2.2.2.2.1 κ.2.2.2.2.2.2) ++ ([(a.2.1, .inr (0, [.int ux.1, .ref ux.2.1, .int (nI (sN σ + 1))])), aO G ux.2.1 ux.2.2.1 ux.2.2.2] ++ ((pO κ.2.2.2.2.1 (sO σ) (sN σ)) ++ [(qn, Sum.inr (1, fl (kd, en, wh, to, fr, sT σ, un, 20001, 0)))] : va_W))) H → va_D A ((CX G a (nI (sG σ).length) (sT σ) (sR σ) κ.2.2.2.2.2.1 κ.2.2.2.2.2.2) ++ ([(a.2.1, .inr (0, [.int ux.1, .ref ux.2.1, .int (nI (sN σ + 1))])), aO G ux.2.1 ux.2.2.1 ux.2.2.2] ++ ((pO κ.2.2.2.2.1 (sO σ) (sN σ)) ++ [(qn, Sum.inr (1, fl (kd, en, wh, to, fr, sT σ, un, 20001, 0)))] : va_W))) → va_S A s.heap H locs → W p l e (rmX 7 280 2 409) s m args below meth c H locs (0 + 1 + 0 + 1) (0 + 9 + 0 + 400) Q (F0 m 144 ls [.int r]) := by
                          intro ux r H locs g1 g2 g3 g4 hP hD hS
                          have hP := back_P hP
                          have hD := back_D hD
                          rw [pO_push, ← LW_pos (G := G) (h := a.2.1) (md := ux.1) (a2 := ux.2.1) (N := ux.2.2.1) (f := ux.2.2.2) (n := sN σ + 1) (by omega)] at hP hD
                          have hP : va_P G.1 vwCl (CW G a (nI (sG σ).length) (sT σ) (sR σ) κ.2.2.2.2.2.1 κ.2.2.2.2.2.2 (pO (kNew κ ux (sN σ) qn).2.2.2.2.1 (va_up (sO σ) (sN σ) (kd, en, wh, to, fr, sT σ, un, 20001, 0)) (sN σ + 1)) (LW G a.2.1 (kNew κ ux (sN σ) qn).1 (kNew κ ux (sN σ) qn).2.1 (kNew κ ux (sN σ) qn).2.2.1 (kNew κ ux (sN σ) qn).2.2.2.1 (sN σ + 1))) H := hP
                          have hD : va_D A (CW G a (nI (sG σ).length) (sT σ) (sR σ) κ.2.2.2.2.2.1 κ.2.2.2.2.2.2 (pO (kNew κ ux (sN σ) qn).2.2.2.2.1 (va_up (sO σ) (sN σ) (kd, en, wh, to, fr, sT σ, un, 20001, 0)) (sN σ + 1)) (LW G a.2.1 (kNew κ ux (sN σ) qn).1 (kNew κ ux (sN σ) qn).2.1 (kNew κ ux (sN σ) qn).2.2.1 (kNew κ ux (sN σ) qn).2.2.2.1 (sN σ + 1))) := hD
                          refine lv_pop hx hb dX1_order_144 rfl ?_
                          refine lv_aload_n hx hb dX1_order_145 rfl (lv_at hl 1 rfl) ?_
                          refine va_get (D := G.1) (ci := 2) (v := .ref a.2.1) (own := RX1) (C := RX1) (T := TX1) (N := 6) hx hb hts hiX1 hown hK.1 hP 0 rfl rfl 0 (by decide) lf10 (fun _ h9 => h9) rfl dX1_order_146 ?_
                          refine rdV_i (b := a.2.1) (As := []) (rest := []) ⟨hx, hb, hml, hown, hts⟩ (c_Jx4a65c_size_8abf5 l G a.2.1 (kNew κ ux (sN σ) qn).1 (nI (sN σ + 1)) _) cw52 hK (LW_one (CW_list hP)) 0 rfl rfl rfl rfl hl.1 rfl (Nat.le_of_ble_eq_true rfl) dX1_order_149 ⟨Nat.le_of_ble_eq_true rfl, Nat.le_of_ble_eq_true rfl⟩ (fun r80 w80 => ?_)
                          have w80 : r80.toInt = (((sN σ + 1) : Nat) : Int) := by rw [w80]; exact ti_nI (by omega)
                          have hF : fOrder σ kd en wh to fr un = (nI (sN σ + 1), (sN σ + 1, va_up (sO σ) (sN σ) (kd, en, wh, to, fr, sT σ, un, 20001, 0), sT σ, sR σ, sG σ)) := (if_neg (by omega)).trans ((if_neg (by omega)).trans (if_neg (by omega)))
                          obtain rfl : r80 = nI (sN σ + 1) := nI_ofI w80
                          exact hret _ _ _ _ _ _ _ (kNew κ ux (sN σ) qn) dX1_order_152 (Or.inr (Or.inr rfl)) (by rw [hF]; exact ⟨rfl, CI_new hC g1 g2 g3 g4⟩) (by rw [hF]; exact hP) (by rw [hF]; exact hD) hS (Nat.le_of_ble_eq_true rfl) (Nat.le_of_ble_eq_true rfl)
                        have hP := ord_P (x := (CX G a (nI (sG σ).length) (sT σ) (sR σ) κ.2.2.2.2.2.1 κ.2.2.2.2.2.2)) hP
                        have hD := ord_D (x := (CX G a (nI (sG σ).length) (sT σ) (sR σ) κ.2.2.2.2.2.1 κ.2.2.2.2.2.2)) hD
                        rcases Nat.eq_zero_or_pos (sN σ) with hz | hz
                        · rw [LW_zero hz] at hP hD
                          refine wrV_i (wr := (CX G a (nI (sG σ).length) (sT σ) (sR σ) κ.2.2.2.2.2.1 κ.2.2.2.2.2.2)) (b := a.2.1) (As := [.ref qn]) (rest := []) ⟨hx, hb, hml, hown, hts⟩ (c_Jx4a65c_add_9ea2d_0 l G a.2.1 qn κ.1 ((pO κ.2.2.2.2.1 (sO σ) (sN σ)) ++ [(qn, Sum.inr (1, fl (kd, en, wh, to, fr, sT σ, un, 20001, 0)))] : va_W) (sN σ) (fl (kd, en, wh, to, fr, sT σ, un, 20001, 0)) tl_new) cw61 hK hZ hP hD hS hA 0 rfl rfl rfl rfl hl.1 rfl (Nat.le_of_ble_eq_true rfl) dX1_order_141 ⟨(Nat.le_of_ble_eq_true rfl), (Nat.le_of_ble_eq_true rfl)⟩ (fun r u H locs wu hP hD hS => ?_)
                          obtain ⟨g1, g2, g3⟩ := wu
                          exact tail u r H locs (by rw [hz]; exact g1) g2 (by rw [hz]; exact g3) (fun i hi => absurd hi (by omega)) (by rw [hz] at hP ⊢; exact hP) (by rw [hz] at hD ⊢; exact hD) hS
                        · obtain ⟨k1, k2, k3⟩ := hC.1 hz
                          rw [LW_pos (show sN σ ≠ 0 by omega)] at hP hD
                          rcases Nat.lt_or_ge (sN σ) κ.2.2.1 with hnN | hnN
                          · refine wrV_i (wr := (CX G a (nI (sG σ).length) (sT σ) (sR σ) κ.2.2.2.2.2.1 κ.2.2.2.2.2.2)) (b := a.2.1) (As := [.ref qn]) (rest := []) ⟨hx, hb, hml, hown, hts⟩ (c_Jx4a65c_add_9ea2d_s l G a.2.1 qn κ.1 κ.2.1 (sN σ) κ.2.2.1 κ.2.2.2.1 hz hnN k2 hI1 ((pO κ.2.2.2.2.1 (sO σ) (sN σ)) ++ [(qn, Sum.inr (1, fl (kd, en, wh, to, fr, sT σ, un, 20001, 0)))] : va_W) (sN σ) (fl (kd, en, wh, to, fr, sT σ, un, 20001, 0)) tl_new) cw61 hK hZ hP hD hS hA 0 rfl rfl rfl rfl hl.1 rfl (Nat.le_of_ble_eq_true rfl) dX1_order_141 ⟨(Nat.le_of_ble_eq_true rfl), (Nat.le_of_ble_eq_true rfl)⟩ (fun r u H locs wu hP hD hS => ?_)
                            obtain ⟨g1, g2, g3, g4⟩ := wu
                            exact tail u r H locs g1 g2 g3 (fun i hi => (g4 i hi).trans (k3 i hi)) hP hD hS
                          · have eN : κ.2.2.1 = sN σ := by omega
                            rw [eN] at hP hD
                            refine wrV_i (wr := (CX G a (nI (sG σ).length) (sT σ) (sR σ) κ.2.2.2.2.2.1 κ.2.2.2.2.2.2)) (b := a.2.1) (As := [.ref qn]) (rest := []) ⟨hx, hb, hml, hown, hts⟩ (c_Jx4a65c_add_9ea2d_g l G a.2.1 qn κ.1 κ.2.1 (sN σ) κ.2.2.2.1 hz hI1 ((pO κ.2.2.2.2.1 (sO σ) (sN σ)) ++ [(qn, Sum.inr (1, fl (kd, en, wh, to, fr, sT σ, un, 20001, 0)))] : va_W) (fun i hi => ⟨_, i, _, k3 i hi, tl_get hi⟩) (sN σ) (fl (kd, en, wh, to, fr, sT σ, un, 20001, 0)) tl_new) cw61 hK hZ hP hD hS hA 0 rfl rfl rfl rfl hl.1 rfl (Nat.le_of_ble_eq_true rfl) dX1_order_141 ⟨(Nat.le_of_ble_eq_true rfl), (Nat.le_of_ble_eq_true rfl)⟩ (fun r u H locs wu hP hD hS => ?_)
                            obtain ⟨g1, g2, g3, g4⟩ := wu
                            exact tail u r H locs g1 g2 g3 (fun i hi => (g4 i hi).trans (k3 i hi)) hP hD hS
                      · have c111_79 : ¬ ((((sN σ) : Nat) : Int) < 200) := mt (ti_lt (x := r78) (y := 200) (a := (((sN σ) : Nat) : Int)) (b := 200) w78 rfl).mpr c111_79
                        refine lv_bipush (v := (-104)) hx hb dX1_order_114 (by decide) ?_
                        have hF : fOrder σ kd en wh to fr un = ((-104), σ) := (if_neg (by omega)).trans ((if_neg (by omega)).trans (if_pos (by omega)))
                        exact hret _ _ _ _ _ _ _ κ dX1_order_116 (Or.inr (Or.inr rfl)) (by rw [hF]; exact ⟨rfl, hC⟩) (by rw [hF]; exact hP) (by rw [hF]; exact hD) hS (Nat.zero_le _) (Nat.zero_le _)
                    · have c95_77 : (to).toInt = (en).toInt := (ti_eq (x := to) (y := en) (a := (to).toInt) (b := (en).toInt) rfl rfl).mp c95_77
                      refine lv_bipush (v := (-102)) hx hb dX1_order_98 (by decide) ?_
                      have hF : fOrder σ kd en wh to fr un = ((-102), σ) := (if_neg (by omega)).trans (if_pos (by omega))
                      exact hret _ _ _ _ _ _ _ κ dX1_order_100 (Or.inr (Or.inr rfl)) (by rw [hF]; exact ⟨rfl, hC⟩) (by rw [hF]; exact hP) (by rw [hF]; exact hD) hS (Nat.zero_le _) (Nat.zero_le _)
          · have c50_68 : (r47_67).toInt = 0 := (ti_eq (x := r47_67) (y := 0) (a := (r47_67).toInt) (b := 0) rfl rfl).mp c50_68
            refine lv_bipush (v := (-101)) hx hb dX1_order_53 (by decide) ?_
            have hF : fOrder σ kd en wh to fr un = ((-101), σ) := if_pos (by omega)
            exact hret _ _ _ _ _ _ _ κ dX1_order_55 (Or.inr (Or.inr rfl)) (by rw [hF]; exact ⟨rfl, hC⟩) (by rw [hF]; exact hP) (by rw [hF]; exact hD) hS (Nat.zero_le _) (Nat.zero_le _)
        · have c30_65 : ¬ ((wh).toInt = (-1)) := mt (ti_eq (x := wh) (y := (-1)) (a := (wh).toInt) (b := (-1)) rfl rfl).mpr c30_65
          refine lv_iload_n hx hb dX1_order_33 rfl (lv_at hl 4 rfl) ?_
          refine rdS_i (As := [.int wh]) (rest := []) ⟨hx, hb, hml, hown, hts⟩ (c_X1_isPerson l G wh) cw45 hK va_P.nil rfl hl.1 rfl (Nat.le_of_ble_eq_true rfl) dX1_order_34 ⟨Nat.zero_le _, Nat.zero_le _⟩ (fun r34_81 w34_81 => ?_)
          have w34_81 : ((r34_81.toInt = 1 ∧ (0 ≤ (wh).toInt ∧ (wh).toInt ≤ 49)) ∨ (r34_81.toInt = 0 ∧ ¬ (0 ≤ (wh).toInt ∧ (wh).toInt ≤ 49))) := w34_81
          refine lv_if_eq (tgt := 53) hx hb dX1_order_37 (by decide) (fun c37_82 => ?_) (fun c37_82 => ?_)
          · have c37_82 : (r34_81).toInt = 0 := (ti_eq (x := r34_81) (y := 0) (a := (r34_81).toInt) (b := 0) rfl rfl).mp c37_82
            refine lv_bipush (v := (-101)) hx hb dX1_order_53 (by decide) ?_
            have hF : fOrder σ kd en wh to fr un = ((-101), σ) := if_pos (by omega)
            exact hret _ _ _ _ _ _ _ κ dX1_order_55 (Or.inr (Or.inr rfl)) (by rw [hF]; exact ⟨rfl, hC⟩) (by rw [hF]; exact hP) (by rw [hF]; exact hD) hS (Nat.zero_le _) (Nat.zero_le _)
          · have c37_82 : ¬ ((r34_81).toInt = 0) := mt (ti_eq (x := r34_81) (y := 0) (a := (r34_81).toInt) (b := 0) rfl rfl).mpr c37_82
            refine lv_iload hx hb dX1_order_40 (lv_at hl 0 rfl) ?_
            refine lv_if_eq (tgt := 56) hx hb dX1_order_42 (by decide) (fun c42_83 => absurd c42_83 (by decide)) (fun _ => ?_)
            refine lv_iload hx hb dX1_order_45 (lv_at hl 5 rfl) ?_
            refine rdS_i (As := [.int to]) (rest := []) ⟨hx, hb, hml, hown, hts⟩ (c_X1_isAddress l G to) cw42 hK va_P.nil rfl hl.1 rfl (Nat.le_of_ble_eq_true rfl) dX1_order_47 ⟨Nat.zero_le _, Nat.zero_le _⟩ (fun r47_84 w47_84 => ?_)
            have w47_84 : ((r47_84.toInt = 1 ∧ (1 ≤ (to).toInt ∧ (to).toInt ≤ 99)) ∨ (r47_84.toInt = 0 ∧ ¬ (1 ≤ (to).toInt ∧ (to).toInt ≤ 99))) := w47_84
            refine lv_if_ne (tgt := 56) hx hb dX1_order_50 (by decide) (fun c50_85 => ?_) (fun c50_85 => ?_)
            · have c50_85 : ¬ ((r47_84).toInt = 0) := mt (ti_eq (x := r47_84) (y := 0) (a := (r47_84).toInt) (b := 0) rfl rfl).mpr c50_85
              refine lv_iload_n hx hb dX1_order_56 rfl (lv_at hl 2 rfl) ?_
              refine rdS_i (As := [.int kd]) (rest := []) ⟨hx, hb, hml, hown, hts⟩ (c_X1_isKind l G kd) cw34 hK va_P.nil rfl hl.1 rfl (Nat.le_of_ble_eq_true rfl) dX1_order_57 ⟨Nat.zero_le _, Nat.zero_le _⟩ (fun r57_86 w57_86 => ?_)
              have w57_86 : ((r57_86.toInt = 1 ∧ (0 ≤ (kd).toInt ∧ (kd).toInt < 9)) ∨ (r57_86.toInt = 0 ∧ ¬ (0 ≤ (kd).toInt ∧ (kd).toInt < 9))) := w57_86
              refine lv_if_eq (tgt := 98) hx hb dX1_order_60 (by decide) (fun c60_87 => ?_) (fun c60_87 => ?_)
              · have c60_87 : (r57_86).toInt = 0 := (ti_eq (x := r57_86) (y := 0) (a := (r57_86).toInt) (b := 0) rfl rfl).mp c60_87
                refine lv_bipush (v := (-102)) hx hb dX1_order_98 (by decide) ?_
                have hF : fOrder σ kd en wh to fr un = ((-102), σ) := (if_neg (by omega)).trans (if_pos (by omega))
                exact hret _ _ _ _ _ _ _ κ dX1_order_100 (Or.inr (Or.inr rfl)) (by rw [hF]; exact ⟨rfl, hC⟩) (by rw [hF]; exact hP) (by rw [hF]; exact hD) hS (Nat.zero_le _) (Nat.zero_le _)
              · have c60_87 : ¬ ((r57_86).toInt = 0) := mt (ti_eq (x := r57_86) (y := 0) (a := (r57_86).toInt) (b := 0) rfl rfl).mpr c60_87
                refine lv_lload hx hb dX1_order_63 (lv_at hl 6 rfl) ?_
                refine rdS_i (As := [.long fr]) (rest := []) ⟨hx, hb, hml, hown, hts⟩ (c_X1_isDay l G fr) cw48 hK va_P.nil rfl hl.1 rfl (Nat.le_of_ble_eq_true rfl) dX1_order_65 ⟨Nat.zero_le _, Nat.zero_le _⟩ (fun r65_88 w65_88 => ?_)
                have w65_88 : ((r65_88.toInt = 1 ∧ (0 ≤ (fr).toInt ∧ (fr).toInt ≤ 20000)) ∨ (r65_88.toInt = 0 ∧ ¬ (0 ≤ (fr).toInt ∧ (fr).toInt ≤ 20000))) := w65_88
                refine lv_if_eq (tgt := 98) hx hb dX1_order_68 (by decide) (fun c68_89 => ?_) (fun c68_89 => ?_)
                · have c68_89 : (r65_88).toInt = 0 := (ti_eq (x := r65_88) (y := 0) (a := (r65_88).toInt) (b := 0) rfl rfl).mp c68_89
                  refine lv_bipush (v := (-102)) hx hb dX1_order_98 (by decide) ?_
                  have hF : fOrder σ kd en wh to fr un = ((-102), σ) := (if_neg (by omega)).trans (if_pos (by omega))
                  exact hret _ _ _ _ _ _ _ κ dX1_order_100 (Or.inr (Or.inr rfl)) (by rw [hF]; exact ⟨rfl, hC⟩) (by rw [hF]; exact hP) (by rw [hF]; exact hD) hS (Nat.zero_le _) (Nat.zero_le _)
                · have c68_89 : ¬ ((r65_88).toInt = 0) := mt (ti_eq (x := r65_88) (y := 0) (a := (r65_88).toInt) (b := 0) rfl rfl).mpr c68_89
                  refine lv_lload hx hb dX1_order_71 (lv_at hl 7 rfl) ?_
                  refine rdS_i (As := [.long un]) (rest := []) ⟨hx, hb, hml, hown, hts⟩ (c_X1_isDay l G un) cw48 hK va_P.nil rfl hl.1 rfl (Nat.le_of_ble_eq_true rfl) dX1_order_73 ⟨Nat.zero_le _, Nat.zero_le _⟩ (fun r73_90 w73_90 => ?_)
                  have w73_90 : ((r73_90.toInt = 1 ∧ (0 ≤ (un).toInt ∧ (un).toInt ≤ 20000)) ∨ (r73_90.toInt = 0 ∧ ¬ (0 ≤ (un).toInt ∧ (un).toInt ≤ 20000))) := w73_90
                  refine lv_if_eq (tgt := 98) hx hb dX1_order_76 (by decide) (fun c76_91 => ?_) (fun c76_91 => ?_)
                  · have c76_91 : (r73_90).toInt = 0 := (ti_eq (x := r73_90) (y := 0) (a := (r73_90).toInt) (b := 0) rfl rfl).mp c76_91
                    refine lv_bipush (v := (-102)) hx hb dX1_order_98 (by decide) ?_
                    have hF : fOrder σ kd en wh to fr un = ((-102), σ) := (if_neg (by omega)).trans (if_pos (by omega))
                    exact hret _ _ _ _ _ _ _ κ dX1_order_100 (Or.inr (Or.inr rfl)) (by rw [hF]; exact ⟨rfl, hC⟩) (by rw [hF]; exact hP) (by rw [hF]; exact hD) hS (Nat.zero_le _) (Nat.zero_le _)
                  · have c76_91 : ¬ ((r73_90).toInt = 0) := mt (ti_eq (x := r73_90) (y := 0) (a := (r73_90).toInt) (b := 0) rfl rfl).mpr c76_91
                    refine lv_lload hx hb dX1_order_79 (lv_at hl 7 rfl) ?_
                    refine lv_lload hx hb dX1_order_81 (lv_at hl 6 rfl) ?_
                    refine lc_lt (tgt := 98) hx hb dX1_order_83 dX1_order_84 (by decide) (fun c83_92 => ?_) (fun c83_92 => ?_)
                    · have c83_92 : (un).toInt < (fr).toInt := (tl_lt (x := un) (y := fr) (a := (un).toInt) (b := (fr).toInt) rfl rfl).mp c83_92
                      refine lv_bipush (v := (-102)) hx hb dX1_order_98 (by decide) ?_
                      have hF : fOrder σ kd en wh to fr un = ((-102), σ) := (if_neg (by omega)).trans (if_pos (by omega))
                      exact hret _ _ _ _ _ _ _ κ dX1_order_100 (Or.inr (Or.inr rfl)) (by rw [hF]; exact ⟨rfl, hC⟩) (by rw [hF]; exact hP) (by rw [hF]; exact hD) hS (Nat.zero_le _) (Nat.zero_le _)
                    · have c83_92 : ¬ ((un).toInt < (fr).toInt) := mt (tl_lt (x := un) (y := fr) (a := (un).toInt) (b := (fr).toInt) rfl rfl).mpr c83_92
                      refine lv_iload hx hb dX1_order_87 (lv_at hl 0 rfl) ?_
                      refine lv_if_eq (tgt := 101) hx hb dX1_order_89 (by decide) (fun c89_93 => absurd c89_93 (by decide)) (fun _ => ?_)
                      refine lv_iload hx hb dX1_order_92 (lv_at hl 5 rfl) ?_
                      refine lv_iload_n hx hb dX1_order_94 rfl (lv_at hl 3 rfl) ?_
                      refine lv_icmp_ne (tgt := 101) hx hb dX1_order_95 (by decide) (fun c95_94 => ?_) (fun c95_94 => ?_)
                      · have c95_94 : ¬ ((to).toInt = (en).toInt) := mt (ti_eq (x := to) (y := en) (a := (to).toInt) (b := (en).toInt) rfl rfl).mpr c95_94
                        refine lv_aload_n hx hb dX1_order_101 rfl (lv_at hl 1 rfl) ?_
                        refine va_get (D := G.1) (ci := 2) (v := .ref a.2.1) (own := RX1) (C := RX1) (T := TX1) (N := 6) hx hb hts hiX1 hown hK.1 hP 0 rfl rfl 0 (by decide) lf10 (fun _ h9 => h9) rfl dX1_order_102 ?_
                        refine rdV_i (b := a.2.1) (As := []) (rest := []) ⟨hx, hb, hml, hown, hts⟩ (c_Jx4a65c_size_8abf5 l G a.2.1 κ.1 (nI (sN σ)) _) cw52 hK (LW_one (CW_list hP)) 0 rfl rfl rfl rfl hl.1 rfl (Nat.le_of_ble_eq_true rfl) dX1_order_105 ⟨Nat.zero_le _, Nat.zero_le _⟩ (fun r95 w95 => ?_)
                        have w95 : r95.toInt = (((sN σ) : Nat) : Int) := by rw [w95]; exact ti_nI (by omega)
                        refine lv_sipush (v := 200) hx hb dX1_order_108 (by decide) ?_
                        refine lv_icmp_lt (tgt := 117) hx hb dX1_order_111 (by decide) (fun c111_96 => ?_) (fun c111_96 => ?_)
                        · have c111_96 : (((sN σ) : Nat) : Int) < 200 := (ti_lt (x := r95) (y := 200) (a := (((sN σ) : Nat) : Int)) (b := 200) w95 rfl).mp c111_96
                          refine lv_aload_n hx hb dX1_order_117 rfl (lv_at hl 1 rfl) ?_
                          refine va_get (D := G.1) (ci := 2) (v := .ref a.2.1) (own := RX1) (C := RX1) (T := TX1) (N := 6) hx hb hts hiX1 hown hK.1 hP 0 rfl rfl 0 (by decide) lf10 (fun _ h9 => h9) rfl dX1_order_118 ?_
                          refine va_new (ci := 1) (fs := [.int 0, .int 0, .int 0, .int 0, .long 0, .long 0, .long 0, .long 0, .int 0]) (own := RX1) (C := RX0) (T := TX0) (N := 9) hx hb hts hiX0 tyX0 tyX0_ok hown (hts (.classLink RX1 56 RX0) (by decide +kernel)) (hts (.instantiable RX0 9) (by decide +kernel)) (hts (.initialized RX0) (by decide +kernel)) hK.1 hP hD hS hA rfl (fun j hj => by rcases (show j = 0 ∨ j = 1 ∨ j = 2 ∨ j = 3 ∨ j = 4 ∨ j = 5 ∨ j = 6 ∨ j = 7 ∨ j = 8 by omega) with rfl | rfl | rfl | rfl | rfl | rfl | rfl | rfl | rfl <;> rfl) (Nat.le_of_ble_eq_true rfl) (Nat.le_of_ble_eq_true rfl) dX1_order_121 (fun qn H hP hD hS => ?_)
                          have hP : va_P G.1 vwCl ((CW G a (nI (sG σ).length) (sT σ) (sR σ) κ.2.2.2.2.2.1 κ.2.2.2.2.2.2 (pO κ.2.2.2.2.1 (sO σ) (sN σ)) (LW G a.2.1 κ.1 κ.2.1 κ.2.2.1 κ.2.2.2.1 (sN σ))) ++ [(qn, .inr (1, [.int 0, .int 0, .int 0, .int 0, .long 0, .long 0, .long 0, .long 0, .int 0]))]) H := hP
                          have hD : va_D A ((CW G a (nI (sG σ).length) (sT σ) (sR σ) κ.2.2.2.2.2.1 κ.2.2.2.2.2.2 (pO κ.2.2.2.2.1 (sO σ) (sN σ)) (LW G a.2.1 κ.1 κ.2.1 κ.2.2.1 κ.2.2.2.1 (sN σ))) ++ [(qn, .inr (1, [.int 0, .int 0, .int 0, .int 0, .long 0, .long 0, .long 0, .long 0, .int 0]))]) := hD
                          refine lv_dup hx hb dX1_order_124 rfl ?_
                          refine lv_iload_n hx hb dX1_order_125 rfl (lv_at hl 2 rfl) ?_
                          refine lv_iload_n hx hb dX1_order_126 rfl (lv_at hl 3 rfl) ?_
                          refine lv_iload_n hx hb dX1_order_127 rfl (lv_at hl 4 rfl) ?_
                          refine lv_iload hx hb dX1_order_128 (lv_at hl 5 rfl) ?_
                          refine lv_lload hx hb dX1_order_130 (lv_at hl 6 rfl) ?_
                          refine lv_lload hx hb dX1_order_132 (lv_at hl 7 rfl) ?_
                          refine lv_aload_n hx hb dX1_order_134 rfl (lv_at hl 1 rfl) ?_
                          refine va_get (D := G.1) (ci := 2) (v := .long (sT σ)) (own := RX1) (C := RX1) (T := TX1) (N := 6) hx hb hts hiX1 hown hK.1 hP 0 rfl rfl 5 (by decide) lf30 (fun _ h9 => h9) rfl dX1_order_135 ?_
                          refine wrI_v (wr := (CW G a (nI (sG σ).length) (sT σ) (sR σ) κ.2.2.2.2.2.1 κ.2.2.2.2.2.2 (pO κ.2.2.2.2.1 (sO σ) (sN σ)) (LW G a.2.1 κ.1 κ.2.1 κ.2.2.1 κ.2.2.2.1 (sN σ)))) (b := qn) (As := [.int kd, .int en, .int wh, .int to, .long fr, .long un, .long (sT σ)]) (rest := [.ref qn, .ref a.2.1]) ⟨hx, hb, hml, hown, hts⟩ (c_X0_init l G qn kd en wh to fr un (sT σ)) cw58 hK hZ hP hD hS hA rfl hl.1 rfl (Nat.le_of_ble_eq_true rfl) dX1_order_138 ⟨(Nat.le_of_ble_eq_true rfl), (Nat.le_of_ble_eq_true rfl)⟩ (fun _ H locs _ hP hD hS => ?_)
                          have hP : va_P G.1 vwCl ((CW G a (nI (sG σ).length) (sT σ) (sR σ) κ.2.2.2.2.2.1 κ.2.2.2.2.2.2 (pO κ.2.2.2.2.1 (sO σ) (sN σ)) (LW G a.2.1 κ.1 κ.2.1 κ.2.2.1 κ.2.2.2.1 (sN σ))) ++ [(qn, .inr (1, fl (kd, en, wh, to, fr, sT σ, un, 20001, 0)))]) H := hP
                          have hD : va_D A ((CW G a (nI (sG σ).length) (sT σ) (sR σ) κ.2.2.2.2.2.1 κ.2.2.2.2.2.2 (pO κ.2.2.2.2.1 (sO σ) (sN σ)) (LW G a.2.1 κ.1 κ.2.1 κ.2.2.1 κ.2.2.2.1 (sN σ))) ++ [(qn, .inr (1, fl (kd, en, wh, to, fr, sT σ, un, 20001, 0)))]) := hD
                          have tail : ∀ (ux : Int32 × Nat × Nat × (Nat → Option Nat)) (r : Int32) (H : Heap) (locs : List Loc), sN σ + 1 ≤ ux.2.2.1 → ux.2.2.1 ≤ 400 → ux.2.2.2 (sN σ) = some qn → (∀ i, i < sN σ → ux.2.2.2 i = some (κ.2.2.2.2.1 i)) → va_P G.1 vwCl ((CX G a (nI (sG σ).length) (sT σ) (sR σ) κ.2.2.2.2.2.1 κ.2.2.2.2.2.2) ++ ([(a.2.1, .inr (0, [.int ux.1, .ref ux.2.1, .int (nI (sN σ + 1))])), aO G ux.2.1 ux.2.2.1 ux.2.2.2] ++ ((pO κ.2.2.2.2.1 (sO σ) (sN σ)) ++ [(qn, Sum.inr (1, fl (kd, en, wh, to, fr, sT σ, un, 20001, 0)))] : va_W))) H → va_D A ((CX G a (nI (sG σ).length) (sT σ) (sR σ) κ.2.2.2.2.2.1 κ.2.2.2.2.2.2) ++ ([(a.2.1, .inr (0, [.int ux.1, .ref ux.2.1, .int (nI (sN σ + 1))])), aO G ux.2.1 ux.2.2.1 ux.2.2.2] ++ ((pO κ.2.2.2.2.1 (sO σ) (sN σ)) ++ [(qn, Sum.inr (1, fl (kd, en, wh, to, fr, sT σ, un, 20001, 0)))] : va_W))) → va_S A s.heap H locs → W p l e (rmX 7 280 2 409) s m args below meth c H locs (0 + 1 + 0 + 1) (0 + 9 + 0 + 400) Q (F0 m 144 ls [.int r]) := by
                            intro ux r H locs g1 g2 g3 g4 hP hD hS
                            have hP := back_P hP
                            have hD := back_D hD
                            rw [pO_push, ← LW_pos (G := G) (h := a.2.1) (md := ux.1) (a2 := ux.2.1) (N := ux.2.2.1) (f := ux.2.2.2) (n := sN σ + 1) (by omega)] at hP hD
                            have hP : va_P G.1 vwCl (CW G a (nI (sG σ).length) (sT σ) (sR σ) κ.2.2.2.2.2.1 κ.2.2.2.2.2.2 (pO (kNew κ ux (sN σ) qn).2.2.2.2.1 (va_up (sO σ) (sN σ) (kd, en, wh, to, fr, sT σ, un, 20001, 0)) (sN σ + 1)) (LW G a.2.1 (kNew κ ux (sN σ) qn).1 (kNew κ ux (sN σ) qn).2.1 (kNew κ ux (sN σ) qn).2.2.1 (kNew κ ux (sN σ) qn).2.2.2.1 (sN σ + 1))) H := hP
                            have hD : va_D A (CW G a (nI (sG σ).length) (sT σ) (sR σ) κ.2.2.2.2.2.1 κ.2.2.2.2.2.2 (pO (kNew κ ux (sN σ) qn).2.2.2.2.1 (va_up (sO σ) (sN σ) (kd, en, wh, to, fr, sT σ, un, 20001, 0)) (sN σ + 1)) (LW G a.2.1 (kNew κ ux (sN σ) qn).1 (kNew κ ux (sN σ) qn).2.1 (kNew κ ux (sN σ) qn).2.2.1 (kNew κ ux (sN σ) qn).2.2.2.1 (sN σ + 1))) := hD
                            refine lv_pop hx hb dX1_order_144 rfl ?_
                            refine lv_aload_n hx hb dX1_order_145 rfl (lv_at hl 1 rfl) ?_
                            refine va_get (D := G.1) (ci := 2) (v := .ref a.2.1) (own := RX1) (C := RX1) (T := TX1) (N := 6) hx hb hts hiX1 hown hK.1 hP 0 rfl rfl 0 (by decide) lf10 (fun _ h9 => h9) rfl dX1_order_146 ?_
                            refine rdV_i (b := a.2.1) (As := []) (rest := []) ⟨hx, hb, hml, hown, hts⟩ (c_Jx4a65c_size_8abf5 l G a.2.1 (kNew κ ux (sN σ) qn).1 (nI (sN σ + 1)) _) cw52 hK (LW_one (CW_list hP)) 0 rfl rfl rfl rfl hl.1 rfl (Nat.le_of_ble_eq_true rfl) dX1_order_149 ⟨Nat.le_of_ble_eq_true rfl, Nat.le_of_ble_eq_true rfl⟩ (fun r97 w97 => ?_)
                            have w97 : r97.toInt = (((sN σ + 1) : Nat) : Int) := by rw [w97]; exact ti_nI (by omega)
                            have hF : fOrder σ kd en wh to fr un = (nI (sN σ + 1), (sN σ + 1, va_up (sO σ) (sN σ) (kd, en, wh, to, fr, sT σ, un, 20001, 0), sT σ, sR σ, sG σ)) := (if_neg (by omega)).trans ((if_neg (by omega)).trans (if_neg (by omega)))
                            obtain rfl : r97 = nI (sN σ + 1) := nI_ofI w97
                            exact hret _ _ _ _ _ _ _ (kNew κ ux (sN σ) qn) dX1_order_152 (Or.inr (Or.inr rfl)) (by rw [hF]; exact ⟨rfl, CI_new hC g1 g2 g3 g4⟩) (by rw [hF]; exact hP) (by rw [hF]; exact hD) hS (Nat.le_of_ble_eq_true rfl) (Nat.le_of_ble_eq_true rfl)
                          have hP := ord_P (x := (CX G a (nI (sG σ).length) (sT σ) (sR σ) κ.2.2.2.2.2.1 κ.2.2.2.2.2.2)) hP
                          have hD := ord_D (x := (CX G a (nI (sG σ).length) (sT σ) (sR σ) κ.2.2.2.2.2.1 κ.2.2.2.2.2.2)) hD
                          rcases Nat.eq_zero_or_pos (sN σ) with hz | hz
                          · rw [LW_zero hz] at hP hD
                            refine wrV_i (wr := (CX G a (nI (sG σ).length) (sT σ) (sR σ) κ.2.2.2.2.2.1 κ.2.2.2.2.2.2)) (b := a.2.1) (As := [.ref qn]) (rest := []) ⟨hx, hb, hml, hown, hts⟩ (c_Jx4a65c_add_9ea2d_0 l G a.2.1 qn κ.1 ((pO κ.2.2.2.2.1 (sO σ) (sN σ)) ++ [(qn, Sum.inr (1, fl (kd, en, wh, to, fr, sT σ, un, 20001, 0)))] : va_W) (sN σ) (fl (kd, en, wh, to, fr, sT σ, un, 20001, 0)) tl_new) cw61 hK hZ hP hD hS hA 0 rfl rfl rfl rfl hl.1 rfl (Nat.le_of_ble_eq_true rfl) dX1_order_141 ⟨(Nat.le_of_ble_eq_true rfl), (Nat.le_of_ble_eq_true rfl)⟩ (fun r u H locs wu hP hD hS => ?_)
                            obtain ⟨g1, g2, g3⟩ := wu
                            exact tail u r H locs (by rw [hz]; exact g1) g2 (by rw [hz]; exact g3) (fun i hi => absurd hi (by omega)) (by rw [hz] at hP ⊢; exact hP) (by rw [hz] at hD ⊢; exact hD) hS
                          · obtain ⟨k1, k2, k3⟩ := hC.1 hz
                            rw [LW_pos (show sN σ ≠ 0 by omega)] at hP hD
                            rcases Nat.lt_or_ge (sN σ) κ.2.2.1 with hnN | hnN
                            · refine wrV_i (wr := (CX G a (nI (sG σ).length) (sT σ) (sR σ) κ.2.2.2.2.2.1 κ.2.2.2.2.2.2)) (b := a.2.1) (As := [.ref qn]) (rest := []) ⟨hx, hb, hml, hown, hts⟩ (c_Jx4a65c_add_9ea2d_s l G a.2.1 qn κ.1 κ.2.1 (sN σ) κ.2.2.1 κ.2.2.2.1 hz hnN k2 hI1 ((pO κ.2.2.2.2.1 (sO σ) (sN σ)) ++ [(qn, Sum.inr (1, fl (kd, en, wh, to, fr, sT σ, un, 20001, 0)))] : va_W) (sN σ) (fl (kd, en, wh, to, fr, sT σ, un, 20001, 0)) tl_new) cw61 hK hZ hP hD hS hA 0 rfl rfl rfl rfl hl.1 rfl (Nat.le_of_ble_eq_true rfl) dX1_order_141 ⟨(Nat.le_of_ble_eq_true rfl), (Nat.le_of_ble_eq_true rfl)⟩ (fun r u H locs wu hP hD hS => ?_)
                              obtain ⟨g1, g2, g3, g4⟩ := wu
                              exact tail u r H locs g1 g2 g3 (fun i hi => (g4 i hi).trans (k3 i hi)) hP hD hS
                            · have eN : κ.2.2.1 = sN σ := by omega
                              rw [eN] at hP hD
                              refine wrV_i (wr := (CX G a (nI (sG σ).length) (sT σ) (sR σ) κ.2.2.2.2.2.1 κ.2.2.2.2.2.2)) (b := a.2.1) (As := [.ref qn]) (rest := []) ⟨hx, hb, hml, hown, hts⟩ (c_Jx4a65c_add_9ea2d_g l G a.2.1 qn κ.1 κ.2.1 (sN σ) κ.2.2.2.1 hz hI1 ((pO κ.2.2.2.2.1 (sO σ) (sN σ)) ++ [(qn, Sum.inr (1, fl (kd, en, wh, to, fr, sT σ, un, 20001, 0)))] : va_W) (fun i hi => ⟨_, i, _, k3 i hi, tl_get hi⟩) (sN σ) (fl (kd, en, wh, to, fr, sT σ, un, 20001, 0)) tl_new) cw61 hK hZ hP hD hS hA 0 rfl rfl rfl rfl hl.1 rfl (Nat.le_of_ble_eq_true rfl) dX1_order_141 ⟨(Nat.le_of_ble_eq_true rfl), (Nat.le_of_ble_eq_true rfl)⟩ (fun r u H locs wu hP hD hS => ?_)
                              obtain ⟨g1, g2, g3, g4⟩ := wu
                              exact tail u r H locs g1 g2 g3 (fun i hi => (g4 i hi).trans (k3 i hi)) hP hD hS
                        · have c111_96 : ¬ ((((sN σ) : Nat) : Int) < 200) := mt (ti_lt (x := r95) (y := 200) (a := (((sN σ) : Nat) : Int)) (b := 200) w95 rfl).mpr c111_96
                          refine lv_bipush (v := (-104)) hx hb dX1_order_114 (by decide) ?_
                          have hF : fOrder σ kd en wh to fr un = ((-104), σ) := (if_neg (by omega)).trans ((if_neg (by omega)).trans (if_pos (by omega)))
                          exact hret _ _ _ _ _ _ _ κ dX1_order_116 (Or.inr (Or.inr rfl)) (by rw [hF]; exact ⟨rfl, hC⟩) (by rw [hF]; exact hP) (by rw [hF]; exact hD) hS (Nat.zero_le _) (Nat.zero_le _)
                      · have c95_94 : (to).toInt = (en).toInt := (ti_eq (x := to) (y := en) (a := (to).toInt) (b := (en).toInt) rfl rfl).mp c95_94
                        refine lv_bipush (v := (-102)) hx hb dX1_order_98 (by decide) ?_
                        have hF : fOrder σ kd en wh to fr un = ((-102), σ) := (if_neg (by omega)).trans (if_pos (by omega))
                        exact hret _ _ _ _ _ _ _ κ dX1_order_100 (Or.inr (Or.inr rfl)) (by rw [hF]; exact ⟨rfl, hC⟩) (by rw [hF]; exact hP) (by rw [hF]; exact hD) hS (Nat.zero_le _) (Nat.zero_le _)
            · have c50_85 : (r47_84).toInt = 0 := (ti_eq (x := r47_84) (y := 0) (a := (r47_84).toInt) (b := 0) rfl rfl).mp c50_85
              refine lv_bipush (v := (-101)) hx hb dX1_order_53 (by decide) ?_
              have hF : fOrder σ kd en wh to fr un = ((-101), σ) := if_pos (by omega)
              exact hret _ _ _ _ _ _ _ κ dX1_order_55 (Or.inr (Or.inr rfl)) (by rw [hF]; exact ⟨rfl, hC⟩) (by rw [hF]; exact hP) (by rw [hF]; exact hD) hS (Nat.zero_le _) (Nat.zero_le _)

set_option maxHeartbeats 4000000 in
set_option maxRecDepth 100000 in
/-- OrderRows2() -/
theorem c_X1_init (l : Launch) (G : GG) (h : Nat) : WrV l yX1_init wsX1_init (rmX 4 160 4 212) G [.ref h] [(h, .inr (2, [.null, .null, .null, .null, .int 0, .long 0]))] (fun u : AD => u.1 = h) (fun u : AD => WC G u κ0 σ0) 4 212 := by
  refine wr_of_v (cc := cX1_init) (maxL := 1) (by decide +kernel) rfl (Nat.le_of_ble_eq_true rfl) ?_
  intro p e s m args below meth c Q A hx hb hml hown hts hK hZ hA hin hret ls hl hP hD hS
  have hown : s.vm.findClass RX1 = some m.cls := hown
  have hl : lv_has ls 1 [(0, .ref h)] := hl
  have hP : va_P G.1 vwCl [(h, .inr (2, [.null, .null, .null, .null, .int 0, .long 0]))] s.heap := hP
  have hD : va_D A [(h, .inr (2, [.null, .null, .null, .null, .int 0, .long 0]))] := hD
  have hin : meth.name = "<init>" := hin
  have hiJx4a65c := (show ∀ w ∈ u_ws RJx4a65c TJx4a65c 3, w ∈ wsX1_init by decide +kernel)
  have cw9 := cwI (R := (rmX 4 160 4 212)) (s := s) (args := args) (rm := (rmX 3 120 0 0)) (mc := 0) (ms := 0) (own := RX1) (index := 9) 0 hts gX1_init_Jx4a65c_init_da8c8 rfl rfl rfl (hts (.initialized RJx4a65c) (by decide +kernel)) (hts (.methodLink RX1 9 yJx4a65c_init_da8c8) (by decide +kernel)) (hts (.instanceMethod yJx4a65c_init_da8c8) (by decide +kernel)) rfl (by decide +kernel) ⟨Nat.le_of_ble_eq_true rfl, Nat.le_of_ble_eq_true rfl⟩
  have hiX1 := (show ∀ w ∈ u_ws RX1 TX1 6, w ∈ wsX1_init by decide +kernel)
  have lf10 := hts (.fieldLink RX1 10 "OrderRows2" "orders" "Ljava/util/ArrayList;") (by decide +kernel)
  have lf16 := hts (.fieldLink RX1 16 "OrderRows2" "rankOfKind" "[I") (by decide +kernel)
  have lf20 := hts (.fieldLink RX1 20 "OrderRows2" "path" "[I") (by decide +kernel)
  have lf23 := hts (.fieldLink RX1 23 "OrderRows2" "ringTold" "[I") (by decide +kernel)
  have lf26 := hts (.fieldLink RX1 26 "OrderRows2" "ringLength" "I") (by decide +kernel)
  have lf30 := hts (.fieldLink RX1 30 "OrderRows2" "clock" "J") (by decide +kernel)
  refine lv_aload_n hx hb dX1_init_0 rfl (lv_at hl 0 rfl) ?_
  refine W.objInit hx hb hown (hts (.methodLink RX1 1 objectInit) (by decide +kernel)) (hts (.instanceMethod objectInit) (by decide +kernel)) (hts (.code objectInit ⟨#[0xb1]⟩ 1 none) (by decide +kernel)) rfl (by rw [hml]; exact hl.1) rfl dX1_init_1 (Nat.le_of_ble_eq_true rfl) (Nat.le_of_ble_eq_true rfl) ?_
  refine W.eq (g2 := F0 m 4 ls []) rfl ?_
  refine lv_aload_n hx hb dX1_init_4 rfl (lv_at hl 0 rfl) ?_
  refine va_new (ci := 0) (fs := [.int 0, .null, .int 0]) (own := RX1) (C := RJx4a65c) (T := TJx4a65c) (N := 3) hx hb hts hiJx4a65c tyJx4a65c tyJx4a65c_ok hown (hts (.classLink RX1 7 RJx4a65c) (by decide +kernel)) (hts (.instantiable RJx4a65c 3) (by decide +kernel)) (hts (.initialized RJx4a65c) (by decide +kernel)) hK.1 hP hD hS hA rfl (fun j hj => by rcases (show j = 0 ∨ j = 1 ∨ j = 2 by omega) with rfl | rfl | rfl <;> rfl) (Nat.le_of_ble_eq_true rfl) (Nat.le_of_ble_eq_true rfl) dX1_init_5 (fun ql H hP hD hS => ?_)
  have hP : va_P G.1 vwCl [(h, .inr (2, [.null, .null, .null, .null, .int 0, .long 0])), (ql, .inr (0, [.int 0, .null, .int 0]))] H := hP
  have hD : va_D A [(h, .inr (2, [.null, .null, .null, .null, .int 0, .long 0])), (ql, .inr (0, [.int 0, .null, .int 0]))] := hD
  refine lv_dup hx hb dX1_init_8 rfl ?_
  refine wrI_v (wr := [(h, .inr (2, [.null, .null, .null, .null, .int 0, .long 0]))]) (b := ql) (As := []) (rest := [.ref ql, .ref h]) ⟨hx, hb, hml, hown, hts⟩ (c_Jx4a65c_init_da8c8 l G ql) cw9 hK hZ hP hD hS hA rfl hl.1 rfl (Nat.le_of_ble_eq_true rfl) dX1_init_9 ⟨(Nat.le_of_ble_eq_true rfl), (Nat.le_of_ble_eq_true rfl)⟩ (fun _ H locs _ hP hD hS => ?_)
  have hP : va_P G.1 vwCl [(h, .inr (2, [.null, .null, .null, .null, .int 0, .long 0])), (ql, .inr (0, [.int 0, .ref (gS G), .int 0]))] H := hP
  have hD : va_D A [(h, .inr (2, [.null, .null, .null, .null, .int 0, .long 0])), (ql, .inr (0, [.int 0, .ref (gS G), .int 0]))] := hD
  refine va_putF (D := G.1) (ci := 2) (v := .ref ql) (ty := (.object "java/util/ArrayList")) (own := RX1) (C := RX1) (T := TX1) (N := 6) hx hb hts hiX1 tyX1 tyX1_ok nmX1 hown hK.1 hP hD hS 0 rfl rfl 0 (by decide) lf10 (fun _ h9 => h9) rfl hin rfl (by decide +kernel) rfl rfl (Nat.le_of_ble_eq_true rfl) dX1_init_12 (fun H locs hP hD hS => ?_)
  have hP : va_P G.1 vwCl [(h, .inr (2, [.ref ql, .null, .null, .null, .int 0, .long 0])), (ql, .inr (0, [.int 0, .ref (gS G), .int 0]))] H := hP
  have hD : va_D A [(h, .inr (2, [.ref ql, .null, .null, .null, .int 0, .long 0])), (ql, .inr (0, [.int 0, .ref (gS G), .int 0]))] := hD
  refine lv_aload_n hx hb dX1_init_15 rfl (lv_at hl 0 rfl) ?_
  refine lv_bipush (v := 9) hx hb dX1_init_16 (by decide) ?_
  refine va_newa (atype := .int) hx hb (hts (.arrayClass .int) (by decide +kernel)) rfl hK.1 hP hD hS hA (n := 9) (N' := 9) (a0 := (9, .inl (fun _ => 0))) (fun _ => rfl) (by decide) (by decide) (Nat.le_of_ble_eq_true rfl) (Nat.le_of_ble_eq_true rfl) (Nat.le_of_ble_eq_true rfl) dX1_init_18 (fun qr cA H hK2 hP hD hS => ?_)
  obtain rfl : cA = gI G := Option.some.inj ((va_nm_int (hK2.2 4 _ rfl).2).symm.trans (va_nm_int (hK.1.2 0 _ rfl).2))
  have hP : va_P G.1 vwCl [(h, .inr (2, [.ref ql, .null, .null, .null, .int 0, .long 0])), (ql, .inr (0, [.int 0, .ref (gS G), .int 0])), aI G qr 9 (fun _ => 0)] H := hP
  have hD : va_D A [(h, .inr (2, [.ref ql, .null, .null, .null, .int 0, .long 0])), (ql, .inr (0, [.int 0, .ref (gS G), .int 0])), aI G qr 9 (fun _ => 0)] := hD
  refine va_putF (D := G.1) (ci := 2) (v := .ref qr) (ty := (.array .int)) (own := RX1) (C := RX1) (T := TX1) (N := 6) hx hb hts hiX1 tyX1 tyX1_ok nmX1 hown hK.1 hP hD hS 0 rfl rfl 1 (by decide) lf16 (fun _ h9 => h9) rfl hin rfl (by decide +kernel) rfl rfl (Nat.le_of_ble_eq_true rfl) dX1_init_20 (fun H locs hP hD hS => ?_)
  have hP : va_P G.1 vwCl [(h, .inr (2, [.ref ql, .ref qr, .null, .null, .int 0, .long 0])), (ql, .inr (0, [.int 0, .ref (gS G), .int 0])), aI G qr 9 (fun _ => 0)] H := hP
  have hD : va_D A [(h, .inr (2, [.ref ql, .ref qr, .null, .null, .int 0, .long 0])), (ql, .inr (0, [.int 0, .ref (gS G), .int 0])), aI G qr 9 (fun _ => 0)] := hD
  refine lv_aload_n hx hb dX1_init_23 rfl (lv_at hl 0 rfl) ?_
  refine lv_bipush (v := 100) hx hb dX1_init_24 (by decide) ?_
  refine va_newa (atype := .int) hx hb (hts (.arrayClass .int) (by decide +kernel)) rfl hK.1 hP hD hS hA (n := 100) (N' := 100) (a0 := (100, .inl (fun _ => 0))) (fun _ => rfl) (by decide) (by decide) (Nat.le_of_ble_eq_true rfl) (Nat.le_of_ble_eq_true rfl) (Nat.le_of_ble_eq_true rfl) dX1_init_26 (fun qp cA H hK2 hP hD hS => ?_)
  obtain rfl : cA = gI G := Option.some.inj ((va_nm_int (hK2.2 4 _ rfl).2).symm.trans (va_nm_int (hK.1.2 0 _ rfl).2))
  have hP : va_P G.1 vwCl [(h, .inr (2, [.ref ql, .ref qr, .null, .null, .int 0, .long 0])), (ql, .inr (0, [.int 0, .ref (gS G), .int 0])), aI G qr 9 (fun _ => 0), aI G qp 100 (fun _ => 0)] H := hP
  have hD : va_D A [(h, .inr (2, [.ref ql, .ref qr, .null, .null, .int 0, .long 0])), (ql, .inr (0, [.int 0, .ref (gS G), .int 0])), aI G qr 9 (fun _ => 0), aI G qp 100 (fun _ => 0)] := hD
  refine va_putF (D := G.1) (ci := 2) (v := .ref qp) (ty := (.array .int)) (own := RX1) (C := RX1) (T := TX1) (N := 6) hx hb hts hiX1 tyX1 tyX1_ok nmX1 hown hK.1 hP hD hS 0 rfl rfl 2 (by decide) lf20 (fun _ h9 => h9) rfl hin rfl (by decide +kernel) rfl rfl (Nat.le_of_ble_eq_true rfl) dX1_init_28 (fun H locs hP hD hS => ?_)
  have hP : va_P G.1 vwCl [(h, .inr (2, [.ref ql, .ref qr, .ref qp, .null, .int 0, .long 0])), (ql, .inr (0, [.int 0, .ref (gS G), .int 0])), aI G qr 9 (fun _ => 0), aI G qp 100 (fun _ => 0)] H := hP
  have hD : va_D A [(h, .inr (2, [.ref ql, .ref qr, .ref qp, .null, .int 0, .long 0])), (ql, .inr (0, [.int 0, .ref (gS G), .int 0])), aI G qr 9 (fun _ => 0), aI G qp 100 (fun _ => 0)] := hD
  refine lv_aload_n hx hb dX1_init_31 rfl (lv_at hl 0 rfl) ?_
  refine lv_bipush (v := 100) hx hb dX1_init_32 (by decide) ?_
  refine va_newa (atype := .int) hx hb (hts (.arrayClass .int) (by decide +kernel)) rfl hK.1 hP hD hS hA (n := 100) (N' := 100) (a0 := (100, .inl (fun _ => 0))) (fun _ => rfl) (by decide) (by decide) (Nat.le_of_ble_eq_true rfl) (Nat.le_of_ble_eq_true rfl) (Nat.le_of_ble_eq_true rfl) dX1_init_34 (fun qt cA H hK2 hP hD hS => ?_)
  obtain rfl : cA = gI G := Option.some.inj ((va_nm_int (hK2.2 4 _ rfl).2).symm.trans (va_nm_int (hK.1.2 0 _ rfl).2))
  have hP : va_P G.1 vwCl [(h, .inr (2, [.ref ql, .ref qr, .ref qp, .null, .int 0, .long 0])), (ql, .inr (0, [.int 0, .ref (gS G), .int 0])), aI G qr 9 (fun _ => 0), aI G qp 100 (fun _ => 0), aI G qt 100 (fun _ => 0)] H := hP
  have hD : va_D A [(h, .inr (2, [.ref ql, .ref qr, .ref qp, .null, .int 0, .long 0])), (ql, .inr (0, [.int 0, .ref (gS G), .int 0])), aI G qr 9 (fun _ => 0), aI G qp 100 (fun _ => 0), aI G qt 100 (fun _ => 0)] := hD
  refine va_putF (D := G.1) (ci := 2) (v := .ref qt) (ty := (.array .int)) (own := RX1) (C := RX1) (T := TX1) (N := 6) hx hb hts hiX1 tyX1 tyX1_ok nmX1 hown hK.1 hP hD hS 0 rfl rfl 3 (by decide) lf23 (fun _ h9 => h9) rfl hin rfl (by decide +kernel) rfl rfl (Nat.le_of_ble_eq_true rfl) dX1_init_36 (fun H locs hP hD hS => ?_)
  have hP : va_P G.1 vwCl [(h, .inr (2, [.ref ql, .ref qr, .ref qp, .ref qt, .int 0, .long 0])), (ql, .inr (0, [.int 0, .ref (gS G), .int 0])), aI G qr 9 (fun _ => 0), aI G qp 100 (fun _ => 0), aI G qt 100 (fun _ => 0)] H := hP
  have hD : va_D A [(h, .inr (2, [.ref ql, .ref qr, .ref qp, .ref qt, .int 0, .long 0])), (ql, .inr (0, [.int 0, .ref (gS G), .int 0])), aI G qr 9 (fun _ => 0), aI G qp 100 (fun _ => 0), aI G qt 100 (fun _ => 0)] := hD
  refine lv_aload_n hx hb dX1_init_39 rfl (lv_at hl 0 rfl) ?_
  refine lv_iconst (v := 0) hx hb dX1_init_40 (by decide) ?_
  refine va_put (D := G.1) (ci := 2) (v := .int 0) (ty := .int) (own := RX1) (C := RX1) (T := TX1) (N := 6) hx hb hts hiX1 tyX1 tyX1_ok nmX1 hown hK.1 hP hD hS 0 rfl rfl 4 (by decide) lf26 (fun _ h9 => h9) rfl (by decide +kernel) rfl rfl (Nat.le_of_ble_eq_true rfl) dX1_init_41 (fun H locs hP hD hS => ?_)
  have hP : va_P G.1 vwCl [(h, .inr (2, [.ref ql, .ref qr, .ref qp, .ref qt, .int 0, .long 0])), (ql, .inr (0, [.int 0, .ref (gS G), .int 0])), aI G qr 9 (fun _ => 0), aI G qp 100 (fun _ => 0), aI G qt 100 (fun _ => 0)] H := hP
  have hD : va_D A [(h, .inr (2, [.ref ql, .ref qr, .ref qp, .ref qt, .int 0, .long 0])), (ql, .inr (0, [.int 0, .ref (gS G), .int 0])), aI G qr 9 (fun _ => 0), aI G qp 100 (fun _ => 0), aI G qt 100 (fun _ => 0)] := hD
  refine lv_aload_n hx hb dX1_init_44 rfl (lv_at hl 0 rfl) ?_
  refine lv_lconst (v := 0) hx hb dX1_init_45 rfl ?_
  refine va_put (D := G.1) (ci := 2) (v := .long 0) (ty := .long) (own := RX1) (C := RX1) (T := TX1) (N := 6) hx hb hts hiX1 tyX1 tyX1_ok nmX1 hown hK.1 hP hD hS 0 rfl rfl 5 (by decide) lf30 (fun _ h9 => h9) rfl (by decide +kernel) rfl rfl (Nat.le_of_ble_eq_true rfl) dX1_init_46 (fun H locs hP hD hS => ?_)
  have hP : va_P G.1 vwCl [(h, .inr (2, [.ref ql, .ref qr, .ref qp, .ref qt, .int 0, .long 0])), (ql, .inr (0, [.int 0, .ref (gS G), .int 0])), aI G qr 9 (fun _ => 0), aI G qp 100 (fun _ => 0), aI G qt 100 (fun _ => 0)] H := hP
  have hD : va_D A [(h, .inr (2, [.ref ql, .ref qr, .ref qp, .ref qt, .int 0, .long 0])), (ql, .inr (0, [.int 0, .ref (gS G), .int 0])), aI G qr 9 (fun _ => 0), aI G qp 100 (fun _ => 0), aI G qt 100 (fun _ => 0)] := hD
  have hP2 := hP.sub [0, 2, 3, 4, 1] rfl
  have hD2 := hD.sub (ws' := WC G (h, ql, qr, qp, qt) κ0 σ0) [0, 2, 3, 4, 1] (by decide) rfl
  exact hret _ _ _ _ _ _ (h, ql, qr, qp, qt) dX1_init_49 rfl hP2 hD2 hS (Nat.le_of_ble_eq_true rfl) (Nat.le_of_ble_eq_true rfl)
end
section
/-! plain facts for the reference: the order that counts, found from the last on; its rows; ways and the number of addresses -/
def oN (x : Option Nat) : Nat := match x with
  | none => 0
  | some b => b + 1
def IsB (σ : St) (a w k d : Int) (lo hi : Nat) (x : Option Nat) : Prop := match x with
  | none => ∀ i, lo ≤ i → i < hi → ¬ mtC (sO σ i) a w k d
  | some b => lo ≤ b ∧ b < hi ∧ mtC (sO σ b) a w k d ∧ ∀ i, lo ≤ i → i < hi → mtC (sO σ i) a w k d → rkI σ i ≤ rkI σ b ∧ (b < i → rkI σ i < rkI σ b)
theorem bst_isB {σ : St} {a w k d : Int} : ∀ j : Nat, IsB σ a w k d 0 j (bst σ a w k d j) := by
  intro j
  induction j with
  | zero => exact fun i _ h => absurd h (Nat.not_lt_zero i)
  | succ j ih =>
    by_cases hm : mtC (sO σ j) a w k d
    · cases hb : bst σ a w k d j with
      | none =>
        rw [hb] at ih
        rw [bst_first hm hb]
        refine ⟨Nat.zero_le _, Nat.lt_succ_self j, hm, fun i _ hi hmi => ?_⟩
        rcases Nat.lt_or_eq_of_le (Nat.lt_succ_iff.mp hi) with z | z
        · exact absurd hmi (ih i (Nat.zero_le _) z)
        · subst z; exact ⟨Int.le_refl _, fun h => absurd h (Nat.lt_irrefl _)⟩
      | some b =>
        rw [hb] at ih
        obtain ⟨h1, h2, h3, h4⟩ := ih
        by_cases hr : rkI σ b ≤ rkI σ j
        · rw [bst_up hm hb hr]
          refine ⟨Nat.zero_le _, Nat.lt_succ_self j, hm, fun i _ hi hmi => ?_⟩
          rcases Nat.lt_or_eq_of_le (Nat.lt_succ_iff.mp hi) with z | z
          · exact ⟨Int.le_trans (h4 i (Nat.zero_le _) z hmi).1 hr, fun h => absurd h (by omega)⟩
          · subst z; exact ⟨Int.le_refl _, fun h => absurd h (Nat.lt_irrefl _)⟩
        · rw [bst_keep hm hb hr]
          refine ⟨h1, Nat.lt_succ_of_lt h2, h3, fun i _ hi hmi => ?_⟩
          rcases Nat.lt_or_eq_of_le (Nat.lt_succ_iff.mp hi) with z | z
          · exact h4 i (Nat.zero_le _) z hmi
          · subst z; exact ⟨Int.le_of_lt (Int.not_le.mp hr), fun _ => Int.not_le.mp hr⟩
    · rw [bst_no hm]
      cases hb : bst σ a w k d j with
      | none =>
        rw [hb] at ih
        intro i _ hi
        rcases Nat.lt_or_eq_of_le (Nat.lt_succ_iff.mp hi) with z | z
        · exact ih i (Nat.zero_le _) z
        · subst z; exact hm
      | some b =>
        rw [hb] at ih
        obtain ⟨h1, h2, h3, h4⟩ := ih
        refine ⟨h1, Nat.lt_succ_of_lt h2, h3, fun i _ hi hmi => ?_⟩
        rcases Nat.lt_or_eq_of_le (Nat.lt_succ_iff.mp hi) with z | z
        · exact h4 i (Nat.zero_le _) z hmi
        · subst z; exact absurd hmi hm
theorem IsB_uniq {σ : St} {a w k d : Int} {lo hi : Nat} {x y : Option Nat} (hx : IsB σ a w k d lo hi x) (hy : IsB σ a w k d lo hi y) : x = y := by
  cases x with
  | none =>
    cases y with
    | none => rfl
    | some b => exact absurd hy.2.2.1 (hx b hy.1 hy.2.1)
  | some c =>
    cases y with
    | none => exact absurd hx.2.2.1 (hy c hx.1 hx.2.1)
    | some b =>
      have h1 := hx.2.2.2 b hy.1 hy.2.1 hy.2.2.1
      have h2 := hy.2.2.2 c hx.1 hx.2.1 hx.2.2.1
      rcases Nat.lt_trichotomy c b with z | z | z
      · have := h1.2 z; have := h2.1; omega
      · rw [z]
      · have := h2.2 z; have := h1.1; omega
theorem IsB_nil {σ : St} {a w k d : Int} {n : Nat} : IsB σ a w k d n n none := fun i h1 h2 => absurd h2 (by omega)
theorem IsB_no {σ : St} {a w k d : Int} {j n : Nat} {x : Option Nat} (h : IsB σ a w k d (j + 1) n x) (hm : ¬ mtC (sO σ j) a w k d) : IsB σ a w k d j n x := by
  cases x with
  | none =>
    intro i h1 h2
    rcases Nat.lt_or_eq_of_le h1 with z | z
    · exact h i z h2
    · subst z; exact hm
  | some b =>
    refine ⟨by have := h.1; omega, h.2.1, h.2.2.1, fun i h1 h2 hmi => ?_⟩
    rcases Nat.lt_or_eq_of_le h1 with z | z
    · exact h.2.2.2 i z h2 hmi
    · subst z; exact absurd hmi hm
theorem IsB_first {σ : St} {a w k d : Int} {j n : Nat} (h : IsB σ a w k d (j + 1) n none) (hj : j < n) (hm : mtC (sO σ j) a w k d) : IsB σ a w k d j n (some j) := by
  refine ⟨Nat.le_refl _, hj, hm, fun i h1 h2 hmi => ?_⟩
  rcases Nat.lt_or_eq_of_le h1 with z | z
  · exact absurd hmi (h i z h2)
  · subst z; exact ⟨Int.le_refl _, fun h => absurd h (Nat.lt_irrefl _)⟩
theorem IsB_rep {σ : St} {a w k d : Int} {j n b : Nat} (h : IsB σ a w k d (j + 1) n (some b)) (hj : j < n) (hm : mtC (sO σ j) a w k d) (hr : rkI σ b < rkI σ j) : IsB σ a w k d j n (some j) := by
  refine ⟨Nat.le_refl _, hj, hm, fun i h1 h2 hmi => ?_⟩
  rcases Nat.lt_or_eq_of_le h1 with z | z
  · have := (h.2.2.2 i z h2 hmi).1
    exact ⟨by omega, fun _ => by omega⟩
  · subst z; exact ⟨Int.le_refl _, fun h => absurd h (Nat.lt_irrefl _)⟩
theorem IsB_keep {σ : St} {a w k d : Int} {j n b : Nat} (h : IsB σ a w k d (j + 1) n (some b)) (hr : ¬ rkI σ b < rkI σ j) : IsB σ a w k d j n (some b) := by
  refine ⟨by have := h.1; omega, h.2.1, h.2.2.1, fun i h1 h2 hmi => ?_⟩
  rcases Nat.lt_or_eq_of_le h1 with z | z
  · exact h.2.2.2 i z h2 hmi
  · subst z
    have := h.1
    exact ⟨by omega, fun q => absurd q (by omega)⟩
theorem XI_i {x y : Int64} (h : XI x y) : (x.toInt = 20001 ∧ y.toInt = -1) ∨ (x.toInt ≠ 20001 ∧ y.toInt = x.toInt) := by
  rcases h with ⟨h1, h2⟩ | ⟨h1, h2⟩
  · exact Or.inl ⟨h1, h2⟩
  · exact Or.inr ⟨h1, by rw [h2]⟩
abbrev mX (μ : MP) (g : Nat → Int64) : MP := (μ.1, μ.2.1, μ.2.2.1, μ.2.2.2.1, μ.2.2.2.2.1, μ.2.2.2.2.2.1, μ.2.2.2.2.2.2.1, μ.2.2.2.2.2.2.2.1, g, μ.2.2.2.2.2.2.2.2.2.1, μ.2.2.2.2.2.2.2.2.2.2)
abbrev mV (μ : MP) (g : Nat → Int32) : MP := (μ.1, μ.2.1, μ.2.2.1, μ.2.2.2.1, μ.2.2.2.2.1, μ.2.2.2.2.2.1, μ.2.2.2.2.2.2.1, g, μ.2.2.2.2.2.2.2.2.1, μ.2.2.2.2.2.2.2.2.2.1, μ.2.2.2.2.2.2.2.2.2.2)
abbrev mU (μ : MP) (g : Nat → Int64) : MP := (μ.1, μ.2.1, μ.2.2.1, μ.2.2.2.1, μ.2.2.2.2.1, g, μ.2.2.2.2.2.2.1, μ.2.2.2.2.2.2.2.1, μ.2.2.2.2.2.2.2.2.1, μ.2.2.2.2.2.2.2.2.2.1, μ.2.2.2.2.2.2.2.2.2.2)
abbrev mWG (μ : MP) (w g : Nat → Int32) : MP := (μ.1, μ.2.1, μ.2.2.1, μ.2.2.2.1, μ.2.2.2.2.1, μ.2.2.2.2.2.1, μ.2.2.2.2.2.2.1, μ.2.2.2.2.2.2.2.1, μ.2.2.2.2.2.2.2.2.1, w, g)
theorem lap1_or (t : Int) (o : Ord) : lap1 t o = o ∨ lap1 t o = oSX o (oM o + 15) := by
  by_cases h : lapC t o
  · exact Or.inr (if_pos h)
  · exact Or.inl (if_neg h)
theorem MI_mv {μ : MP} {σ : St} {t : Int64} {g : Nat → Int64} (hM : MI μ σ) (hg : ∀ j, j < sN σ → XI (oX (mvO σ t.toInt (sN σ) j)) (g (j + 1))) : MI (mX μ g) (mvS σ t) := by
  refine ⟨fun i hi => ?_, hM.2.1, hM.2.2⟩
  have h := hM.1 i hi
  have hx := hg i hi
  have e : mvO σ t.toInt (sN σ) i = lap1 t.toInt (sO σ i) := if_pos hi
  show MO (mX μ g) (i + 1) (mvO σ t.toInt (sN σ) i)
  obtain ⟨h1, h2, h3, h4, h5, h6, h7, h8, -⟩ := h
  refine ⟨?_, ?_, ?_, ?_, ?_, ?_, ?_, ?_, hx⟩ <;> rw [e] <;> rcases lap1_or t.toInt (sO σ i) with q | q <;> rw [q] <;> assumption
theorem MI_upd {μ μ' : MP} {σ : St} {i : Nat} {o : Ord} (hM : MI μ σ) (hs : ∀ (j : Nat) (o : Ord), j ≠ i + 1 → MO μ j o → MO μ' j o) (hn : MO μ' (i + 1) o) (hv : ∀ j, sN σ < j → uV μ' j = uV μ j) (hg : uG μ' = uG μ) : MI μ' (sPut σ i o) := by
  refine ⟨fun j hj => ?_, fun j hj => (hv j hj).trans (hM.2.1 j hj), fun j hj => by rw [hg]; exact hM.2.2 j hj⟩
  show MO μ' (j + 1) (va_up (sO σ) i o j)
  by_cases e : j = i
  · subst e; rw [va_up_self]; exact hn
  · rw [va_up_ne _ _ e]
    exact hs _ _ (by omega) (hM.1 j hj)
theorem mvO_ne {σ : St} {t : Int} {i j : Nat} (h : j ≠ i) : mvO σ t (i + 1) j = mvO σ t i j := by
  unfold mvO
  by_cases c : j < i
  · rw [if_pos c, if_pos (by omega)]
  · rw [if_neg c, if_neg (by omega)]
theorem mvO_in {σ : St} {t : Int} {i : Nat} : mvO σ t (i + 1) i = lap1 t (sO σ i) := if_pos (Nat.lt_succ_self i)
-- ways: addresses that differ are at most 99
def AdOk (x : Int32) : Prop := 1 ≤ x.toInt ∧ x.toInt ≤ 99
theorem way_len {q : List Int32} (h1 : ∀ i, i < q.length → AdOk (q.getD i 0)) (h2 : ∀ i j, i < j → j < q.length → q.getD i 0 ≠ q.getD j 0) : q.length ≤ 99 := by
  refine fb_holes 99 q.length (fun i => (q.getD i 0).toInt.toNat - 1) (fun i hi => ?_) (fun i j hij hj => ?_)
  · have := h1 i hi
    unfold AdOk at this
    show (q.getD i 0).toInt.toNat - 1 < 99
    omega
  · have a1 := h1 i (by omega)
    have a2 := h1 j hj
    have a3 := h2 i j hij hj
    unfold AdOk at a1 a2
    intro e
    have e : (q.getD i 0).toInt.toNat - 1 = (q.getD j 0).toInt.toNat - 1 := e
    exact a3 (ti_inj (by omega))
theorem way_ok {q : List Int32} {a : Int32} (h1 : ∀ i, i < q.length → AdOk (q.getD i 0)) (ha : AdOk a) : ∀ i, i < (q ++ [a]).length → AdOk ((q ++ [a]).getD i 0) := by
  intro i hi
  rw [len_app] at hi
  rcases Nat.lt_or_eq_of_le (Nat.lt_succ_iff.mp hi) with z | z
  · rw [gD_app z]; exact h1 i z
  · rw [z, gD_last]; exact ha
theorem fst1_no {q : List Int32} {a : Int32} {i : Nat} (h : i < fst1 q a) : q.getD i 0 ≠ a := by
  have := fa_first_no (fun j => decide (q.getD j 0 = a)) q.length i h
  exact of_decide_eq_false this
theorem fst1_yes {q : List Int32} {a : Int32} (h : fst1 q a < q.length) : q.getD (fst1 q a) 0 = a := by
  have := fa_first_yes (fun j => decide (q.getD j 0 = a)) q.length h
  exact of_decide_eq_true this
theorem way_ne {q : List Int32} {a : Int32} (h2 : ∀ i j, i < j → j < q.length → q.getD i 0 ≠ q.getD j 0) (ha : ¬ fst1 q a < q.length) : ∀ i j, i < j → j < (q ++ [a]).length → (q ++ [a]).getD i 0 ≠ (q ++ [a]).getD j 0 := by
  intro i j hij hj
  rw [len_app] at hj
  rcases Nat.lt_or_eq_of_le (Nat.lt_succ_iff.mp hj) with z | z
  · rw [gD_app z, gD_app (by omega)]; exact h2 i j hij z
  · subst z
    rw [gD_last, gD_app (by omega)]
    exact fst1_no (by omega)
theorem OI_to {t : Int} {o : Ord} (h : OI t o) (hk : (oK o).toInt < 3) : AdOk (oT o) := h.2.2.1 hk
theorem MI_new {μ μ' : MP} {σ : St} {o : Ord} (hM : MI μ σ) (hs : ∀ (j : Nat) (o : Ord), j ≠ sN σ + 1 → MO μ j o → MO μ' j o) (hn : MO μ' (sN σ + 1) o) (hv : uV μ' = uV μ) (hg : uG μ' = uG μ) : MI μ' (sN σ + 1, va_up (sO σ) (sN σ) o, sT σ, sR σ, sG σ) := by
  refine ⟨fun j hj => ?_, fun j hj => by rw [hv]; exact hM.2.1 j (by have hj : sN σ + 1 < j := hj; omega), fun j hj => by rw [hg]; exact hM.2.2 j hj⟩
  show MO μ' (j + 1) (va_up (sO σ) (sN σ) o j)
  have hj : j < sN σ + 1 := hj
  by_cases e : j = sN σ
  · rw [e, va_up_self]; exact hn
  · rw [va_up_ne _ _ e]
    exact hs _ _ (by omega) (hM.1 j (by omega))
theorem MI_W {μ : MP} {σ : St} (w : Nat → Int32) (h : MI μ σ) : MI (mWG μ w (uG μ)) σ := h
theorem upL_self {f : Nat → Int64} {k : Nat} : vp_updL f k (f k) = f := by
  funext j
  by_cases z : j = k
  · rw [z, pk_uLs]
  · rw [pk_uLn z]
theorem mx_or {a t mx : Int} (h : mx = if a < t then t else a) : (a < t ∧ mx = t) ∨ (¬ a < t ∧ mx = a) := by
  by_cases c : a < t
  · exact Or.inl ⟨c, h.trans (if_pos c)⟩
  · exact Or.inr ⟨c, h.trans (if_neg c)⟩
end
section
-- ===== laid by wip/whole/gen.py out of the decode rows =====
set_option maxHeartbeats 4000000 in
set_option maxRecDepth 100000 in
/-- isIn -/
theorem c_X2_isIn (l : Launch) (G : GG) (x y z : Int64) : RdI l yX2_isIn wsX2_isIn (rmX 0 0 0 0) G [.long x, .long y, .long z] [] (fun r => ((r.toInt = 1 ∧ ((y).toInt ≤ (x).toInt ∧ (x).toInt ≤ (z).toInt)) ∨ (r.toInt = 0 ∧ ¬ ((y).toInt ≤ (x).toInt ∧ (x).toInt ≤ (z).toInt)))) := by
  refine rd_of_i (cc := cX2_isIn) (maxL := 6) (t := .boolean) (by decide +kernel) rfl (Nat.le_of_ble_eq_true rfl) nar_bool ?_
  intro p e s m args below meth c Q hx hb hml hown hts hP hK hret ls hl
  have hown : s.vm.findClass RX2 = some m.cls := hown
  have hl : lv_has ls 6 [(0, .long x), (2, .long y), (4, .long z)] := hl
  refine lv_lload_n hx hb dX2_isIn_0 rfl (lv_at hl 0 rfl) ?_
  refine lv_lload_n hx hb dX2_isIn_1 rfl (lv_at hl 1 rfl) ?_
  refine lc_lt (tgt := 17) hx hb dX2_isIn_2 dX2_isIn_3 (by decide) (fun c2_1 => ?_) (fun c2_1 => ?_)
  · have c2_1 : (x).toInt < (y).toInt := (tl_lt (x := x) (y := y) (a := (x).toInt) (b := (y).toInt) rfl rfl).mp c2_1
    refine lv_iconst (v := 0) hx hb dX2_isIn_17 (by decide) ?_
    exact hret _ _ _ dX2_isIn_18 (Or.inl rfl) (Or.inr ⟨rfl, by omega⟩)
  · have c2_1 : ¬ ((x).toInt < (y).toInt) := mt (tl_lt (x := x) (y := y) (a := (x).toInt) (b := (y).toInt) rfl rfl).mpr c2_1
    refine lv_lload_n hx hb dX2_isIn_6 rfl (lv_at hl 0 rfl) ?_
    refine lv_lload hx hb dX2_isIn_7 (lv_at hl 2 rfl) ?_
    refine lc_gt (tgt := 17) hx hb dX2_isIn_9 dX2_isIn_10 (by decide) (fun c9_2 => ?_) (fun c9_2 => ?_)
    · have c9_2 : (z).toInt < (x).toInt := (tl_lt (x := z) (y := x) (a := (z).toInt) (b := (x).toInt) rfl rfl).mp c9_2
      refine lv_iconst (v := 0) hx hb dX2_isIn_17 (by decide) ?_
      exact hret _ _ _ dX2_isIn_18 (Or.inl rfl) (Or.inr ⟨rfl, by omega⟩)
    · have c9_2 : ¬ ((z).toInt < (x).toInt) := mt (tl_lt (x := z) (y := x) (a := (z).toInt) (b := (x).toInt) rfl rfl).mpr c9_2
      refine lv_iconst (v := 1) hx hb dX2_isIn_13 (by decide) ?_
      refine lv_goto (tgt := 18) hx hb dX2_isIn_14 (by decide) ?_
      exact hret _ _ _ dX2_isIn_18 (Or.inr (Or.inl rfl)) (Or.inl ⟨rfl, by omega⟩)

set_option maxHeartbeats 4000000 in
set_option maxRecDepth 100000 in
/-- isOrder -/
theorem c_X2_isOrder (l : Launch) (G : GG) (b : Nat → Nat) (μ : MP) (σ : St) (hI : SI σ) (hM : MI μ σ) (o : Int32) : RdI l yX2_isOrder wsX2_isOrder (rmX 1 60 0 0) G [.ref (b 0), .int o] (WM G b μ σ) (fun r => ((r.toInt = 1 ∧ (1 ≤ (o).toInt ∧ (o).toInt ≤ ((sN σ : Nat) : Int))) ∨ (r.toInt = 0 ∧ ¬ (1 ≤ (o).toInt ∧ (o).toInt ≤ ((sN σ : Nat) : Int))))) := by
  refine rd_of_i (cc := cX2_isOrder) (maxL := 2) (t := .boolean) (by decide +kernel) rfl (Nat.le_of_ble_eq_true rfl) nar_bool ?_
  intro p e s m args below meth c Q hx hb hml hown hts hP hK hret ls hl
  have hown : s.vm.findClass RX2 = some m.cls := hown
  have hl : lv_has ls 2 [(0, .ref (b 0)), (1, .int o)] := hl
  have hP : va_P G.1 vwCl (MW G b 0 (nI (sN σ)) (uK μ) (uE μ) (uP μ) (uT μ) (uF μ) (uU μ) (uM μ) (uV μ) (uX μ) (sR σ) (sT σ) (uW μ) (nI (sG σ).length) (uG μ)) s.heap := hP
  obtain ⟨hI1, hI2, hI3, hI4, hI5⟩ := id hI
  have hiX2 := (show ∀ w ∈ u_ws RX2 TX2 17, w ∈ wsX2_isOrder by decide +kernel)
  have lf55 := hts (.fieldLink RX2 55 "OrderRows2Model" "orders" "I") (by decide +kernel)
  have cw58 := va_cwS (R := (rmX 1 60 0 0)) (s := s) (args := args) (rm := (rmX 0 0 0 0)) (mc := 0) (ms := 0) 3 hts gX2_isOrder_X2_isIn rfl rfl rfl (by decide +kernel) ⟨Nat.le_of_ble_eq_true rfl, Nat.le_of_ble_eq_true rfl⟩
  refine lv_iload_n hx hb dX2_isOrder_0 rfl (lv_at hl 1 rfl) ?_
  refine lv_i2l hx hb dX2_isOrder_1 rfl ?_
  refine lv_lconst (v := 1) hx hb dX2_isOrder_2 rfl ?_
  refine lv_aload_n hx hb dX2_isOrder_3 rfl (lv_at hl 0 rfl) ?_
  refine va_get (D := G.1) (ci := 3) (v := .int (nI (sN σ))) (own := RX2) (C := RX2) (T := TX2) (N := 17) hx hb hts hiX2 hown hK.1 hP 0 rfl rfl 1 (by decide) lf55 (fun _ h9 => h9) rfl dX2_isOrder_4 ?_
  refine lv_i2l hx hb dX2_isOrder_7 rfl ?_
  refine rdS_i (As := [.long ((o).toInt64), .long 1, .long (((nI (sN σ))).toInt64)]) (rest := []) ⟨hx, hb, hml, hown, hts⟩ (c_X2_isIn l G ((o).toInt64 : Int64) (1 : Int64) (((nI (sN σ))).toInt64 : Int64)) cw58 hK va_P.nil rfl hl.1 rfl (Nat.le_of_ble_eq_true rfl) dX2_isOrder_8 ⟨Nat.zero_le _, Nat.zero_le _⟩ (fun r8_1 w8_1 => ?_)
  have w8_1 : ((r8_1.toInt = 1 ∧ (((1 : Int64)).toInt ≤ (((o).toInt64 : Int64)).toInt ∧ (((o).toInt64 : Int64)).toInt ≤ ((((nI (sN σ))).toInt64 : Int64)).toInt)) ∨ (r8_1.toInt = 0 ∧ ¬ (((1 : Int64)).toInt ≤ (((o).toInt64 : Int64)).toInt ∧ (((o).toInt64 : Int64)).toInt ≤ ((((nI (sN σ))).toInt64 : Int64)).toInt))) := w8_1
  have va2 : (((o).toInt64 : Int64)).toInt = (o).toInt := (tl_i2l rfl)
  have va3 : ((1 : Int64)).toInt = 1 := rfl
  have va4 : ((((nI (sN σ))).toInt64 : Int64)).toInt = (((sN σ) : Nat) : Int) := (tl_i2l (ti_nI (by omega)))
  exact hret _ _ _ dX2_isOrder_11 (by rcases w8_1 with ⟨h9, _⟩ | ⟨h9, _⟩; exact Or.inr (Or.inl (ti_inj (y := 1) h9)); exact Or.inl (ti_inj (y := 0) h9)) (by omega)

set_option maxHeartbeats 4000000 in
set_option maxRecDepth 100000 in
/-- isDay -/
theorem c_X2_isDay (l : Launch) (G : GG) (b : Nat → Nat) (μ : MP) (σ : St) (hI : SI σ) (hM : MI μ σ) (t : Int64) : RdI l yX2_isDay wsX2_isDay (rmX 1 60 0 0) G [.ref (b 0), .long t] (WM G b μ σ) (fun r => ((r.toInt = 1 ∧ ((sT σ).toInt ≤ (t).toInt ∧ (t).toInt ≤ 20000)) ∨ (r.toInt = 0 ∧ ¬ ((sT σ).toInt ≤ (t).toInt ∧ (t).toInt ≤ 20000)))) := by
  refine rd_of_i (cc := cX2_isDay) (maxL := 3) (t := .boolean) (by decide +kernel) rfl (Nat.le_of_ble_eq_true rfl) nar_bool ?_
  intro p e s m args below meth c Q hx hb hml hown hts hP hK hret ls hl
  have hown : s.vm.findClass RX2 = some m.cls := hown
  have hl : lv_has ls 3 [(0, .ref (b 0)), (1, .long t)] := hl
  have hP : va_P G.1 vwCl (MW G b 0 (nI (sN σ)) (uK μ) (uE μ) (uP μ) (uT μ) (uF μ) (uU μ) (uM μ) (uV μ) (uX μ) (sR σ) (sT σ) (uW μ) (nI (sG σ).length) (uG μ)) s.heap := hP
  obtain ⟨hI1, hI2, hI3, hI4, hI5⟩ := id hI
  have hiX2 := (show ∀ w ∈ u_ws RX2 TX2 17, w ∈ wsX2_isDay by decide +kernel)
  have lf62 := hts (.fieldLink RX2 62 "OrderRows2Model" "now" "J") (by decide +kernel)
  have kl66 := hts (.constantLong RX2 66 (20000)) (by decide +kernel)
  have cw58 := va_cwS (R := (rmX 1 60 0 0)) (s := s) (args := args) (rm := (rmX 0 0 0 0)) (mc := 0) (ms := 0) 3 hts gX2_isDay_X2_isIn rfl rfl rfl (by decide +kernel) ⟨Nat.le_of_ble_eq_true rfl, Nat.le_of_ble_eq_true rfl⟩
  refine lv_lload_n hx hb dX2_isDay_0 rfl (lv_at hl 1 rfl) ?_
  refine lv_aload_n hx hb dX2_isDay_1 rfl (lv_at hl 0 rfl) ?_
  refine va_get (D := G.1) (ci := 3) (v := .long (sT σ)) (own := RX2) (C := RX2) (T := TX2) (N := 17) hx hb hts hiX2 hown hK.1 hP 0 rfl rfl 12 (by decide) lf62 (fun _ h9 => h9) rfl dX2_isDay_2 ?_
  refine lv_ldc2 (v := 20000) hx hb hown kl66 dX2_isDay_5 ?_
  refine rdS_i (As := [.long t, .long (sT σ), .long 20000]) (rest := []) ⟨hx, hb, hml, hown, hts⟩ (c_X2_isIn l G (t : Int64) ((sT σ) : Int64) (20000 : Int64)) cw58 hK va_P.nil rfl hl.1 rfl (Nat.le_of_ble_eq_true rfl) dX2_isDay_8 ⟨Nat.zero_le _, Nat.zero_le _⟩ (fun r8_1 w8_1 => ?_)
  have w8_1 : ((r8_1.toInt = 1 ∧ ((((sT σ) : Int64)).toInt ≤ ((t : Int64)).toInt ∧ ((t : Int64)).toInt ≤ ((20000 : Int64)).toInt)) ∨ (r8_1.toInt = 0 ∧ ¬ ((((sT σ) : Int64)).toInt ≤ ((t : Int64)).toInt ∧ ((t : Int64)).toInt ≤ ((20000 : Int64)).toInt))) := w8_1
  have va2 : ((20000 : Int64)).toInt = 20000 := rfl
  exact hret _ _ _ dX2_isDay_11 (by rcases w8_1 with ⟨h9, _⟩ | ⟨h9, _⟩; exact Or.inr (Or.inl (ti_inj (y := 1) h9)); exact Or.inl (ti_inj (y := 0) h9)) (by omega)

set_option maxHeartbeats 4000000 in
set_option maxRecDepth 100000 in
/-- isForce -/
theorem c_X2_isForce (l : Launch) (G : GG) (b : Nat → Nat) (μ : MP) (σ : St) (hI : SI σ) (hM : MI μ σ) (x : Int32) (d : Int64) (i : Nat) (hi : i < sN σ) (hx1 : (x).toInt = ((i + 1 : Nat) : Int)) (hd : (d).toInt ≤ 20000) : RdI l yX2_isForce wsX2_isForce (rmX 1 60 0 0) G [.ref (b 0), .int x, .long d] (WM G b μ σ) (fun r => ((r.toInt = 1 ∧ ((oF (sO σ i)).toInt ≤ (d).toInt ∧ (d).toInt ≤ (oU (sO σ i)).toInt ∧ (d).toInt < (oX (sO σ i)).toInt)) ∨ (r.toInt = 0 ∧ ¬ ((oF (sO σ i)).toInt ≤ (d).toInt ∧ (d).toInt ≤ (oU (sO σ i)).toInt ∧ (d).toInt < (oX (sO σ i)).toInt)))) := by
  refine rd_of_i (cc := cX2_isForce) (maxL := 4) (t := .boolean) (by decide +kernel) rfl (Nat.le_of_ble_eq_true rfl) nar_bool ?_
  intro p e s m args below meth c Q hx hb hml hown hts hP hK hret ls hl
  have hown : s.vm.findClass RX2 = some m.cls := hown
  have hl : lv_has ls 4 [(0, .ref (b 0)), (1, .int x), (2, .long d)] := hl
  have hP : va_P G.1 vwCl (MW G b 0 (nI (sN σ)) (uK μ) (uE μ) (uP μ) (uT μ) (uF μ) (uU μ) (uM μ) (uV μ) (uX μ) (sR σ) (sT σ) (uW μ) (nI (sG σ).length) (uG μ)) s.heap := hP
  obtain ⟨hI1, hI2, hI3, hI4, hI5⟩ := id hI
  have hiX2 := (show ∀ w ∈ u_ws RX2 TX2 17, w ∈ wsX2_isForce by decide +kernel)
  have lf22 := hts (.fieldLink RX2 22 "OrderRows2Model" "froms" "[J") (by decide +kernel)
  have lf26 := hts (.fieldLink RX2 26 "OrderRows2Model" "untils" "[J") (by decide +kernel)
  have cw58 := va_cwS (R := (rmX 1 60 0 0)) (s := s) (args := args) (rm := (rmX 0 0 0 0)) (mc := 0) (ms := 0) 3 hts gX2_isForce_X2_isIn rfl rfl rfl (by decide +kernel) ⟨Nat.le_of_ble_eq_true rfl, Nat.le_of_ble_eq_true rfl⟩
  have lf36 := hts (.fieldLink RX2 36 "OrderRows2Model" "overs" "[J") (by decide +kernel)
  have hmo1 := hM.1 i hi
  have hxi1 : ((oX (sO σ i)).toInt = 20001 ∧ ((uX μ) (i + 1)).toInt = -1) ∨ ((oX (sO σ i)).toInt ≠ 20001 ∧ ((uX μ) (i + 1)).toInt = (oX (sO σ i)).toInt) := XI_i hmo1.2.2.2.2.2.2.2.2
  have hoi1 := hI4 i hi
  unfold OI at hoi1
  refine lv_lload_n hx hb dX2_isForce_0 rfl (lv_at hl 2 rfl) ?_
  refine lv_aload_n hx hb dX2_isForce_1 rfl (lv_at hl 0 rfl) ?_
  refine va_get (D := G.1) (ci := 3) (v := .ref (b 5)) (own := RX2) (C := RX2) (T := TX2) (N := 17) hx hb hts hiX2 hown hK.1 hP 0 rfl rfl 6 (by decide) lf22 (fun _ h9 => h9) rfl dX2_isForce_2 ?_
  refine lv_iload_n hx hb dX2_isForce_5 rfl (lv_at hl 1 rfl) ?_
  refine my_lald hx hb hK hP 5 rfl (i + 1) hx1 (by omega) dX2_isForce_6 ?_
  refine lv_aload_n hx hb dX2_isForce_7 rfl (lv_at hl 0 rfl) ?_
  refine va_get (D := G.1) (ci := 3) (v := .ref (b 6)) (own := RX2) (C := RX2) (T := TX2) (N := 17) hx hb hts hiX2 hown hK.1 hP 0 rfl rfl 7 (by decide) lf26 (fun _ h9 => h9) rfl dX2_isForce_8 ?_
  refine lv_iload_n hx hb dX2_isForce_11 rfl (lv_at hl 1 rfl) ?_
  refine my_lald hx hb hK hP 6 rfl (i + 1) hx1 (by omega) dX2_isForce_12 ?_
  refine rdS_i (As := [.long d, .long ((uF μ) (i + 1)), .long ((uU μ) (i + 1))]) (rest := []) ⟨hx, hb, hml, hown, hts⟩ (c_X2_isIn l G (d : Int64) (((uF μ) (i + 1)) : Int64) (((uU μ) (i + 1)) : Int64)) cw58 hK va_P.nil rfl hl.1 rfl (Nat.le_of_ble_eq_true rfl) dX2_isForce_13 ⟨Nat.zero_le _, Nat.zero_le _⟩ (fun r13_1 w13_1 => ?_)
  have w13_1 : ((r13_1.toInt = 1 ∧ (((((uF μ) (i + 1)) : Int64)).toInt ≤ ((d : Int64)).toInt ∧ ((d : Int64)).toInt ≤ ((((uU μ) (i + 1)) : Int64)).toInt)) ∨ (r13_1.toInt = 0 ∧ ¬ (((((uF μ) (i + 1)) : Int64)).toInt ≤ ((d : Int64)).toInt ∧ ((d : Int64)).toInt ≤ ((((uU μ) (i + 1)) : Int64)).toInt))) := w13_1
  have va2 : ((((uF μ) (i + 1)) : Int64)).toInt = (oF (sO σ i)).toInt := (congrArg Int64.toInt hmo1.2.2.2.2.1)
  have va3 : ((((uU μ) (i + 1)) : Int64)).toInt = (oU (sO σ i)).toInt := (congrArg Int64.toInt hmo1.2.2.2.2.2.1)
  refine lv_if_eq (tgt := 45) hx hb dX2_isForce_16 (by decide) (fun c16_4 => ?_) (fun c16_4 => ?_)
  · have c16_4 : (r13_1).toInt = 0 := (ti_eq (x := r13_1) (y := 0) (a := (r13_1).toInt) (b := 0) rfl rfl).mp c16_4
    refine lv_iconst (v := 0) hx hb dX2_isForce_45 (by decide) ?_
    exact hret _ _ _ dX2_isForce_46 (Or.inl rfl) (Or.inr ⟨rfl, by omega⟩)
  · have c16_4 : ¬ ((r13_1).toInt = 0) := mt (ti_eq (x := r13_1) (y := 0) (a := (r13_1).toInt) (b := 0) rfl rfl).mpr c16_4
    refine lv_aload_n hx hb dX2_isForce_19 rfl (lv_at hl 0 rfl) ?_
    refine va_get (D := G.1) (ci := 3) (v := .ref (b 9)) (own := RX2) (C := RX2) (T := TX2) (N := 17) hx hb hts hiX2 hown hK.1 hP 0 rfl rfl 10 (by decide) lf36 (fun _ h9 => h9) rfl dX2_isForce_20 ?_
    refine lv_iload_n hx hb dX2_isForce_23 rfl (lv_at hl 1 rfl) ?_
    refine my_lald hx hb hK hP 9 rfl (i + 1) hx1 (by omega) dX2_isForce_24 ?_
    refine lv_lconst (v := 0) hx hb dX2_isForce_25 rfl ?_
    refine lc_lt (tgt := 41) hx hb dX2_isForce_26 dX2_isForce_27 (by decide) (fun c26_5 => ?_) (fun c26_5 => ?_)
    · have c26_5 : (((uX μ) (i + 1))).toInt < 0 := (tl_lt (x := ((uX μ) (i + 1))) (y := 0) (a := (((uX μ) (i + 1))).toInt) (b := 0) rfl rfl).mp c26_5
      refine lv_iconst (v := 1) hx hb dX2_isForce_41 (by decide) ?_
      refine lv_goto (tgt := 46) hx hb dX2_isForce_42 (by decide) ?_
      exact hret _ _ _ dX2_isForce_46 (Or.inr (Or.inl rfl)) (Or.inl ⟨rfl, by omega⟩)
    · have c26_5 : ¬ ((((uX μ) (i + 1))).toInt < 0) := mt (tl_lt (x := ((uX μ) (i + 1))) (y := 0) (a := (((uX μ) (i + 1))).toInt) (b := 0) rfl rfl).mpr c26_5
      refine lv_lload_n hx hb dX2_isForce_30 rfl (lv_at hl 2 rfl) ?_
      refine lv_aload_n hx hb dX2_isForce_31 rfl (lv_at hl 0 rfl) ?_
      refine va_get (D := G.1) (ci := 3) (v := .ref (b 9)) (own := RX2) (C := RX2) (T := TX2) (N := 17) hx hb hts hiX2 hown hK.1 hP 0 rfl rfl 10 (by decide) lf36 (fun _ h9 => h9) rfl dX2_isForce_32 ?_
      refine lv_iload_n hx hb dX2_isForce_35 rfl (lv_at hl 1 rfl) ?_
      refine my_lald hx hb hK hP 9 rfl (i + 1) hx1 (by omega) dX2_isForce_36 ?_
      refine lc_ge (tgt := 45) hx hb dX2_isForce_37 dX2_isForce_38 (by decide) (fun c37_6 => ?_) (fun c37_6 => ?_)
      · have c37_6 : (((uX μ) (i + 1))).toInt ≤ (d).toInt := (tl_le (x := ((uX μ) (i + 1))) (y := d) (a := (((uX μ) (i + 1))).toInt) (b := (d).toInt) rfl rfl).mp c37_6
        refine lv_iconst (v := 0) hx hb dX2_isForce_45 (by decide) ?_
        exact hret _ _ _ dX2_isForce_46 (Or.inl rfl) (Or.inr ⟨rfl, by omega⟩)
      · have c37_6 : ¬ ((((uX μ) (i + 1))).toInt ≤ (d).toInt) := mt (tl_le (x := ((uX μ) (i + 1))) (y := d) (a := (((uX μ) (i + 1))).toInt) (b := (d).toInt) rfl rfl).mpr c37_6
        refine lv_iconst (v := 1) hx hb dX2_isForce_41 (by decide) ?_
        refine lv_goto (tgt := 46) hx hb dX2_isForce_42 (by decide) ?_
        exact hret _ _ _ dX2_isForce_46 (Or.inr (Or.inl rfl)) (Or.inl ⟨rfl, by omega⟩)

set_option maxHeartbeats 4000000 in
set_option maxRecDepth 100000 in
/-- set -/
theorem c_X2_set (l : Launch) (G : GG) (b : Nat → Nat) (μ : MP) (σ : St) (hI : SI σ) (hM : MI μ σ) (t : Int64) (hc : clk σ t) : WrI l yX2_set wsX2_set (rmX 1 60 0 0) G [.ref (b 0), .long t] (WM G b μ σ) (fun (r : Int32) (u : (Nat → Int64)) => r = nI (cntL σ t.toInt (sN σ)) ∧ MI (mX μ u) (mvS σ t)) (fun u : (Nat → Int64) => WM G b (mX μ u) (mvS σ t)) 0 0 := by
  refine wr_of_i (cc := cX2_set) (maxL := 5) (t := .int) (by decide +kernel) rfl (Nat.le_of_ble_eq_true rfl) nar_int ?_
  intro p e s m args below meth c Q A hx hb hml hown hts hK hZ hA hret ls hl hP hD hS
  have hown : s.vm.findClass RX2 = some m.cls := hown
  have hl : lv_has ls 5 [(0, .ref (b 0)), (1, .long t)] := hl
  have hP : va_P G.1 vwCl (MW G b 0 (nI (sN σ)) (uK μ) (uE μ) (uP μ) (uT μ) (uF μ) (uU μ) (uM μ) (uV μ) (uX μ) (sR σ) (sT σ) (uW μ) (nI (sG σ).length) (uG μ)) s.heap := hP
  have hD : va_D A (MW G b 0 (nI (sN σ)) (uK μ) (uE μ) (uP μ) (uT μ) (uF μ) (uU μ) (uM μ) (uV μ) (uX μ) (sR σ) (sT σ) (uW μ) (nI (sG σ).length) (uG μ)) := hD
  obtain ⟨hI1, hI2, hI3, hI4, hI5⟩ := id hI
  have hc2 := hc.2.1
  have hiX2 := (show ∀ w ∈ u_ws RX2 TX2 17, w ∈ wsX2_set by decide +kernel)
  have lf62 := hts (.fieldLink RX2 62 "OrderRows2Model" "now" "J") (by decide +kernel)
  have lf55 := hts (.fieldLink RX2 55 "OrderRows2Model" "orders" "I") (by decide +kernel)
  have lf32 := hts (.fieldLink RX2 32 "OrderRows2Model" "proved" "[Z") (by decide +kernel)
  have lf36 := hts (.fieldLink RX2 36 "OrderRows2Model" "overs" "[J") (by decide +kernel)
  have lf29 := hts (.fieldLink RX2 29 "OrderRows2Model" "made" "[J") (by decide +kernel)
  have kl76 := hts (.constantLong RX2 76 (14)) (by decide +kernel)
  have kl78 := hts (.constantLong RX2 78 (15)) (by decide +kernel)
  refine lv_aload_n hx hb dX2_set_0 rfl (lv_at hl 0 rfl) ?_
  refine lv_lload_n hx hb dX2_set_1 rfl (lv_at hl 1 rfl) ?_
  refine va_put (D := G.1) (ci := 3) (v := .long t) (ty := .long) (own := RX2) (C := RX2) (T := TX2) (N := 17) hx hb hts hiX2 tyX2 tyX2_ok nmX2 hown hK.1 hP hD hS 0 rfl rfl 12 (by decide) lf62 (fun _ h9 => h9) rfl (by decide +kernel) rfl rfl (Nat.le_of_ble_eq_true rfl) dX2_set_2 (fun H locs hP hD hS => ?_)
  have hP : va_P G.1 vwCl (MW G b 0 (nI (sN σ)) (uK μ) (uE μ) (uP μ) (uT μ) (uF μ) (uU μ) (uM μ) (uV μ) (uX μ) (sR σ) t (uW μ) (nI (sG σ).length) (uG μ)) H := hP
  have hD : va_D A (MW G b 0 (nI (sN σ)) (uK μ) (uE μ) (uP μ) (uT μ) (uF μ) (uU μ) (uM μ) (uV μ) (uX μ) (sR σ) t (uW μ) (nI (sG σ).length) (uG μ)) := hD
  refine lv_iconst (v := 0) hx hb dX2_set_5 (by decide) ?_
  refine lv_istore_n (lv' := [(3, .int 0), (0, .ref (b 0)), (1, .long t)]) hx hb dX2_set_6 rfl hl (by decide) rfl (fun ls hl => ?_)
  refine lv_iconst (v := 1) hx hb dX2_set_7 (by decide) ?_
  refine lv_istore (lv' := [(4, .int 1), (3, .int 0), (0, .ref (b 0)), (1, .long t)]) hx hb dX2_set_8 hl (by decide) rfl (fun ls hl => ?_)
  have loop10 : ∀ (fu : Nat) (i : Nat) (x4 x3 : Int32) (g : Nat → Int64), sN σ < i + fu → i ≤ sN σ → x4.toInt = ((i + 1 : Nat) : Int) → x3.toInt = ((cntL σ t.toInt i : Nat) : Int) → (∀ j, j < sN σ → XI (oX (mvO σ t.toInt i j)) (g (j + 1))) → ∀ (H : Heap) (locs : List Loc), va_P G.1 vwCl (MW G b 0 (nI (sN σ)) (uK μ) (uE μ) (uP μ) (uT μ) (uF μ) (uU μ) (uM μ) (uV μ) g (sR σ) t (uW μ) (nI (sG σ).length) (uG μ)) H → va_D A (MW G b 0 (nI (sN σ)) (uK μ) (uE μ) (uP μ) (uT μ) (uF μ) (uU μ) (uM μ) (uV μ) g (sR σ) t (uW μ) (nI (sG σ).length) (uG μ)) → va_S A s.heap H locs → ∀ ls : Array Slot, lv_has ls 5 [(4, .int x4), (3, .int x3), (0, .ref (b 0)), (1, .long t)] → W p l e (rmX 1 60 0 0) s m args below meth c H locs 0 0 Q (F0 m 10 ls []) := by
    intro fu
    induction fu with
    | zero =>
      intro i x4 x3 g hfu hin e4 e3 hg
      exact absurd hfu (by omega)
    | succ fu ih10 =>
      intro i x4 x3 g hfu hin e4 e3 hg H locs hP hD hS ls hl
      have hcl := cntL_le (σ := σ) (t := t.toInt) i
      refine lv_iload hx hb dX2_set_10 (lv_at hl 0 rfl) ?_
      refine lv_aload_n hx hb dX2_set_12 rfl (lv_at hl 2 rfl) ?_
      refine va_get (D := G.1) (ci := 3) (v := .int (nI (sN σ))) (own := RX2) (C := RX2) (T := TX2) (N := 17) hx hb hts hiX2 hown hK.1 hP 0 rfl rfl 1 (by decide) lf55 (fun _ h9 => h9) rfl dX2_set_13 ?_
      refine lv_icmp_gt (tgt := 84) hx hb dX2_set_16 (by decide) (fun c16_1 => ?_) (fun c16_1 => ?_)
      · have c16_1 : (((sN σ) : Nat) : Int) < (((i + 1) : Nat) : Int) := (ti_lt (x := (nI (sN σ))) (y := x4) (a := (((sN σ) : Nat) : Int)) (b := (((i + 1) : Nat) : Int)) (ti_nI (by omega)) e4).mp c16_1
        refine lv_iload_n hx hb dX2_set_84 rfl (lv_at hl 1 rfl) ?_
        obtain rfl : i = sN σ := by omega
        exact hret _ _ _ _ _ _ _ g dX2_set_85 (Or.inr (Or.inr rfl)) ⟨nI_ofI e3, MI_mv hM hg⟩ hP hD hS (Nat.le_refl _) (Nat.le_refl _)
      · have c16_1 : ¬ ((((sN σ) : Nat) : Int) < (((i + 1) : Nat) : Int)) := mt (ti_lt (x := (nI (sN σ))) (y := x4) (a := (((sN σ) : Nat) : Int)) (b := (((i + 1) : Nat) : Int)) (ti_nI (by omega)) e4).mpr c16_1
        have hi : i < sN σ := by omega
        have hgi := hg i hi
        rw [mvO_at] at hgi
        have hgj := XI_i hgi
        have hmo1 := hM.1 i hi
        have hxi1 : ((oX (sO σ i)).toInt = 20001 ∧ ((uX μ) (i + 1)).toInt = -1) ∨ ((oX (sO σ i)).toInt ≠ 20001 ∧ ((uX μ) (i + 1)).toInt = (oX (sO σ i)).toInt) := XI_i hmo1.2.2.2.2.2.2.2.2
        have hoi1 := hI4 i hi
        unfold OI at hoi1
        refine lv_aload_n hx hb dX2_set_19 rfl (lv_at hl 2 rfl) ?_
        refine va_get (D := G.1) (ci := 3) (v := .ref (b 8)) (own := RX2) (C := RX2) (T := TX2) (N := 17) hx hb hts hiX2 hown hK.1 hP 0 rfl rfl 9 (by decide) lf32 (fun _ h9 => h9) rfl dX2_set_20 ?_
        refine lv_iload hx hb dX2_set_23 (lv_at hl 0 rfl) ?_
        refine my_zald hx hb hK hP 8 rfl (i + 1) e4 (by omega) dX2_set_25 ?_
        refine lv_if_ne (tgt := 78) hx hb dX2_set_26 (by decide) (fun c26_2 => ?_) (fun c26_2 => ?_)
        · have c26_2 : ¬ ((oP (sO σ i)).toInt = 0) := mt (ti_eq (x := ((uV μ) (i + 1))) (y := 0) (a := (oP (sO σ i)).toInt) (b := 0) (congrArg Int32.toInt hmo1.2.2.2.2.2.2.2.1) rfl).mpr c26_2
          obtain ⟨x78_3, e78_3⟩ : ∃ y : Int32, y = x4 + 1 := ⟨_, rfl⟩
          have v78_3 : (x78_3).toInt = ((((i + 1) + 1) : Nat) : Int) := by rw [e78_3]; exact (ti_add (a := (((i + 1) : Nat) : Int)) (b := 1) e4 rfl (by omega) (by omega)).trans (by omega)
          refine lv_iinc (v := x78_3) (lv' := [(4, .int x78_3), (3, .int x3), (0, .ref (b 0)), (1, .long t)]) hx hb dX2_set_78 hl (k := 0) rfl (by rw [e78_3]; rfl) (by decide) rfl (fun ls hl => ?_)
          refine lv_goto (tgt := 10) hx hb dX2_set_81 (by decide) ?_
          have hcn := cntL_n (σ := σ) (t := t.toInt) (k := i) (by omega)
          have hg2 : ∀ j, j < sN σ → XI (oX (mvO σ t.toInt (i + 1) j)) (g (j + 1)) := fun j hj => by
            by_cases ej : j = i
            · subst ej
              rw [mvO_in, lap1_n (t := t.toInt) (o := sO σ j) (by omega)]
              exact hgi
            · rw [mvO_ne ej]; exact hg j hj
          exact ih10 (i + 1) x78_3 x3 g (by omega) (by omega) v78_3 (e3.trans (by omega)) hg2 _ _ hP hD hS ls (lv_sub hl [0, 1, 2, 3] rfl)
        · have c26_2 : (oP (sO σ i)).toInt = 0 := (ti_eq (x := ((uV μ) (i + 1))) (y := 0) (a := (oP (sO σ i)).toInt) (b := 0) (congrArg Int32.toInt hmo1.2.2.2.2.2.2.2.1) rfl).mp c26_2
          refine lv_aload_n hx hb dX2_set_29 rfl (lv_at hl 2 rfl) ?_
          refine va_get (D := G.1) (ci := 3) (v := .ref (b 9)) (own := RX2) (C := RX2) (T := TX2) (N := 17) hx hb hts hiX2 hown hK.1 hP 0 rfl rfl 10 (by decide) lf36 (fun _ h9 => h9) rfl dX2_set_30 ?_
          refine lv_iload hx hb dX2_set_33 (lv_at hl 0 rfl) ?_
          refine my_lald hx hb hK hP 9 rfl (i + 1) e4 (by omega) dX2_set_35 ?_
          refine lv_lconst (v := 0) hx hb dX2_set_36 rfl ?_
          refine lc_ge (tgt := 78) hx hb dX2_set_37 dX2_set_38 (by decide) (fun c37_4 => ?_) (fun c37_4 => ?_)
          · have c37_4 : 0 ≤ ((g (i + 1))).toInt := (tl_le (x := 0) (y := (g (i + 1))) (a := 0) (b := ((g (i + 1))).toInt) rfl rfl).mp c37_4
            obtain ⟨x78_5, e78_5⟩ : ∃ y : Int32, y = x4 + 1 := ⟨_, rfl⟩
            have v78_5 : (x78_5).toInt = ((((i + 1) + 1) : Nat) : Int) := by rw [e78_5]; exact (ti_add (a := (((i + 1) : Nat) : Int)) (b := 1) e4 rfl (by omega) (by omega)).trans (by omega)
            refine lv_iinc (v := x78_5) (lv' := [(4, .int x78_5), (3, .int x3), (0, .ref (b 0)), (1, .long t)]) hx hb dX2_set_78 hl (k := 0) rfl (by rw [e78_5]; rfl) (by decide) rfl (fun ls hl => ?_)
            refine lv_goto (tgt := 10) hx hb dX2_set_81 (by decide) ?_
            have hcn := cntL_n (σ := σ) (t := t.toInt) (k := i) (by omega)
            have hg2 : ∀ j, j < sN σ → XI (oX (mvO σ t.toInt (i + 1) j)) (g (j + 1)) := fun j hj => by
              by_cases ej : j = i
              · subst ej
                rw [mvO_in, lap1_n (t := t.toInt) (o := sO σ j) (by omega)]
                exact hgi
              · rw [mvO_ne ej]; exact hg j hj
            exact ih10 (i + 1) x78_5 x3 g (by omega) (by omega) v78_5 (e3.trans (by omega)) hg2 _ _ hP hD hS ls (lv_sub hl [0, 1, 2, 3] rfl)
          · have c37_4 : ¬ (0 ≤ ((g (i + 1))).toInt) := mt (tl_le (x := 0) (y := (g (i + 1))) (a := 0) (b := ((g (i + 1))).toInt) rfl rfl).mpr c37_4
            refine lv_lload_n hx hb dX2_set_41 rfl (lv_at hl 3 rfl) ?_
            refine lv_aload_n hx hb dX2_set_42 rfl (lv_at hl 2 rfl) ?_
            refine va_get (D := G.1) (ci := 3) (v := .ref (b 7)) (own := RX2) (C := RX2) (T := TX2) (N := 17) hx hb hts hiX2 hown hK.1 hP 0 rfl rfl 8 (by decide) lf29 (fun _ h9 => h9) rfl dX2_set_43 ?_
            refine lv_iload hx hb dX2_set_46 (lv_at hl 0 rfl) ?_
            refine my_lald hx hb hK hP 7 rfl (i + 1) e4 (by omega) dX2_set_48 ?_
            refine lv_lsub hx hb dX2_set_49 ?_
            refine lv_topl (fun y49_6 e49_6 => ?_)
            have v49_6 : (y49_6).toInt = ((t).toInt - (oM (sO σ i)).toInt) := by rw [e49_6]; exact tl_sub (a := (t).toInt) (b := (oM (sO σ i)).toInt) rfl (congrArg Int64.toInt hmo1.2.2.2.2.2.2.1) (by omega) (by omega)
            refine lv_ldc2 (v := 14) hx hb hown kl76 dX2_set_50 ?_
            refine lc_le (tgt := 78) hx hb dX2_set_53 dX2_set_54 (by decide) (fun c53_7 => ?_) (fun c53_7 => ?_)
            · have c53_7 : ((t).toInt - (oM (sO σ i)).toInt) ≤ 14 := (tl_le (x := y49_6) (y := 14) (a := ((t).toInt - (oM (sO σ i)).toInt)) (b := 14) v49_6 rfl).mp c53_7
              obtain ⟨x78_8, e78_8⟩ : ∃ y : Int32, y = x4 + 1 := ⟨_, rfl⟩
              have v78_8 : (x78_8).toInt = ((((i + 1) + 1) : Nat) : Int) := by rw [e78_8]; exact (ti_add (a := (((i + 1) : Nat) : Int)) (b := 1) e4 rfl (by omega) (by omega)).trans (by omega)
              refine lv_iinc (v := x78_8) (lv' := [(4, .int x78_8), (3, .int x3), (0, .ref (b 0)), (1, .long t)]) hx hb dX2_set_78 hl (k := 0) rfl (by rw [e78_8]; rfl) (by decide) rfl (fun ls hl => ?_)
              refine lv_goto (tgt := 10) hx hb dX2_set_81 (by decide) ?_
              have hcn := cntL_n (σ := σ) (t := t.toInt) (k := i) (by omega)
              have hg2 : ∀ j, j < sN σ → XI (oX (mvO σ t.toInt (i + 1) j)) (g (j + 1)) := fun j hj => by
                by_cases ej : j = i
                · subst ej
                  rw [mvO_in, lap1_n (t := t.toInt) (o := sO σ j) (by omega)]
                  exact hgi
                · rw [mvO_ne ej]; exact hg j hj
              exact ih10 (i + 1) x78_8 x3 g (by omega) (by omega) v78_8 (e3.trans (by omega)) hg2 _ _ hP hD hS ls (lv_sub hl [0, 1, 2, 3] rfl)
            · have c53_7 : ¬ (((t).toInt - (oM (sO σ i)).toInt) ≤ 14) := mt (tl_le (x := y49_6) (y := 14) (a := ((t).toInt - (oM (sO σ i)).toInt)) (b := 14) v49_6 rfl).mpr c53_7
              refine lv_aload_n hx hb dX2_set_57 rfl (lv_at hl 2 rfl) ?_
              refine va_get (D := G.1) (ci := 3) (v := .ref (b 9)) (own := RX2) (C := RX2) (T := TX2) (N := 17) hx hb hts hiX2 hown hK.1 hP 0 rfl rfl 10 (by decide) lf36 (fun _ h9 => h9) rfl dX2_set_58 ?_
              refine lv_iload hx hb dX2_set_61 (lv_at hl 0 rfl) ?_
              refine lv_aload_n hx hb dX2_set_63 rfl (lv_at hl 2 rfl) ?_
              refine va_get (D := G.1) (ci := 3) (v := .ref (b 7)) (own := RX2) (C := RX2) (T := TX2) (N := 17) hx hb hts hiX2 hown hK.1 hP 0 rfl rfl 8 (by decide) lf29 (fun _ h9 => h9) rfl dX2_set_64 ?_
              refine lv_iload hx hb dX2_set_67 (lv_at hl 0 rfl) ?_
              refine my_lald hx hb hK hP 7 rfl (i + 1) e4 (by omega) dX2_set_69 ?_
              refine lv_ldc2 (v := 15) hx hb hown kl78 dX2_set_70 ?_
              refine lv_ladd hx hb dX2_set_73 ?_
              refine lv_topl (fun y73_9 e73_9 => ?_)
              have v73_9 : (y73_9).toInt = ((oM (sO σ i)).toInt + 15) := by rw [e73_9]; exact tl_add (a := (oM (sO σ i)).toInt) (b := 15) (congrArg Int64.toInt hmo1.2.2.2.2.2.2.1) rfl (by omega) (by omega)
              have e15a : (oM (sO σ i) + 15 : Int64).toInt = (oM (sO σ i)).toInt + 15 := tl_add rfl rfl (by omega) (by omega)
              have e15 : y73_9 = oM (sO σ i) + 15 := tl_inj (by rw [v73_9, e15a])
              have v15 := v73_9
              refine my_last hx hb hK hP hD hS 9 rfl (x := y73_9) (i + 1) e4 (by omega) dX2_set_74 (fun H locs hP hD hS => ?_)
              have hP : va_P G.1 vwCl (MW G b 0 (nI (sN σ)) (uK μ) (uE μ) (uP μ) (uT μ) (uF μ) (uU μ) (uM μ) (uV μ) (vp_updL g (i + 1) y73_9) (sR σ) t (uW μ) (nI (sG σ).length) (uG μ)) H := hP
              have hD : va_D A (MW G b 0 (nI (sN σ)) (uK μ) (uE μ) (uP μ) (uT μ) (uF μ) (uU μ) (uM μ) (uV μ) (vp_updL g (i + 1) y73_9) (sR σ) t (uW μ) (nI (sG σ).length) (uG μ)) := hD
              obtain ⟨x75_10, e75_10⟩ : ∃ y : Int32, y = x3 + 1 := ⟨_, rfl⟩
              have v75_10 : (x75_10).toInt = ((((cntL σ t.toInt i) + 1) : Nat) : Int) := by rw [e75_10]; exact (ti_add (a := (((cntL σ t.toInt i) : Nat) : Int)) (b := 1) e3 rfl (by omega) (by omega)).trans (by omega)
              refine lv_iinc (v := x75_10) (lv' := [(3, .int x75_10), (4, .int x4), (0, .ref (b 0)), (1, .long t)]) hx hb dX2_set_75 hl (k := 1) rfl (by rw [e75_10]; rfl) (by decide) rfl (fun ls hl => ?_)
              obtain ⟨x78_11, e78_11⟩ : ∃ y : Int32, y = x4 + 1 := ⟨_, rfl⟩
              have v78_11 : (x78_11).toInt = ((((i + 1) + 1) : Nat) : Int) := by rw [e78_11]; exact (ti_add (a := (((i + 1) : Nat) : Int)) (b := 1) e4 rfl (by omega) (by omega)).trans (by omega)
              refine lv_iinc (v := x78_11) (lv' := [(4, .int x78_11), (3, .int x75_10), (0, .ref (b 0)), (1, .long t)]) hx hb dX2_set_78 hl (k := 1) rfl (by rw [e78_11]; rfl) (by decide) rfl (fun ls hl => ?_)
              refine lv_goto (tgt := 10) hx hb dX2_set_81 (by decide) ?_
              have hcn := cntL_y (σ := σ) (t := t.toInt) (k := i) (by omega)
              have hg2 : ∀ j, j < sN σ → XI (oX (mvO σ t.toInt (i + 1) j)) ((vp_updL g (i + 1) y73_9) (j + 1)) := fun j hj => by
                by_cases ej : j = i
                · subst ej
                  rw [mvO_in, lap1_y (t := t.toInt) (o := sO σ j) (by omega) e15, pk_uLs]
                  exact Or.inr ⟨by show (y73_9).toInt ≠ 20001; omega, rfl⟩
                · rw [mvO_ne ej, pk_uLn (by omega)]; exact hg j hj
              exact ih10 (i + 1) x78_11 x75_10 (vp_updL g (i + 1) y73_9) (by omega) (by omega) v78_11 (v75_10.trans (by omega)) hg2 _ _ hP hD hS ls (lv_sub hl [0, 1, 2, 3] rfl)
  exact loop10 (sN σ + 1) 0 1 0 (uX μ) (by omega) (Nat.zero_le _) rfl rfl (fun j hj => by rw [mvO_0]; exact (hM.1 j hj).2.2.2.2.2.2.2.2) _ _ hP hD hS ls (lv_sub hl [0, 1, 2, 3] rfl)

set_option maxHeartbeats 4000000 in
set_option maxRecDepth 100000 in
/-- tick -/
theorem c_X2_tick (l : Launch) (G : GG) (b : Nat → Nat) (μ : MP) (σ : St) (hI : SI σ) (hM : MI μ σ) (t : Int64) : WrI l yX2_tick wsX2_tick (rmX 2 90 0 0) G [.ref (b 0), .long t] (WM G b μ σ) (fun (r : Int32) (u : MP) => r = (fTick σ t).1 ∧ MI u (fTick σ t).2) (fun u : MP => WM G b u (fTick σ t).2) 0 0 := by
  refine wr_of_i (cc := cX2_tick) (maxL := 3) (t := .int) (by decide +kernel) rfl (Nat.le_of_ble_eq_true rfl) nar_int ?_
  intro p e s m args below meth c Q A hx hb hml hown hts hK hZ hA hret ls hl hP hD hS
  have hown : s.vm.findClass RX2 = some m.cls := hown
  have hl : lv_has ls 3 [(0, .ref (b 0)), (1, .long t)] := hl
  have hP : va_P G.1 vwCl (MW G b 0 (nI (sN σ)) (uK μ) (uE μ) (uP μ) (uT μ) (uF μ) (uU μ) (uM μ) (uV μ) (uX μ) (sR σ) (sT σ) (uW μ) (nI (sG σ).length) (uG μ)) s.heap := hP
  have hD : va_D A (MW G b 0 (nI (sN σ)) (uK μ) (uE μ) (uP μ) (uT μ) (uF μ) (uU μ) (uM μ) (uV μ) (uX μ) (sR σ) (sT σ) (uW μ) (nI (sG σ).length) (uG μ)) := hD
  obtain ⟨hI1, hI2, hI3, hI4, hI5⟩ := id hI
  have hiX2 := (show ∀ w ∈ u_ws RX2 TX2 17, w ∈ wsX2_tick by decide +kernel)
  have lf52 := hts (.fieldLink RX2 52 "OrderRows2Model" "thrown" "I") (by decide +kernel)
  have cw84 := cwV (R := (rmX 2 90 0 0)) (s := s) (args := args) (rm := (rmX 1 60 0 0)) (mc := 0) (ms := 0) 1 hts gX2_tick_X2_isDay rfl rfl rfl (by decide +kernel) ⟨Nat.le_of_ble_eq_true rfl, Nat.le_of_ble_eq_true rfl⟩
  have cw88 := cwV (R := (rmX 2 90 0 0)) (s := s) (args := args) (rm := (rmX 1 60 0 0)) (mc := 0) (ms := 0) 1 hts gX2_tick_X2_set rfl rfl rfl (by decide +kernel) ⟨Nat.le_of_ble_eq_true rfl, Nat.le_of_ble_eq_true rfl⟩
  refine lv_aload_n hx hb dX2_tick_0 rfl (lv_at hl 0 rfl) ?_
  refine lv_iconst (v := 0) hx hb dX2_tick_1 (by decide) ?_
  refine va_put (D := G.1) (ci := 3) (v := .int 0) (ty := .int) (own := RX2) (C := RX2) (T := TX2) (N := 17) hx hb hts hiX2 tyX2 tyX2_ok nmX2 hown hK.1 hP hD hS 0 rfl rfl 0 (by decide) lf52 (fun _ h9 => h9) rfl (by decide +kernel) rfl rfl (Nat.le_of_ble_eq_true rfl) dX2_tick_2 (fun H locs hP hD hS => ?_)
  have hP : va_P G.1 vwCl (MW G b 0 (nI (sN σ)) (uK μ) (uE μ) (uP μ) (uT μ) (uF μ) (uU μ) (uM μ) (uV μ) (uX μ) (sR σ) (sT σ) (uW μ) (nI (sG σ).length) (uG μ)) H := hP
  have hD : va_D A (MW G b 0 (nI (sN σ)) (uK μ) (uE μ) (uP μ) (uT μ) (uF μ) (uU μ) (uM μ) (uV μ) (uX μ) (sR σ) (sT σ) (uW μ) (nI (sG σ).length) (uG μ)) := hD
  refine lv_aload_n hx hb dX2_tick_5 rfl (lv_at hl 0 rfl) ?_
  refine lv_lload_n hx hb dX2_tick_6 rfl (lv_at hl 1 rfl) ?_
  refine rdV_i (b := b 0) (As := [.long t]) (rest := []) ⟨hx, hb, hml, hown, hts⟩ (c_X2_isDay l G b μ σ hI hM t) cw84 hK hP 3 rfl rfl rfl rfl hl.1 rfl (Nat.le_of_ble_eq_true rfl) dX2_tick_7 ⟨Nat.zero_le _, Nat.zero_le _⟩ (fun r7_1 w7_1 => ?_)
  have w7_1 : ((r7_1.toInt = 1 ∧ ((sT σ).toInt ≤ t.toInt ∧ t.toInt ≤ 20000)) ∨ (r7_1.toInt = 0 ∧ ¬ ((sT σ).toInt ≤ t.toInt ∧ t.toInt ≤ 20000))) := w7_1
  refine lv_if_eq (tgt := 21) hx hb dX2_tick_10 (by decide) (fun c10_2 => ?_) (fun c10_2 => ?_)
  · have c10_2 : (r7_1).toInt = 0 := (ti_eq (x := r7_1) (y := 0) (a := (r7_1).toInt) (b := 0) rfl rfl).mp c10_2
    refine lv_bipush (v := (-102)) hx hb dX2_tick_21 (by decide) ?_
    have hF : fTick σ t = ((-102), σ) := if_pos (by show ¬ (0 ≤ t.toInt ∧ t.toInt ≤ 20000 ∧ (sT σ).toInt ≤ t.toInt); omega)
    exact hret _ _ _ _ _ _ _ μ dX2_tick_23 (Or.inr (Or.inr rfl)) (by rw [hF]; exact ⟨rfl, hM⟩) (by rw [hF]; exact hP) (by rw [hF]; exact hD) hS (Nat.le_refl _) (Nat.le_refl _)
  · have c10_2 : ¬ ((r7_1).toInt = 0) := mt (ti_eq (x := r7_1) (y := 0) (a := (r7_1).toInt) (b := 0) rfl rfl).mpr c10_2
    refine lv_aload_n hx hb dX2_tick_13 rfl (lv_at hl 0 rfl) ?_
    refine lv_lload_n hx hb dX2_tick_14 rfl (lv_at hl 1 rfl) ?_
    have hck : clk σ t := by show 0 ≤ t.toInt ∧ t.toInt ≤ 20000 ∧ (sT σ).toInt ≤ t.toInt; omega
    refine wrV_i (wr := []) (b := b 0) (As := [.long t]) (rest := []) ⟨hx, hb, hml, hown, hts⟩ (c_X2_set l G b μ σ hI hM t hck) cw88 hK hZ hP hD hS hA 3 rfl rfl rfl rfl hl.1 rfl (Nat.le_of_ble_eq_true rfl) dX2_tick_15 ⟨Nat.zero_le _, Nat.zero_le _⟩ (fun r3 g H locs w3 hP hD hS => ?_)
    obtain ⟨w3, hM1⟩ := w3
    have hP : va_P G.1 vwCl (MW G b 0 (nI (sN σ)) (uK μ) (uE μ) (uP μ) (uT μ) (uF μ) (uU μ) (uM μ) (uV μ) g (sR σ) t (uW μ) (nI (sG σ).length) (uG μ)) H := hP
    have hD : va_D A (MW G b 0 (nI (sN σ)) (uK μ) (uE μ) (uP μ) (uT μ) (uF μ) (uU μ) (uM μ) (uV μ) g (sR σ) t (uW μ) (nI (sG σ).length) (uG μ)) := hD
    refine lv_goto (tgt := 23) hx hb dX2_tick_18 (by decide) ?_
    rw [w3]
    have hF : fTick σ t = (nI (cntL σ t.toInt (sN σ)), mvS σ t) := if_neg (fun h9 => h9 hck)
    exact hret _ _ _ _ _ _ _ (mX μ g) dX2_tick_23 (Or.inr (Or.inr rfl)) (by rw [hF]; exact ⟨rfl, hM1⟩) (by rw [hF]; exact hP) (by rw [hF]; exact hD) hS (Nat.le_refl _) (Nat.le_refl _)

set_option maxHeartbeats 4000000 in
set_option maxRecDepth 100000 in
/-- rank -/
theorem c_X2_rank (l : Launch) (G : GG) (b : Nat → Nat) (μ : MP) (σ : St) (hI : SI σ) (hM : MI μ σ) (k q : Int32) : WrI l yX2_rank wsX2_rank (rmX 1 60 0 0) G [.ref (b 0), .int k, .int q] (WM G b μ σ) (fun (r : Int32) (u : MP) => r = (fRank σ k q).1 ∧ MI u (fRank σ k q).2) (fun u : MP => WM G b u (fRank σ k q).2) 0 0 := by
  refine wr_of_i (cc := cX2_rank) (maxL := 4) (t := .int) (by decide +kernel) rfl (Nat.le_of_ble_eq_true rfl) nar_int ?_
  intro p e s m args below meth c Q A hx hb hml hown hts hK hZ hA hret ls hl hP hD hS
  have hown : s.vm.findClass RX2 = some m.cls := hown
  have hl : lv_has ls 4 [(0, .ref (b 0)), (1, .int k), (2, .int q)] := hl
  have hP : va_P G.1 vwCl (MW G b 0 (nI (sN σ)) (uK μ) (uE μ) (uP μ) (uT μ) (uF μ) (uU μ) (uM μ) (uV μ) (uX μ) (sR σ) (sT σ) (uW μ) (nI (sG σ).length) (uG μ)) s.heap := hP
  have hD : va_D A (MW G b 0 (nI (sN σ)) (uK μ) (uE μ) (uP μ) (uT μ) (uF μ) (uU μ) (uM μ) (uV μ) (uX μ) (sR σ) (sT σ) (uW μ) (nI (sG σ).length) (uG μ)) := hD
  obtain ⟨hI1, hI2, hI3, hI4, hI5⟩ := id hI
  have hiX2 := (show ∀ w ∈ u_ws RX2 TX2 17, w ∈ wsX2_rank by decide +kernel)
  have lf52 := hts (.fieldLink RX2 52 "OrderRows2Model" "thrown" "I") (by decide +kernel)
  have kl74 := hts (.constantLong RX2 74 (8)) (by decide +kernel)
  have cw58 := va_cwS (R := (rmX 1 60 0 0)) (s := s) (args := args) (rm := (rmX 0 0 0 0)) (mc := 0) (ms := 0) 3 hts gX2_rank_X2_isIn rfl rfl rfl (by decide +kernel) ⟨Nat.le_of_ble_eq_true rfl, Nat.le_of_ble_eq_true rfl⟩
  have kl102 := hts (.constantLong RX2 102 (100)) (by decide +kernel)
  have lf39 := hts (.fieldLink RX2 39 "OrderRows2Model" "ranks" "[I") (by decide +kernel)
  refine lv_aload_n hx hb dX2_rank_0 rfl (lv_at hl 0 rfl) ?_
  refine lv_iconst (v := 0) hx hb dX2_rank_1 (by decide) ?_
  refine va_put (D := G.1) (ci := 3) (v := .int 0) (ty := .int) (own := RX2) (C := RX2) (T := TX2) (N := 17) hx hb hts hiX2 tyX2 tyX2_ok nmX2 hown hK.1 hP hD hS 0 rfl rfl 0 (by decide) lf52 (fun _ h9 => h9) rfl (by decide +kernel) rfl rfl (Nat.le_of_ble_eq_true rfl) dX2_rank_2 (fun H locs hP hD hS => ?_)
  have hP : va_P G.1 vwCl (MW G b 0 (nI (sN σ)) (uK μ) (uE μ) (uP μ) (uT μ) (uF μ) (uU μ) (uM μ) (uV μ) (uX μ) (sR σ) (sT σ) (uW μ) (nI (sG σ).length) (uG μ)) H := hP
  have hD : va_D A (MW G b 0 (nI (sN σ)) (uK μ) (uE μ) (uP μ) (uT μ) (uF μ) (uU μ) (uM μ) (uV μ) (uX μ) (sR σ) (sT σ) (uW μ) (nI (sG σ).length) (uG μ)) := hD
  refine lv_iload_n hx hb dX2_rank_5 rfl (lv_at hl 1 rfl) ?_
  refine lv_i2l hx hb dX2_rank_6 rfl ?_
  refine lv_lconst (v := 0) hx hb dX2_rank_7 rfl ?_
  refine lv_ldc2 (v := 8) hx hb hown kl74 dX2_rank_8 ?_
  refine rdS_i (As := [.long ((k).toInt64), .long 0, .long 8]) (rest := []) ⟨hx, hb, hml, hown, hts⟩ (c_X2_isIn l G ((k).toInt64 : Int64) (0 : Int64) (8 : Int64)) cw58 hK va_P.nil rfl hl.1 rfl (Nat.le_of_ble_eq_true rfl) dX2_rank_11 ⟨Nat.zero_le _, Nat.zero_le _⟩ (fun r11_1 w11_1 => ?_)
  have w11_1 : ((r11_1.toInt = 1 ∧ (((0 : Int64)).toInt ≤ (((k).toInt64 : Int64)).toInt ∧ (((k).toInt64 : Int64)).toInt ≤ ((8 : Int64)).toInt)) ∨ (r11_1.toInt = 0 ∧ ¬ (((0 : Int64)).toInt ≤ (((k).toInt64 : Int64)).toInt ∧ (((k).toInt64 : Int64)).toInt ≤ ((8 : Int64)).toInt))) := w11_1
  have va2 : (((k).toInt64 : Int64)).toInt = (k).toInt := (tl_i2l rfl)
  have va3 : ((0 : Int64)).toInt = 0 := rfl
  have va4 : ((8 : Int64)).toInt = 8 := rfl
  refine lv_if_eq (tgt := 29) hx hb dX2_rank_14 (by decide) (fun c14_5 => ?_) (fun c14_5 => ?_)
  · have c14_5 : (r11_1).toInt = 0 := (ti_eq (x := r11_1) (y := 0) (a := (r11_1).toInt) (b := 0) rfl rfl).mp c14_5
    refine lv_bipush (v := (-102)) hx hb dX2_rank_29 (by decide) ?_
    have hF : fRank σ k q = ((-102), σ) := if_pos (by omega)
    exact hret _ _ _ _ _ _ _ μ dX2_rank_31 (Or.inr (Or.inr rfl)) (by rw [hF]; exact ⟨rfl, hM⟩) (by rw [hF]; exact hP) (by rw [hF]; exact hD) hS (Nat.le_refl _) (Nat.le_refl _)
  · have c14_5 : ¬ ((r11_1).toInt = 0) := mt (ti_eq (x := r11_1) (y := 0) (a := (r11_1).toInt) (b := 0) rfl rfl).mpr c14_5
    refine lv_iload_n hx hb dX2_rank_17 rfl (lv_at hl 2 rfl) ?_
    refine lv_i2l hx hb dX2_rank_18 rfl ?_
    refine lv_lconst (v := 0) hx hb dX2_rank_19 rfl ?_
    refine lv_ldc2 (v := 100) hx hb hown kl102 dX2_rank_20 ?_
    refine rdS_i (As := [.long ((q).toInt64), .long 0, .long 100]) (rest := []) ⟨hx, hb, hml, hown, hts⟩ (c_X2_isIn l G ((q).toInt64 : Int64) (0 : Int64) (100 : Int64)) cw58 hK va_P.nil rfl hl.1 rfl (Nat.le_of_ble_eq_true rfl) dX2_rank_23 ⟨Nat.zero_le _, Nat.zero_le _⟩ (fun r23_6 w23_6 => ?_)
    have w23_6 : ((r23_6.toInt = 1 ∧ (((0 : Int64)).toInt ≤ (((q).toInt64 : Int64)).toInt ∧ (((q).toInt64 : Int64)).toInt ≤ ((100 : Int64)).toInt)) ∨ (r23_6.toInt = 0 ∧ ¬ (((0 : Int64)).toInt ≤ (((q).toInt64 : Int64)).toInt ∧ (((q).toInt64 : Int64)).toInt ≤ ((100 : Int64)).toInt))) := w23_6
    have va7 : (((q).toInt64 : Int64)).toInt = (q).toInt := (tl_i2l rfl)
    have va8 : ((0 : Int64)).toInt = 0 := rfl
    have va9 : ((100 : Int64)).toInt = 100 := rfl
    refine lv_if_ne (tgt := 32) hx hb dX2_rank_26 (by decide) (fun c26_10 => ?_) (fun c26_10 => ?_)
    · have c26_10 : ¬ ((r23_6).toInt = 0) := mt (ti_eq (x := r23_6) (y := 0) (a := (r23_6).toInt) (b := 0) rfl rfl).mpr c26_10
      refine lv_aload_n hx hb dX2_rank_32 rfl (lv_at hl 0 rfl) ?_
      refine va_get (D := G.1) (ci := 3) (v := .ref (b 10)) (own := RX2) (C := RX2) (T := TX2) (N := 17) hx hb hts hiX2 hown hK.1 hP 0 rfl rfl 11 (by decide) lf39 (fun _ h9 => h9) rfl dX2_rank_33 ?_
      refine lv_iload_n hx hb dX2_rank_36 rfl (lv_at hl 1 rfl) ?_
      refine my_iald hx hb hK hP 10 rfl ((k).toInt.toNat) (show (k).toInt = (((k).toInt.toNat : Nat) : Int) by omega) (by omega) dX2_rank_37 ?_
      refine lv_istore_n (lv' := [(3, .int ((sR σ) ((k).toInt.toNat))), (0, .ref (b 0)), (1, .int k), (2, .int q)]) hx hb dX2_rank_38 rfl hl (by decide) rfl (fun ls hl => ?_)
      refine lv_aload_n hx hb dX2_rank_39 rfl (lv_at hl 1 rfl) ?_
      refine va_get (D := G.1) (ci := 3) (v := .ref (b 10)) (own := RX2) (C := RX2) (T := TX2) (N := 17) hx hb hts hiX2 hown hK.1 hP 0 rfl rfl 11 (by decide) lf39 (fun _ h9 => h9) rfl dX2_rank_40 ?_
      refine lv_iload_n hx hb dX2_rank_43 rfl (lv_at hl 2 rfl) ?_
      refine lv_iload_n hx hb dX2_rank_44 rfl (lv_at hl 3 rfl) ?_
      refine my_iast hx hb hK hP hD hS 10 rfl (x := q) ((k).toInt.toNat) (show (k).toInt = (((k).toInt.toNat : Nat) : Int) by omega) (by omega) dX2_rank_45 (fun H locs hP hD hS => ?_)
      have hP : va_P G.1 vwCl (MW G b 0 (nI (sN σ)) (uK μ) (uE μ) (uP μ) (uT μ) (uF μ) (uU μ) (uM μ) (uV μ) (uX μ) (upd (sR σ) ((k).toInt.toNat) q) (sT σ) (uW μ) (nI (sG σ).length) (uG μ)) H := hP
      have hD : va_D A (MW G b 0 (nI (sN σ)) (uK μ) (uE μ) (uP μ) (uT μ) (uF μ) (uU μ) (uM μ) (uV μ) (uX μ) (upd (sR σ) ((k).toInt.toNat) q) (sT σ) (uW μ) (nI (sG σ).length) (uG μ)) := hD
      refine lv_iload_n hx hb dX2_rank_46 rfl (lv_at hl 0 rfl) ?_
      have hF : fRank σ k q = (((sR σ) ((k).toInt.toNat)), (sN σ, sO σ, sT σ, upd (sR σ) (k).toInt.toNat q, sG σ)) := if_neg (by omega)
      exact hret _ _ _ _ _ _ _ μ dX2_rank_47 (Or.inr (Or.inr rfl)) (by rw [hF]; exact ⟨rfl, hM⟩) (by rw [hF]; exact hP) (by rw [hF]; exact hD) hS (Nat.le_refl _) (Nat.le_refl _)
    · have c26_10 : (r23_6).toInt = 0 := (ti_eq (x := r23_6) (y := 0) (a := (r23_6).toInt) (b := 0) rfl rfl).mp c26_10
      refine lv_bipush (v := (-102)) hx hb dX2_rank_29 (by decide) ?_
      have hF : fRank σ k q = ((-102), σ) := if_pos (by omega)
      exact hret _ _ _ _ _ _ _ μ dX2_rank_31 (Or.inr (Or.inr rfl)) (by rw [hF]; exact ⟨rfl, hM⟩) (by rw [hF]; exact hP) (by rw [hF]; exact hD) hS (Nat.le_refl _) (Nat.le_refl _)

set_option maxHeartbeats 4000000 in
set_option maxRecDepth 100000 in
/-- ring -/
theorem c_X2_ring (l : Launch) (G : GG) (b : Nat → Nat) (μ : MP) (σ : St) (hI : SI σ) (hM : MI μ σ) (i : Int32) : WrI l yX2_ring wsX2_ring (rmX 0 0 0 0) G [.ref (b 0), .int i] (WM G b μ σ) (fun (r : Int32) (u : Unit) => r = fRing σ i) (fun u : Unit => (WM G b μ σ)) 0 0 := by
  refine wr_of_i (cc := cX2_ring) (maxL := 2) (t := .int) (by decide +kernel) rfl (Nat.le_of_ble_eq_true rfl) nar_int ?_
  intro p e s m args below meth c Q A hx hb hml hown hts hK hZ hA hret ls hl hP hD hS
  have hown : s.vm.findClass RX2 = some m.cls := hown
  have hl : lv_has ls 2 [(0, .ref (b 0)), (1, .int i)] := hl
  have hP : va_P G.1 vwCl (MW G b 0 (nI (sN σ)) (uK μ) (uE μ) (uP μ) (uT μ) (uF μ) (uU μ) (uM μ) (uV μ) (uX μ) (sR σ) (sT σ) (uW μ) (nI (sG σ).length) (uG μ)) s.heap := hP
  have hD : va_D A (MW G b 0 (nI (sN σ)) (uK μ) (uE μ) (uP μ) (uT μ) (uF μ) (uU μ) (uM μ) (uV μ) (uX μ) (sR σ) (sT σ) (uW μ) (nI (sG σ).length) (uG μ)) := hD
  obtain ⟨hI1, hI2, hI3, hI4, hI5⟩ := id hI
  have hiX2 := (show ∀ w ∈ u_ws RX2 TX2 17, w ∈ wsX2_ring by decide +kernel)
  have lf52 := hts (.fieldLink RX2 52 "OrderRows2Model" "thrown" "I") (by decide +kernel)
  have lf48 := hts (.fieldLink RX2 48 "OrderRows2Model" "ringSize" "I") (by decide +kernel)
  have lf45 := hts (.fieldLink RX2 45 "OrderRows2Model" "ring" "[I") (by decide +kernel)
  refine lv_aload_n hx hb dX2_ring_0 rfl (lv_at hl 0 rfl) ?_
  refine lv_iconst (v := 0) hx hb dX2_ring_1 (by decide) ?_
  refine va_put (D := G.1) (ci := 3) (v := .int 0) (ty := .int) (own := RX2) (C := RX2) (T := TX2) (N := 17) hx hb hts hiX2 tyX2 tyX2_ok nmX2 hown hK.1 hP hD hS 0 rfl rfl 0 (by decide) lf52 (fun _ h9 => h9) rfl (by decide +kernel) rfl rfl (Nat.le_of_ble_eq_true rfl) dX2_ring_2 (fun H locs hP hD hS => ?_)
  have hP : va_P G.1 vwCl (MW G b 0 (nI (sN σ)) (uK μ) (uE μ) (uP μ) (uT μ) (uF μ) (uU μ) (uM μ) (uV μ) (uX μ) (sR σ) (sT σ) (uW μ) (nI (sG σ).length) (uG μ)) H := hP
  have hD : va_D A (MW G b 0 (nI (sN σ)) (uK μ) (uE μ) (uP μ) (uT μ) (uF μ) (uU μ) (uM μ) (uV μ) (uX μ) (sR σ) (sT σ) (uW μ) (nI (sG σ).length) (uG μ)) := hD
  refine lv_iload_n hx hb dX2_ring_5 rfl (lv_at hl 1 rfl) ?_
  refine lv_if_lt (tgt := 26) hx hb dX2_ring_6 (by decide) (fun c6_1 => ?_) (fun c6_1 => ?_)
  · have c6_1 : (i).toInt < 0 := (ti_lt (x := i) (y := 0) (a := (i).toInt) (b := 0) rfl rfl).mp c6_1
    refine lv_iconst (v := 0) hx hb dX2_ring_26 (by decide) ?_
    exact hret _ _ _ _ _ _ _ () dX2_ring_27 (Or.inr (Or.inr rfl)) (if_neg (by omega)).symm hP hD hS (Nat.le_refl _) (Nat.le_refl _)
  · have c6_1 : ¬ ((i).toInt < 0) := mt (ti_lt (x := i) (y := 0) (a := (i).toInt) (b := 0) rfl rfl).mpr c6_1
    refine lv_iload_n hx hb dX2_ring_9 rfl (lv_at hl 1 rfl) ?_
    refine lv_aload_n hx hb dX2_ring_10 rfl (lv_at hl 0 rfl) ?_
    refine va_get (D := G.1) (ci := 3) (v := .int (nI (sG σ).length)) (own := RX2) (C := RX2) (T := TX2) (N := 17) hx hb hts hiX2 hown hK.1 hP 0 rfl rfl 15 (by decide) lf48 (fun _ h9 => h9) rfl dX2_ring_11 ?_
    refine lv_icmp_ge (tgt := 26) hx hb dX2_ring_14 (by decide) (fun c14_2 => ?_) (fun c14_2 => ?_)
    · have c14_2 : (((sG σ).length : Nat) : Int) ≤ (i).toInt := (ti_le (x := (nI (sG σ).length)) (y := i) (a := (((sG σ).length : Nat) : Int)) (b := (i).toInt) (ti_nI (by omega)) rfl).mp c14_2
      refine lv_iconst (v := 0) hx hb dX2_ring_26 (by decide) ?_
      exact hret _ _ _ _ _ _ _ () dX2_ring_27 (Or.inr (Or.inr rfl)) (if_neg (by omega)).symm hP hD hS (Nat.le_refl _) (Nat.le_refl _)
    · have c14_2 : ¬ ((((sG σ).length : Nat) : Int) ≤ (i).toInt) := mt (ti_le (x := (nI (sG σ).length)) (y := i) (a := (((sG σ).length : Nat) : Int)) (b := (i).toInt) (ti_nI (by omega)) rfl).mpr c14_2
      refine lv_aload_n hx hb dX2_ring_17 rfl (lv_at hl 0 rfl) ?_
      refine va_get (D := G.1) (ci := 3) (v := .ref (b 12)) (own := RX2) (C := RX2) (T := TX2) (N := 17) hx hb hts hiX2 hown hK.1 hP 0 rfl rfl 16 (by decide) lf45 (fun _ h9 => h9) rfl dX2_ring_18 ?_
      refine lv_iload_n hx hb dX2_ring_21 rfl (lv_at hl 1 rfl) ?_
      refine my_iald hx hb hK hP 12 rfl ((i).toInt.toNat) (show (i).toInt = (((i).toInt.toNat : Nat) : Int) by omega) (by omega) dX2_ring_22 ?_
      refine lv_goto (tgt := 27) hx hb dX2_ring_23 (by decide) ?_
      exact hret _ _ _ _ _ _ _ () dX2_ring_27 (Or.inr (Or.inr rfl)) ((hM.2.2 (i).toInt.toNat (by omega)).trans (if_pos (show 0 ≤ (i).toInt ∧ (i).toInt < ((sG σ).length : Int) by omega)).symm) hP hD hS (Nat.le_refl _) (Nat.le_refl _)

set_option maxHeartbeats 4000000 in
set_option maxRecDepth 100000 in
/-- extend -/
theorem c_X2_extend (l : Launch) (G : GG) (b : Nat → Nat) (μ : MP) (σ : St) (hI : SI σ) (hM : MI μ σ) (o : Int32) (v : Int64) : WrI l yX2_extend wsX2_extend (rmX 2 90 0 0) G [.ref (b 0), .int o, .long v] (WM G b μ σ) (fun (r : Int32) (u : MP) => r = (fExtend σ o v).1 ∧ MI u (fExtend σ o v).2) (fun u : MP => WM G b u (fExtend σ o v).2) 0 0 := by
  refine wr_of_i (cc := cX2_extend) (maxL := 5) (t := .int) (by decide +kernel) rfl (Nat.le_of_ble_eq_true rfl) nar_int ?_
  intro p e s m args below meth c Q A hx hb hml hown hts hK hZ hA hret ls hl hP hD hS
  have hown : s.vm.findClass RX2 = some m.cls := hown
  have hl : lv_has ls 5 [(0, .ref (b 0)), (1, .int o), (2, .long v)] := hl
  have hP : va_P G.1 vwCl (MW G b 0 (nI (sN σ)) (uK μ) (uE μ) (uP μ) (uT μ) (uF μ) (uU μ) (uM μ) (uV μ) (uX μ) (sR σ) (sT σ) (uW μ) (nI (sG σ).length) (uG μ)) s.heap := hP
  have hD : va_D A (MW G b 0 (nI (sN σ)) (uK μ) (uE μ) (uP μ) (uT μ) (uF μ) (uU μ) (uM μ) (uV μ) (uX μ) (sR σ) (sT σ) (uW μ) (nI (sG σ).length) (uG μ)) := hD
  obtain ⟨hI1, hI2, hI3, hI4, hI5⟩ := id hI
  have hiX2 := (show ∀ w ∈ u_ws RX2 TX2 17, w ∈ wsX2_extend by decide +kernel)
  have lf52 := hts (.fieldLink RX2 52 "OrderRows2Model" "thrown" "I") (by decide +kernel)
  have cw80 := cwV (R := (rmX 2 90 0 0)) (s := s) (args := args) (rm := (rmX 1 60 0 0)) (mc := 0) (ms := 0) 1 hts gX2_extend_X2_isOrder rfl rfl rfl (by decide +kernel) ⟨Nat.le_of_ble_eq_true rfl, Nat.le_of_ble_eq_true rfl⟩
  have kl66 := hts (.constantLong RX2 66 (20000)) (by decide +kernel)
  have cw58 := va_cwS (R := (rmX 2 90 0 0)) (s := s) (args := args) (rm := (rmX 0 0 0 0)) (mc := 0) (ms := 0) 3 hts gX2_extend_X2_isIn rfl rfl rfl (by decide +kernel) ⟨Nat.le_of_ble_eq_true rfl, Nat.le_of_ble_eq_true rfl⟩
  have lf36 := hts (.fieldLink RX2 36 "OrderRows2Model" "overs" "[J") (by decide +kernel)
  have lf26 := hts (.fieldLink RX2 26 "OrderRows2Model" "untils" "[J") (by decide +kernel)
  refine lv_aload_n hx hb dX2_extend_0 rfl (lv_at hl 0 rfl) ?_
  refine lv_iconst (v := 0) hx hb dX2_extend_1 (by decide) ?_
  refine va_put (D := G.1) (ci := 3) (v := .int 0) (ty := .int) (own := RX2) (C := RX2) (T := TX2) (N := 17) hx hb hts hiX2 tyX2 tyX2_ok nmX2 hown hK.1 hP hD hS 0 rfl rfl 0 (by decide) lf52 (fun _ h9 => h9) rfl (by decide +kernel) rfl rfl (Nat.le_of_ble_eq_true rfl) dX2_extend_2 (fun H locs hP hD hS => ?_)
  have hP : va_P G.1 vwCl (MW G b 0 (nI (sN σ)) (uK μ) (uE μ) (uP μ) (uT μ) (uF μ) (uU μ) (uM μ) (uV μ) (uX μ) (sR σ) (sT σ) (uW μ) (nI (sG σ).length) (uG μ)) H := hP
  have hD : va_D A (MW G b 0 (nI (sN σ)) (uK μ) (uE μ) (uP μ) (uT μ) (uF μ) (uU μ) (uM μ) (uV μ) (uX μ) (sR σ) (sT σ) (uW μ) (nI (sG σ).length) (uG μ)) := hD
  refine lv_aload_n hx hb dX2_extend_5 rfl (lv_at hl 0 rfl) ?_
  refine lv_iload_n hx hb dX2_extend_6 rfl (lv_at hl 1 rfl) ?_
  refine rdV_i (b := b 0) (As := [.int o]) (rest := []) ⟨hx, hb, hml, hown, hts⟩ (c_X2_isOrder l G b μ σ hI hM o) cw80 hK hP 3 rfl rfl rfl rfl hl.1 rfl (Nat.le_of_ble_eq_true rfl) dX2_extend_7 ⟨Nat.zero_le _, Nat.zero_le _⟩ (fun r7_1 w7_1 => ?_)
  have w7_1 : ((r7_1.toInt = 1 ∧ (1 ≤ o.toInt ∧ o.toInt ≤ ((sN σ : Nat) : Int))) ∨ (r7_1.toInt = 0 ∧ ¬ (1 ≤ o.toInt ∧ o.toInt ≤ ((sN σ : Nat) : Int)))) := w7_1
  refine lv_if_ne (tgt := 16) hx hb dX2_extend_10 (by decide) (fun c10_2 => ?_) (fun c10_2 => ?_)
  · have c10_2 : ¬ ((r7_1).toInt = 0) := mt (ti_eq (x := r7_1) (y := 0) (a := (r7_1).toInt) (b := 0) rfl rfl).mpr c10_2
    obtain ⟨i, hi, hoi⟩ : ∃ i, i < sN σ ∧ o.toInt = ((i + 1 : Nat) : Int) := ⟨(o.toInt - 1).toNat, by omega, by omega⟩
    have eoi : oi o = i := by show (o.toInt - 1).toNat = i; omega
    have hmo1 := hM.1 i hi
    have hxi1 : ((oX (sO σ i)).toInt = 20001 ∧ ((uX μ) (i + 1)).toInt = -1) ∨ ((oX (sO σ i)).toInt ≠ 20001 ∧ ((uX μ) (i + 1)).toInt = (oX (sO σ i)).toInt) := XI_i hmo1.2.2.2.2.2.2.2.2
    have hoi1 := hI4 i hi
    unfold OI at hoi1
    refine lv_lload_n hx hb dX2_extend_16 rfl (lv_at hl 2 rfl) ?_
    refine lv_lconst (v := 0) hx hb dX2_extend_17 rfl ?_
    refine lv_ldc2 (v := 20000) hx hb hown kl66 dX2_extend_18 ?_
    refine rdS_i (As := [.long v, .long 0, .long 20000]) (rest := []) ⟨hx, hb, hml, hown, hts⟩ (c_X2_isIn l G (v : Int64) (0 : Int64) (20000 : Int64)) cw58 hK va_P.nil rfl hl.1 rfl (Nat.le_of_ble_eq_true rfl) dX2_extend_21 ⟨Nat.zero_le _, Nat.zero_le _⟩ (fun r21_3 w21_3 => ?_)
    have w21_3 : ((r21_3.toInt = 1 ∧ (((0 : Int64)).toInt ≤ ((v : Int64)).toInt ∧ ((v : Int64)).toInt ≤ ((20000 : Int64)).toInt)) ∨ (r21_3.toInt = 0 ∧ ¬ (((0 : Int64)).toInt ≤ ((v : Int64)).toInt ∧ ((v : Int64)).toInt ≤ ((20000 : Int64)).toInt))) := w21_3
    have va4 : ((0 : Int64)).toInt = 0 := rfl
    have va5 : ((20000 : Int64)).toInt = 20000 := rfl
    refine lv_if_ne (tgt := 30) hx hb dX2_extend_24 (by decide) (fun c24_6 => ?_) (fun c24_6 => ?_)
    · have c24_6 : ¬ ((r21_3).toInt = 0) := mt (ti_eq (x := r21_3) (y := 0) (a := (r21_3).toInt) (b := 0) rfl rfl).mpr c24_6
      refine lv_aload_n hx hb dX2_extend_30 rfl (lv_at hl 0 rfl) ?_
      refine va_get (D := G.1) (ci := 3) (v := .ref (b 9)) (own := RX2) (C := RX2) (T := TX2) (N := 17) hx hb hts hiX2 hown hK.1 hP 0 rfl rfl 10 (by decide) lf36 (fun _ h9 => h9) rfl dX2_extend_31 ?_
      refine lv_iload_n hx hb dX2_extend_34 rfl (lv_at hl 1 rfl) ?_
      refine my_lald hx hb hK hP 9 rfl (i + 1) hoi (by omega) dX2_extend_35 ?_
      refine lv_lconst (v := 0) hx hb dX2_extend_36 rfl ?_
      refine lc_lt (tgt := 44) hx hb dX2_extend_37 dX2_extend_38 (by decide) (fun c37_7 => ?_) (fun c37_7 => ?_)
      · have c37_7 : (((uX μ) (i + 1))).toInt < 0 := (tl_lt (x := ((uX μ) (i + 1))) (y := 0) (a := (((uX μ) (i + 1))).toInt) (b := 0) rfl rfl).mp c37_7
        refine lv_lload_n hx hb dX2_extend_44 rfl (lv_at hl 2 rfl) ?_
        refine lv_aload_n hx hb dX2_extend_45 rfl (lv_at hl 0 rfl) ?_
        refine va_get (D := G.1) (ci := 3) (v := .ref (b 6)) (own := RX2) (C := RX2) (T := TX2) (N := 17) hx hb hts hiX2 hown hK.1 hP 0 rfl rfl 7 (by decide) lf26 (fun _ h9 => h9) rfl dX2_extend_46 ?_
        refine lv_iload_n hx hb dX2_extend_49 rfl (lv_at hl 1 rfl) ?_
        refine my_lald hx hb hK hP 6 rfl (i + 1) hoi (by omega) dX2_extend_50 ?_
        refine lc_le (tgt := 59) hx hb dX2_extend_51 dX2_extend_52 (by decide) (fun c51_8 => ?_) (fun c51_8 => ?_)
        · have c51_8 : (v).toInt ≤ (oU (sO σ i)).toInt := (tl_le (x := v) (y := ((uU μ) (i + 1))) (a := (v).toInt) (b := (oU (sO σ i)).toInt) rfl (congrArg Int64.toInt hmo1.2.2.2.2.2.1)).mp c51_8
          refine lv_iconst (v := 0) hx hb dX2_extend_59 (by decide) ?_
          refine lv_istore (lv' := [(4, .int 0), (0, .ref (b 0)), (1, .int o), (2, .long v)]) hx hb dX2_extend_60 hl (by decide) rfl (fun ls hl => ?_)
          refine lv_aload_n hx hb dX2_extend_62 rfl (lv_at hl 1 rfl) ?_
          refine va_get (D := G.1) (ci := 3) (v := .ref (b 6)) (own := RX2) (C := RX2) (T := TX2) (N := 17) hx hb hts hiX2 hown hK.1 hP 0 rfl rfl 7 (by decide) lf26 (fun _ h9 => h9) rfl dX2_extend_63 ?_
          refine lv_iload_n hx hb dX2_extend_66 rfl (lv_at hl 2 rfl) ?_
          refine lv_iload hx hb dX2_extend_67 (lv_at hl 0 rfl) ?_
          refine lv_if_eq (tgt := 76) hx hb dX2_extend_69 (by decide) (fun _ => ?_) (fun c69_9 => absurd (by decide) c69_9)
          refine lv_aload_n hx hb dX2_extend_76 rfl (lv_at hl 1 rfl) ?_
          refine va_get (D := G.1) (ci := 3) (v := .ref (b 6)) (own := RX2) (C := RX2) (T := TX2) (N := 17) hx hb hts hiX2 hown hK.1 hP 0 rfl rfl 7 (by decide) lf26 (fun _ h9 => h9) rfl dX2_extend_77 ?_
          refine lv_iload_n hx hb dX2_extend_80 rfl (lv_at hl 2 rfl) ?_
          refine my_lald hx hb hK hP 6 rfl (i + 1) hoi (by omega) dX2_extend_81 ?_
          refine my_last hx hb hK hP hD hS 6 rfl (x := ((uU μ) (i + 1))) (i + 1) hoi (by omega) dX2_extend_82 (fun H locs hP hD hS => ?_)
          have hP : va_P G.1 vwCl (MW G b 0 (nI (sN σ)) (uK μ) (uE μ) (uP μ) (uT μ) (uF μ) (vp_updL (uU μ) (i + 1) ((uU μ) (i + 1))) (uM μ) (uV μ) (uX μ) (sR σ) (sT σ) (uW μ) (nI (sG σ).length) (uG μ)) H := hP
          have hD : va_D A (MW G b 0 (nI (sN σ)) (uK μ) (uE μ) (uP μ) (uT μ) (uF μ) (vp_updL (uU μ) (i + 1) ((uU μ) (i + 1))) (uM μ) (uV μ) (uX μ) (sR σ) (sT σ) (uW μ) (nI (sG σ).length) (uG μ)) := hD
          refine lv_iload hx hb dX2_extend_83 (lv_at hl 0 rfl) ?_
          refine lv_if_eq (tgt := 92) hx hb dX2_extend_85 (by decide) (fun _ => ?_) (fun c85_10 => absurd (by decide) c85_10)
          refine lv_iconst (v := 0) hx hb dX2_extend_92 (by decide) ?_
          have hM2 : MI (mU μ (vp_updL (uU μ) (i + 1) (uU μ (i + 1)))) σ := by rw [upL_self]; exact hM
          have hF : fExtend σ o v = (0, σ) := by unfold fExtend; rw [if_neg (by omega), if_neg (by omega), eoi, if_neg (by omega), if_pos (by omega)]
          exact hret _ _ _ _ _ _ _ (mU μ (vp_updL (uU μ) (i + 1) (uU μ (i + 1)))) dX2_extend_93 (Or.inr (Or.inr rfl)) (by rw [hF]; exact ⟨rfl, hM2⟩) (by rw [hF]; exact hP) (by rw [hF]; exact hD) hS (Nat.le_refl _) (Nat.le_refl _)
        · have c51_8 : ¬ ((v).toInt ≤ (oU (sO σ i)).toInt) := mt (tl_le (x := v) (y := ((uU μ) (i + 1))) (a := (v).toInt) (b := (oU (sO σ i)).toInt) rfl (congrArg Int64.toInt hmo1.2.2.2.2.2.1)).mpr c51_8
          refine lv_iconst (v := 1) hx hb dX2_extend_55 (by decide) ?_
          refine lv_goto (tgt := 60) hx hb dX2_extend_56 (by decide) ?_
          refine lv_istore (lv' := [(4, .int 1), (0, .ref (b 0)), (1, .int o), (2, .long v)]) hx hb dX2_extend_60 hl (by decide) rfl (fun ls hl => ?_)
          refine lv_aload_n hx hb dX2_extend_62 rfl (lv_at hl 1 rfl) ?_
          refine va_get (D := G.1) (ci := 3) (v := .ref (b 6)) (own := RX2) (C := RX2) (T := TX2) (N := 17) hx hb hts hiX2 hown hK.1 hP 0 rfl rfl 7 (by decide) lf26 (fun _ h9 => h9) rfl dX2_extend_63 ?_
          refine lv_iload_n hx hb dX2_extend_66 rfl (lv_at hl 2 rfl) ?_
          refine lv_iload hx hb dX2_extend_67 (lv_at hl 0 rfl) ?_
          refine lv_if_eq (tgt := 76) hx hb dX2_extend_69 (by decide) (fun c69_11 => absurd c69_11 (by decide)) (fun _ => ?_)
          refine lv_lload_n hx hb dX2_extend_72 rfl (lv_at hl 3 rfl) ?_
          refine lv_goto (tgt := 82) hx hb dX2_extend_73 (by decide) ?_
          refine my_last hx hb hK hP hD hS 6 rfl (x := v) (i + 1) hoi (by omega) dX2_extend_82 (fun H locs hP hD hS => ?_)
          have hP : va_P G.1 vwCl (MW G b 0 (nI (sN σ)) (uK μ) (uE μ) (uP μ) (uT μ) (uF μ) (vp_updL (uU μ) (i + 1) v) (uM μ) (uV μ) (uX μ) (sR σ) (sT σ) (uW μ) (nI (sG σ).length) (uG μ)) H := hP
          have hD : va_D A (MW G b 0 (nI (sN σ)) (uK μ) (uE μ) (uP μ) (uT μ) (uF μ) (vp_updL (uU μ) (i + 1) v) (uM μ) (uV μ) (uX μ) (sR σ) (sT σ) (uW μ) (nI (sG σ).length) (uG μ)) := hD
          refine lv_iload hx hb dX2_extend_83 (lv_at hl 0 rfl) ?_
          refine lv_if_eq (tgt := 92) hx hb dX2_extend_85 (by decide) (fun c85_12 => absurd c85_12 (by decide)) (fun _ => ?_)
          refine lv_iconst (v := 1) hx hb dX2_extend_88 (by decide) ?_
          refine lv_goto (tgt := 93) hx hb dX2_extend_89 (by decide) ?_
          have hM2 : MI (mU μ (vp_updL (uU μ) (i + 1) v)) (sPut σ i (oSU (sO σ i) v)) := by
            refine MI_upd hM (fun j o1 hj h => ?_) ?_ (fun _ _ => rfl) rfl
            · obtain ⟨h1, h2, h3, h4, h5, h6, h7, h8, h9⟩ := h
              exact ⟨h1, h2, h3, h4, h5, (pk_uLn hj).trans h6, h7, h8, h9⟩
            · obtain ⟨h1, h2, h3, h4, h5, h6, h7, h8, h9⟩ := hmo1
              exact ⟨h1, h2, h3, h4, h5, pk_uLs, h7, h8, h9⟩
          have hF : fExtend σ o v = (1, sPut σ i (oSU (sO σ i) v)) := by unfold fExtend; rw [if_neg (by omega), if_neg (by omega), eoi, if_neg (by omega), if_neg (by omega)]
          exact hret _ _ _ _ _ _ _ (mU μ (vp_updL (uU μ) (i + 1) v)) dX2_extend_93 (Or.inr (Or.inr rfl)) (by rw [hF]; exact ⟨rfl, hM2⟩) (by rw [hF]; exact hP) (by rw [hF]; exact hD) hS (Nat.le_refl _) (Nat.le_refl _)
      · have c37_7 : ¬ ((((uX μ) (i + 1))).toInt < 0) := mt (tl_lt (x := ((uX μ) (i + 1))) (y := 0) (a := (((uX μ) (i + 1))).toInt) (b := 0) rfl rfl).mpr c37_7
        refine lv_bipush (v := (-103)) hx hb dX2_extend_41 (by decide) ?_
        have hF : fExtend σ o v = ((-103), σ) := by unfold fExtend; rw [if_neg (by omega), if_neg (by omega), eoi, if_pos (by omega)]
        exact hret _ _ _ _ _ _ _ μ dX2_extend_43 (Or.inr (Or.inr rfl)) (by rw [hF]; exact ⟨rfl, hM⟩) (by rw [hF]; exact hP) (by rw [hF]; exact hD) hS (Nat.le_refl _) (Nat.le_refl _)
    · have c24_6 : (r21_3).toInt = 0 := (ti_eq (x := r21_3) (y := 0) (a := (r21_3).toInt) (b := 0) rfl rfl).mp c24_6
      refine lv_bipush (v := (-102)) hx hb dX2_extend_27 (by decide) ?_
      have hF : fExtend σ o v = ((-102), σ) := by unfold fExtend; rw [if_neg (by omega), if_pos (by omega)]
      exact hret _ _ _ _ _ _ _ μ dX2_extend_29 (Or.inr (Or.inr rfl)) (by rw [hF]; exact ⟨rfl, hM⟩) (by rw [hF]; exact hP) (by rw [hF]; exact hD) hS (Nat.le_refl _) (Nat.le_refl _)
  · have c10_2 : (r7_1).toInt = 0 := (ti_eq (x := r7_1) (y := 0) (a := (r7_1).toInt) (b := 0) rfl rfl).mp c10_2
    refine lv_bipush (v := (-101)) hx hb dX2_extend_13 (by decide) ?_
    have hF : fExtend σ o v = ((-101), σ) := if_pos (by show ¬ (1 ≤ o.toInt ∧ o.toInt ≤ ((sN σ : Nat) : Int)); omega)
    exact hret _ _ _ _ _ _ _ μ dX2_extend_15 (Or.inr (Or.inr rfl)) (by rw [hF]; exact ⟨rfl, hM⟩) (by rw [hF]; exact hP) (by rw [hF]; exact hD) hS (Nat.le_refl _) (Nat.le_refl _)

set_option maxHeartbeats 4000000 in
set_option maxRecDepth 100000 in
/-- withdraw -/
theorem c_X2_withdraw (l : Launch) (G : GG) (b : Nat → Nat) (μ : MP) (σ : St) (hI : SI σ) (hM : MI μ σ) (o : Int32) (t : Int64) : WrI l yX2_withdraw wsX2_withdraw (rmX 2 90 0 0) G [.ref (b 0), .int o, .long t] (WM G b μ σ) (fun (r : Int32) (u : MP) => r = (fWithdraw σ o t).1 ∧ MI u (fWithdraw σ o t).2) (fun u : MP => WM G b u (fWithdraw σ o t).2) 0 0 := by
  refine wr_of_i (cc := cX2_withdraw) (maxL := 8) (t := .int) (by decide +kernel) rfl (Nat.le_of_ble_eq_true rfl) nar_int ?_
  intro p e s m args below meth c Q A hx hb hml hown hts hK hZ hA hret ls hl hP hD hS
  have hown : s.vm.findClass RX2 = some m.cls := hown
  have hl : lv_has ls 8 [(0, .ref (b 0)), (1, .int o), (2, .long t)] := hl
  have hP : va_P G.1 vwCl (MW G b 0 (nI (sN σ)) (uK μ) (uE μ) (uP μ) (uT μ) (uF μ) (uU μ) (uM μ) (uV μ) (uX μ) (sR σ) (sT σ) (uW μ) (nI (sG σ).length) (uG μ)) s.heap := hP
  have hD : va_D A (MW G b 0 (nI (sN σ)) (uK μ) (uE μ) (uP μ) (uT μ) (uF μ) (uU μ) (uM μ) (uV μ) (uX μ) (sR σ) (sT σ) (uW μ) (nI (sG σ).length) (uG μ)) := hD
  obtain ⟨hI1, hI2, hI3, hI4, hI5⟩ := id hI
  have hiX2 := (show ∀ w ∈ u_ws RX2 TX2 17, w ∈ wsX2_withdraw by decide +kernel)
  have lf52 := hts (.fieldLink RX2 52 "OrderRows2Model" "thrown" "I") (by decide +kernel)
  have cw80 := cwV (R := (rmX 2 90 0 0)) (s := s) (args := args) (rm := (rmX 1 60 0 0)) (mc := 0) (ms := 0) 1 hts gX2_withdraw_X2_isOrder rfl rfl rfl (by decide +kernel) ⟨Nat.le_of_ble_eq_true rfl, Nat.le_of_ble_eq_true rfl⟩
  have cw84 := cwV (R := (rmX 2 90 0 0)) (s := s) (args := args) (rm := (rmX 1 60 0 0)) (mc := 0) (ms := 0) 1 hts gX2_withdraw_X2_isDay rfl rfl rfl (by decide +kernel) ⟨Nat.le_of_ble_eq_true rfl, Nat.le_of_ble_eq_true rfl⟩
  have cw88 := cwV (R := (rmX 2 90 0 0)) (s := s) (args := args) (rm := (rmX 1 60 0 0)) (mc := 0) (ms := 0) 1 hts gX2_withdraw_X2_set rfl rfl rfl (by decide +kernel) ⟨Nat.le_of_ble_eq_true rfl, Nat.le_of_ble_eq_true rfl⟩
  have lf36 := hts (.fieldLink RX2 36 "OrderRows2Model" "overs" "[J") (by decide +kernel)
  have lf22 := hts (.fieldLink RX2 22 "OrderRows2Model" "froms" "[J") (by decide +kernel)
  have lf26 := hts (.fieldLink RX2 26 "OrderRows2Model" "untils" "[J") (by decide +kernel)
  refine lv_aload_n hx hb dX2_withdraw_0 rfl (lv_at hl 0 rfl) ?_
  refine lv_iconst (v := 0) hx hb dX2_withdraw_1 (by decide) ?_
  refine va_put (D := G.1) (ci := 3) (v := .int 0) (ty := .int) (own := RX2) (C := RX2) (T := TX2) (N := 17) hx hb hts hiX2 tyX2 tyX2_ok nmX2 hown hK.1 hP hD hS 0 rfl rfl 0 (by decide) lf52 (fun _ h9 => h9) rfl (by decide +kernel) rfl rfl (Nat.le_of_ble_eq_true rfl) dX2_withdraw_2 (fun H locs hP hD hS => ?_)
  have hP : va_P G.1 vwCl (MW G b 0 (nI (sN σ)) (uK μ) (uE μ) (uP μ) (uT μ) (uF μ) (uU μ) (uM μ) (uV μ) (uX μ) (sR σ) (sT σ) (uW μ) (nI (sG σ).length) (uG μ)) H := hP
  have hD : va_D A (MW G b 0 (nI (sN σ)) (uK μ) (uE μ) (uP μ) (uT μ) (uF μ) (uU μ) (uM μ) (uV μ) (uX μ) (sR σ) (sT σ) (uW μ) (nI (sG σ).length) (uG μ)) := hD
  refine lv_aload_n hx hb dX2_withdraw_5 rfl (lv_at hl 0 rfl) ?_
  refine lv_iload_n hx hb dX2_withdraw_6 rfl (lv_at hl 1 rfl) ?_
  refine rdV_i (b := b 0) (As := [.int o]) (rest := []) ⟨hx, hb, hml, hown, hts⟩ (c_X2_isOrder l G b μ σ hI hM o) cw80 hK hP 3 rfl rfl rfl rfl hl.1 rfl (Nat.le_of_ble_eq_true rfl) dX2_withdraw_7 ⟨Nat.zero_le _, Nat.zero_le _⟩ (fun r7_1 w7_1 => ?_)
  have w7_1 : ((r7_1.toInt = 1 ∧ (1 ≤ o.toInt ∧ o.toInt ≤ ((sN σ : Nat) : Int))) ∨ (r7_1.toInt = 0 ∧ ¬ (1 ≤ o.toInt ∧ o.toInt ≤ ((sN σ : Nat) : Int)))) := w7_1
  refine lv_if_ne (tgt := 16) hx hb dX2_withdraw_10 (by decide) (fun c10_2 => ?_) (fun c10_2 => ?_)
  · have c10_2 : ¬ ((r7_1).toInt = 0) := mt (ti_eq (x := r7_1) (y := 0) (a := (r7_1).toInt) (b := 0) rfl rfl).mpr c10_2
    obtain ⟨i, hi, hoi⟩ : ∃ i, i < sN σ ∧ o.toInt = ((i + 1 : Nat) : Int) := ⟨(o.toInt - 1).toNat, by omega, by omega⟩
    have eoi : oi o = i := by show (o.toInt - 1).toNat = i; omega
    have hmo1 := hM.1 i hi
    have hxi1 : ((oX (sO σ i)).toInt = 20001 ∧ ((uX μ) (i + 1)).toInt = -1) ∨ ((oX (sO σ i)).toInt ≠ 20001 ∧ ((uX μ) (i + 1)).toInt = (oX (sO σ i)).toInt) := XI_i hmo1.2.2.2.2.2.2.2.2
    have hoi1 := hI4 i hi
    unfold OI at hoi1
    refine lv_aload_n hx hb dX2_withdraw_16 rfl (lv_at hl 0 rfl) ?_
    refine lv_lload_n hx hb dX2_withdraw_17 rfl (lv_at hl 2 rfl) ?_
    refine rdV_i (b := b 0) (As := [.long t]) (rest := []) ⟨hx, hb, hml, hown, hts⟩ (c_X2_isDay l G b μ σ hI hM t) cw84 hK hP 3 rfl rfl rfl rfl hl.1 rfl (Nat.le_of_ble_eq_true rfl) dX2_withdraw_18 ⟨Nat.zero_le _, Nat.zero_le _⟩ (fun r18_3 w18_3 => ?_)
    have w18_3 : ((r18_3.toInt = 1 ∧ ((sT σ).toInt ≤ t.toInt ∧ t.toInt ≤ 20000)) ∨ (r18_3.toInt = 0 ∧ ¬ ((sT σ).toInt ≤ t.toInt ∧ t.toInt ≤ 20000))) := w18_3
    refine lv_if_ne (tgt := 27) hx hb dX2_withdraw_21 (by decide) (fun c21_4 => ?_) (fun c21_4 => ?_)
    · have c21_4 : ¬ ((r18_3).toInt = 0) := mt (ti_eq (x := r18_3) (y := 0) (a := (r18_3).toInt) (b := 0) rfl rfl).mpr c21_4
      refine lv_aload_n hx hb dX2_withdraw_27 rfl (lv_at hl 0 rfl) ?_
      refine lv_lload_n hx hb dX2_withdraw_28 rfl (lv_at hl 2 rfl) ?_
      have hck : clk σ t := by show 0 ≤ t.toInt ∧ t.toInt ≤ 20000 ∧ (sT σ).toInt ≤ t.toInt; omega
      refine wrV_i (wr := []) (b := b 0) (As := [.long t]) (rest := []) ⟨hx, hb, hml, hown, hts⟩ (c_X2_set l G b μ σ hI hM t hck) cw88 hK hZ hP hD hS hA 3 rfl rfl rfl rfl hl.1 rfl (Nat.le_of_ble_eq_true rfl) dX2_withdraw_29 ⟨Nat.zero_le _, Nat.zero_le _⟩ (fun r5 g H locs w5 hP hD hS => ?_)
      obtain ⟨w5, hM1⟩ := w5
      have hP : va_P G.1 vwCl (MW G b 0 (nI (sN σ)) (uK μ) (uE μ) (uP μ) (uT μ) (uF μ) (uU μ) (uM μ) (uV μ) g (sR σ) t (uW μ) (nI (sG σ).length) (uG μ)) H := hP
      have hD : va_D A (MW G b 0 (nI (sN σ)) (uK μ) (uE μ) (uP μ) (uT μ) (uF μ) (uU μ) (uM μ) (uV μ) g (sR σ) t (uW μ) (nI (sG σ).length) (uG μ)) := hD
      refine lv_istore (lv' := [(4, .int r5), (0, .ref (b 0)), (1, .int o), (2, .long t)]) hx hb dX2_withdraw_32 hl (by decide) rfl (fun ls hl => ?_)
      have hI1 := SI_mv hI hck
      have hmo2 := hM1.1 i hi
      have hxi2 : ((oX (sO (mvS σ t) i)).toInt = 20001 ∧ (g (i + 1)).toInt = -1) ∨ ((oX (sO (mvS σ t) i)).toInt ≠ 20001 ∧ (g (i + 1)).toInt = (oX (sO (mvS σ t) i)).toInt) := XI_i hmo2.2.2.2.2.2.2.2.2
      have hoi2 := hI1.2.2.2.1 i hi
      unfold OI at hoi2
      have eT1 : (sT (mvS σ t)).toInt = t.toInt := rfl
      refine lv_aload_n hx hb dX2_withdraw_34 rfl (lv_at hl 1 rfl) ?_
      refine va_get (D := G.1) (ci := 3) (v := .ref (b 9)) (own := RX2) (C := RX2) (T := TX2) (N := 17) hx hb hts hiX2 hown hK.1 hP 0 rfl rfl 10 (by decide) lf36 (fun _ h9 => h9) rfl dX2_withdraw_35 ?_
      refine lv_iload_n hx hb dX2_withdraw_38 rfl (lv_at hl 2 rfl) ?_
      refine my_lald hx hb hK hP 9 rfl (i + 1) hoi (by omega) dX2_withdraw_39 ?_
      refine lv_lconst (v := 0) hx hb dX2_withdraw_40 rfl ?_
      refine lc_lt (tgt := 48) hx hb dX2_withdraw_41 dX2_withdraw_42 (by decide) (fun c41_6 => ?_) (fun c41_6 => ?_)
      · have c41_6 : ((g (i + 1))).toInt < 0 := (tl_lt (x := (g (i + 1))) (y := 0) (a := ((g (i + 1))).toInt) (b := 0) rfl rfl).mp c41_6
        refine lv_iconst (v := 0) hx hb dX2_withdraw_48 (by decide) ?_
        refine lv_istore (lv' := [(5, .int 0), (4, .int r5), (0, .ref (b 0)), (1, .int o), (2, .long t)]) hx hb dX2_withdraw_49 hl (by decide) rfl (fun ls hl => ?_)
        refine lv_aload_n hx hb dX2_withdraw_51 rfl (lv_at hl 2 rfl) ?_
        refine va_get (D := G.1) (ci := 3) (v := .ref (b 5)) (own := RX2) (C := RX2) (T := TX2) (N := 17) hx hb hts hiX2 hown hK.1 hP 0 rfl rfl 6 (by decide) lf22 (fun _ h9 => h9) rfl dX2_withdraw_52 ?_
        refine lv_iload_n hx hb dX2_withdraw_55 rfl (lv_at hl 3 rfl) ?_
        refine my_lald hx hb hK hP 5 rfl (i + 1) hoi (by omega) dX2_withdraw_56 ?_
        refine lv_lstore (lv' := [(6, .long ((uF μ) (i + 1))), (5, .int 0), (4, .int r5), (0, .ref (b 0)), (1, .int o), (2, .long t)]) hx hb dX2_withdraw_57 hl (by decide) rfl (fun ls hl => ?_)
        obtain ⟨mx, hmx⟩ : ∃ mx : Int, mx = if (oF (sO (mvS σ t) i)).toInt < t.toInt then t.toInt else (oF (sO (mvS σ t) i)).toInt := ⟨_, rfl⟩
        have hmx2 : ((oF (sO (mvS σ t) i)).toInt < t.toInt ∧ mx = t.toInt) ∨ (¬ (oF (sO (mvS σ t) i)).toInt < t.toInt ∧ mx = (oF (sO (mvS σ t) i)).toInt) := mx_or hmx
        have loop59 : ∀ (fu : Nat) (md : Nat) (x5 : Int32) (x6 : Int64), (oU (sO (mvS σ t) i)).toInt + 1 < (oF (sO (mvS σ t) i)).toInt + (md : Int) + (fu : Int) → (oF (sO (mvS σ t) i)).toInt + (md : Int) ≤ (oU (sO (mvS σ t) i)).toInt + 1 → x5.toInt = ((((oF (sO (mvS σ t) i)).toInt + (md : Int)) - mx).toNat : Int) → x6.toInt = (oF (sO (mvS σ t) i)).toInt + (md : Int) → ∀ (H : Heap) (locs : List Loc), va_P G.1 vwCl (MW G b 0 (nI (sN σ)) (uK μ) (uE μ) (uP μ) (uT μ) (uF μ) (uU μ) (uM μ) (uV μ) g (sR σ) t (uW μ) (nI (sG σ).length) (uG μ)) H → va_D A (MW G b 0 (nI (sN σ)) (uK μ) (uE μ) (uP μ) (uT μ) (uF μ) (uU μ) (uM μ) (uV μ) g (sR σ) t (uW μ) (nI (sG σ).length) (uG μ)) → va_S A s.heap H locs → ∀ ls : Array Slot, lv_has ls 8 [(5, .int x5), (6, .long x6), (0, .ref (b 0)), (1, .int o), (2, .long t)] → W p l e (rmX 2 90 0 0) s m args below meth c H locs 0 0 Q (F0 m 59 ls []) := by
          intro fu
          induction fu with
          | zero =>
            intro md x5 x6 hfu hmd e5 e6
            exact absurd hfu (by omega)
          | succ fu ih59 =>
            intro md x5 x6 hfu hmd e5 e6 H locs hP hD hS ls hl
            refine lv_lload hx hb dX2_withdraw_59 (lv_at hl 1 rfl) ?_
            refine lv_aload_n hx hb dX2_withdraw_61 rfl (lv_at hl 2 rfl) ?_
            refine va_get (D := G.1) (ci := 3) (v := .ref (b 6)) (own := RX2) (C := RX2) (T := TX2) (N := 17) hx hb hts hiX2 hown hK.1 hP 0 rfl rfl 7 (by decide) lf26 (fun _ h9 => h9) rfl dX2_withdraw_62 ?_
            refine lv_iload_n hx hb dX2_withdraw_65 rfl (lv_at hl 3 rfl) ?_
            refine my_lald hx hb hK hP 6 rfl (i + 1) hoi (by omega) dX2_withdraw_66 ?_
            refine lc_gt (tgt := 98) hx hb dX2_withdraw_67 dX2_withdraw_68 (by decide) (fun c67_7 => ?_) (fun c67_7 => ?_)
            · have c67_7 : (oU (sO (mvS σ t) i)).toInt < ((oF (sO (mvS σ t) i)).toInt + (md : Int)) := (tl_lt (x := ((uU μ) (i + 1))) (y := x6) (a := (oU (sO (mvS σ t) i)).toInt) (b := ((oF (sO (mvS σ t) i)).toInt + (md : Int))) (congrArg Int64.toInt hmo2.2.2.2.2.2.1) e6).mp c67_7
              refine lv_aload_n hx hb dX2_withdraw_98 rfl (lv_at hl 2 rfl) ?_
              refine va_get (D := G.1) (ci := 3) (v := .ref (b 9)) (own := RX2) (C := RX2) (T := TX2) (N := 17) hx hb hts hiX2 hown hK.1 hP 0 rfl rfl 10 (by decide) lf36 (fun _ h9 => h9) rfl dX2_withdraw_99 ?_
              refine lv_iload_n hx hb dX2_withdraw_102 rfl (lv_at hl 3 rfl) ?_
              refine lv_lload_n hx hb dX2_withdraw_103 rfl (lv_at hl 4 rfl) ?_
              refine my_last hx hb hK hP hD hS 9 rfl (x := t) (i + 1) hoi (by omega) dX2_withdraw_104 (fun H locs hP hD hS => ?_)
              have hP : va_P G.1 vwCl (MW G b 0 (nI (sN σ)) (uK μ) (uE μ) (uP μ) (uT μ) (uF μ) (uU μ) (uM μ) (uV μ) (vp_updL g (i + 1) t) (sR σ) t (uW μ) (nI (sG σ).length) (uG μ)) H := hP
              have hD : va_D A (MW G b 0 (nI (sN σ)) (uK μ) (uE μ) (uP μ) (uT μ) (uF μ) (uU μ) (uM μ) (uV μ) (vp_updL g (i + 1) t) (sR σ) t (uW μ) (nI (sG σ).length) (uG μ)) := hD
              refine lv_iload hx hb dX2_withdraw_105 (lv_at hl 0 rfl) ?_
              have hM2 : MI (mX μ (vp_updL g (i + 1) t)) (sPut (mvS σ t) i (oSX (sO (mvS σ t) i) t)) := by
                refine MI_upd hM1 (fun j o1 hj h => ?_) ?_ (fun j hj => ?_) rfl
                · obtain ⟨h1, h2, h3, h4, h5, h6, h7, h8, h9⟩ := h
                  exact ⟨h1, h2, h3, h4, h5, h6, h7, h8, by show XI _ (vp_updL g (i + 1) t j); rw [pk_uLn hj]; exact h9⟩
                · obtain ⟨h1, h2, h3, h4, h5, h6, h7, h8, h9⟩ := hmo2
                  exact ⟨h1, h2, h3, h4, h5, h6, h7, h8, Or.inr ⟨by show t.toInt ≠ 20001; omega, pk_uLs⟩⟩
                · rfl
              have hdy : x5 = nI (dys (sO (mvS σ t) i) t.toInt) := nI_ofI (e5.trans (by unfold dys; rw [← hmx]; omega))
              rw [hdy]
              have hF : fWithdraw σ o t = (nI (dys (sO (mvS σ t) i) t.toInt), sPut (mvS σ t) i (oSX (sO (mvS σ t) i) t)) := by unfold fWithdraw; rw [if_neg (by omega), if_neg (by omega), eoi, if_neg (by omega)]
              exact hret _ _ _ _ _ _ _ (mX μ (vp_updL g (i + 1) t)) dX2_withdraw_107 (Or.inr (Or.inr rfl)) (by rw [hF]; exact ⟨rfl, hM2⟩) (by rw [hF]; exact hP) (by rw [hF]; exact hD) hS (Nat.le_refl _) (Nat.le_refl _)
            · have c67_7 : ¬ ((oU (sO (mvS σ t) i)).toInt < ((oF (sO (mvS σ t) i)).toInt + (md : Int))) := mt (tl_lt (x := ((uU μ) (i + 1))) (y := x6) (a := (oU (sO (mvS σ t) i)).toInt) (b := ((oF (sO (mvS σ t) i)).toInt + (md : Int))) (congrArg Int64.toInt hmo2.2.2.2.2.2.1) e6).mpr c67_7
              refine lv_lload hx hb dX2_withdraw_71 (lv_at hl 1 rfl) ?_
              refine lv_lload_n hx hb dX2_withdraw_73 rfl (lv_at hl 4 rfl) ?_
              refine lc_lt (tgt := 85) hx hb dX2_withdraw_74 dX2_withdraw_75 (by decide) (fun c74_8 => ?_) (fun c74_8 => ?_)
              · have c74_8 : ((oF (sO (mvS σ t) i)).toInt + (md : Int)) < (t).toInt := (tl_lt (x := x6) (y := t) (a := ((oF (sO (mvS σ t) i)).toInt + (md : Int))) (b := (t).toInt) e6 rfl).mp c74_8
                refine lv_iload hx hb dX2_withdraw_85 (lv_at hl 0 rfl) ?_
                refine lv_istore (lv' := [(5, .int x5), (6, .long x6), (0, .ref (b 0)), (1, .int o), (2, .long t)]) hx hb dX2_withdraw_87 hl (by decide) rfl (fun ls hl => ?_)
                refine lv_lload hx hb dX2_withdraw_89 (lv_at hl 1 rfl) ?_
                refine lv_lconst (v := 1) hx hb dX2_withdraw_91 rfl ?_
                refine lv_ladd hx hb dX2_withdraw_92 ?_
                refine lv_topl (fun y92_9 e92_9 => ?_)
                have v92_9 : (y92_9).toInt = (((oF (sO (mvS σ t) i)).toInt + (md : Int)) + 1) := by rw [e92_9]; exact tl_add (a := ((oF (sO (mvS σ t) i)).toInt + (md : Int))) (b := 1) e6 rfl (by omega) (by omega)
                refine lv_lstore (lv' := [(6, .long y92_9), (5, .int x5), (0, .ref (b 0)), (1, .int o), (2, .long t)]) hx hb dX2_withdraw_93 hl (by decide) rfl (fun ls hl => ?_)
                refine lv_goto (tgt := 59) hx hb dX2_withdraw_95 (by decide) ?_
                exact ih59 (md + 1) x5 y92_9 (by omega) (by omega) (e5.trans (by omega)) (v92_9.trans (by omega)) _ _ hP hD hS ls (lv_sub hl [1, 0, 2, 3, 4] rfl)
              · have c74_8 : ¬ (((oF (sO (mvS σ t) i)).toInt + (md : Int)) < (t).toInt) := mt (tl_lt (x := x6) (y := t) (a := ((oF (sO (mvS σ t) i)).toInt + (md : Int))) (b := (t).toInt) e6 rfl).mpr c74_8
                refine lv_iload hx hb dX2_withdraw_78 (lv_at hl 0 rfl) ?_
                refine lv_iconst (v := 1) hx hb dX2_withdraw_80 (by decide) ?_
                refine lv_iadd hx hb dX2_withdraw_81 ?_
                refine lv_topi (fun y81_10 e81_10 => ?_)
                have v81_10 : (y81_10).toInt = ((((((oF (sO (mvS σ t) i)).toInt + (md : Int)) - mx).toNat + 1) : Nat) : Int) := by rw [e81_10]; exact (ti_add (a := (((((oF (sO (mvS σ t) i)).toInt + (md : Int)) - mx).toNat : Nat) : Int)) (b := 1) e5 rfl (by omega) (by omega)).trans (by omega)
                refine lv_goto (tgt := 87) hx hb dX2_withdraw_82 (by decide) ?_
                refine lv_istore (lv' := [(5, .int y81_10), (6, .long x6), (0, .ref (b 0)), (1, .int o), (2, .long t)]) hx hb dX2_withdraw_87 hl (by decide) rfl (fun ls hl => ?_)
                refine lv_lload hx hb dX2_withdraw_89 (lv_at hl 1 rfl) ?_
                refine lv_lconst (v := 1) hx hb dX2_withdraw_91 rfl ?_
                refine lv_ladd hx hb dX2_withdraw_92 ?_
                refine lv_topl (fun y92_11 e92_11 => ?_)
                have v92_11 : (y92_11).toInt = (((oF (sO (mvS σ t) i)).toInt + (md : Int)) + 1) := by rw [e92_11]; exact tl_add (a := ((oF (sO (mvS σ t) i)).toInt + (md : Int))) (b := 1) e6 rfl (by omega) (by omega)
                refine lv_lstore (lv' := [(6, .long y92_11), (5, .int y81_10), (0, .ref (b 0)), (1, .int o), (2, .long t)]) hx hb dX2_withdraw_93 hl (by decide) rfl (fun ls hl => ?_)
                refine lv_goto (tgt := 59) hx hb dX2_withdraw_95 (by decide) ?_
                exact ih59 (md + 1) y81_10 y92_11 (by omega) (by omega) (v81_10.trans (by omega)) (v92_11.trans (by omega)) _ _ hP hD hS ls (lv_sub hl [1, 0, 2, 3, 4] rfl)
        exact loop59 20003 0 0 ((uF μ) (i + 1)) (by omega) (by omega) (show (0 : Int) = _ by omega) ((congrArg Int64.toInt hmo2.2.2.2.2.1).trans (by omega)) _ _ hP hD hS ls (lv_sub hl [1, 0, 3, 4, 5] rfl)
      · have c41_6 : ¬ (((g (i + 1))).toInt < 0) := mt (tl_lt (x := (g (i + 1))) (y := 0) (a := ((g (i + 1))).toInt) (b := 0) rfl rfl).mpr c41_6
        refine lv_bipush (v := (-103)) hx hb dX2_withdraw_45 (by decide) ?_
        have hF : fWithdraw σ o t = ((-103), (mvS σ t)) := by unfold fWithdraw; rw [if_neg (by omega), if_neg (by omega), eoi, if_pos (by omega)]
        exact hret _ _ _ _ _ _ _ (mX μ g) dX2_withdraw_47 (Or.inr (Or.inr rfl)) (by rw [hF]; exact ⟨rfl, hM1⟩) (by rw [hF]; exact hP) (by rw [hF]; exact hD) hS (Nat.le_refl _) (Nat.le_refl _)
    · have c21_4 : (r18_3).toInt = 0 := (ti_eq (x := r18_3) (y := 0) (a := (r18_3).toInt) (b := 0) rfl rfl).mp c21_4
      refine lv_bipush (v := (-102)) hx hb dX2_withdraw_24 (by decide) ?_
      have hF : fWithdraw σ o t = ((-102), σ) := by unfold fWithdraw; rw [if_neg (by omega), if_pos (by omega)]
      exact hret _ _ _ _ _ _ _ μ dX2_withdraw_26 (Or.inr (Or.inr rfl)) (by rw [hF]; exact ⟨rfl, hM⟩) (by rw [hF]; exact hP) (by rw [hF]; exact hD) hS (Nat.le_refl _) (Nat.le_refl _)
  · have c10_2 : (r7_1).toInt = 0 := (ti_eq (x := r7_1) (y := 0) (a := (r7_1).toInt) (b := 0) rfl rfl).mp c10_2
    refine lv_bipush (v := (-101)) hx hb dX2_withdraw_13 (by decide) ?_
    have hF : fWithdraw σ o t = ((-101), σ) := if_pos (by show ¬ (1 ≤ o.toInt ∧ o.toInt ≤ ((sN σ : Nat) : Int)); omega)
    exact hret _ _ _ _ _ _ _ μ dX2_withdraw_15 (Or.inr (Or.inr rfl)) (by rw [hF]; exact ⟨rfl, hM⟩) (by rw [hF]; exact hP) (by rw [hF]; exact hD) hS (Nat.le_refl _) (Nat.le_refl _)

set_option maxHeartbeats 4000000 in
set_option maxRecDepth 100000 in
/-- proof -/
theorem c_X2_proof (l : Launch) (G : GG) (b : Nat → Nat) (μ : MP) (σ : St) (hI : SI σ) (hM : MI μ σ) (o gd : Int32) (t : Int64) (hgd : (gd).toInt = 0 ∨ (gd).toInt = 1) : WrI l yX2_proof wsX2_proof (rmX 2 90 0 0) G [.ref (b 0), .int o, .int gd, .long t] (WM G b μ σ) (fun (r : Int32) (u : MP) => r = (fProof σ o gd t).1 ∧ MI u (fProof σ o gd t).2) (fun u : MP => WM G b u (fProof σ o gd t).2) 0 0 := by
  refine wr_of_i (cc := cX2_proof) (maxL := 6) (t := .int) (by decide +kernel) rfl (Nat.le_of_ble_eq_true rfl) nar_int ?_
  intro p e s m args below meth c Q A hx hb hml hown hts hK hZ hA hret ls hl hP hD hS
  have hown : s.vm.findClass RX2 = some m.cls := hown
  have hl : lv_has ls 6 [(0, .ref (b 0)), (1, .int o), (2, .int gd), (3, .long t)] := hl
  have hP : va_P G.1 vwCl (MW G b 0 (nI (sN σ)) (uK μ) (uE μ) (uP μ) (uT μ) (uF μ) (uU μ) (uM μ) (uV μ) (uX μ) (sR σ) (sT σ) (uW μ) (nI (sG σ).length) (uG μ)) s.heap := hP
  have hD : va_D A (MW G b 0 (nI (sN σ)) (uK μ) (uE μ) (uP μ) (uT μ) (uF μ) (uU μ) (uM μ) (uV μ) (uX μ) (sR σ) (sT σ) (uW μ) (nI (sG σ).length) (uG μ)) := hD
  obtain ⟨hI1, hI2, hI3, hI4, hI5⟩ := id hI
  have hiX2 := (show ∀ w ∈ u_ws RX2 TX2 17, w ∈ wsX2_proof by decide +kernel)
  have lf52 := hts (.fieldLink RX2 52 "OrderRows2Model" "thrown" "I") (by decide +kernel)
  have cw80 := cwV (R := (rmX 2 90 0 0)) (s := s) (args := args) (rm := (rmX 1 60 0 0)) (mc := 0) (ms := 0) 1 hts gX2_proof_X2_isOrder rfl rfl rfl (by decide +kernel) ⟨Nat.le_of_ble_eq_true rfl, Nat.le_of_ble_eq_true rfl⟩
  have cw84 := cwV (R := (rmX 2 90 0 0)) (s := s) (args := args) (rm := (rmX 1 60 0 0)) (mc := 0) (ms := 0) 1 hts gX2_proof_X2_isDay rfl rfl rfl (by decide +kernel) ⟨Nat.le_of_ble_eq_true rfl, Nat.le_of_ble_eq_true rfl⟩
  have cw88 := cwV (R := (rmX 2 90 0 0)) (s := s) (args := args) (rm := (rmX 1 60 0 0)) (mc := 0) (ms := 0) 1 hts gX2_proof_X2_set rfl rfl rfl (by decide +kernel) ⟨Nat.le_of_ble_eq_true rfl, Nat.le_of_ble_eq_true rfl⟩
  have lf36 := hts (.fieldLink RX2 36 "OrderRows2Model" "overs" "[J") (by decide +kernel)
  have lf32 := hts (.fieldLink RX2 32 "OrderRows2Model" "proved" "[Z") (by decide +kernel)
  have kl70 := hts (.constantLong RX2 70 (-1)) (by decide +kernel)
  refine lv_aload_n hx hb dX2_proof_0 rfl (lv_at hl 0 rfl) ?_
  refine lv_iconst (v := 0) hx hb dX2_proof_1 (by decide) ?_
  refine va_put (D := G.1) (ci := 3) (v := .int 0) (ty := .int) (own := RX2) (C := RX2) (T := TX2) (N := 17) hx hb hts hiX2 tyX2 tyX2_ok nmX2 hown hK.1 hP hD hS 0 rfl rfl 0 (by decide) lf52 (fun _ h9 => h9) rfl (by decide +kernel) rfl rfl (Nat.le_of_ble_eq_true rfl) dX2_proof_2 (fun H locs hP hD hS => ?_)
  have hP : va_P G.1 vwCl (MW G b 0 (nI (sN σ)) (uK μ) (uE μ) (uP μ) (uT μ) (uF μ) (uU μ) (uM μ) (uV μ) (uX μ) (sR σ) (sT σ) (uW μ) (nI (sG σ).length) (uG μ)) H := hP
  have hD : va_D A (MW G b 0 (nI (sN σ)) (uK μ) (uE μ) (uP μ) (uT μ) (uF μ) (uU μ) (uM μ) (uV μ) (uX μ) (sR σ) (sT σ) (uW μ) (nI (sG σ).length) (uG μ)) := hD
  refine lv_aload_n hx hb dX2_proof_5 rfl (lv_at hl 0 rfl) ?_
  refine lv_iload_n hx hb dX2_proof_6 rfl (lv_at hl 1 rfl) ?_
  refine rdV_i (b := b 0) (As := [.int o]) (rest := []) ⟨hx, hb, hml, hown, hts⟩ (c_X2_isOrder l G b μ σ hI hM o) cw80 hK hP 3 rfl rfl rfl rfl hl.1 rfl (Nat.le_of_ble_eq_true rfl) dX2_proof_7 ⟨Nat.zero_le _, Nat.zero_le _⟩ (fun r7_1 w7_1 => ?_)
  have w7_1 : ((r7_1.toInt = 1 ∧ (1 ≤ o.toInt ∧ o.toInt ≤ ((sN σ : Nat) : Int))) ∨ (r7_1.toInt = 0 ∧ ¬ (1 ≤ o.toInt ∧ o.toInt ≤ ((sN σ : Nat) : Int)))) := w7_1
  refine lv_if_ne (tgt := 16) hx hb dX2_proof_10 (by decide) (fun c10_2 => ?_) (fun c10_2 => ?_)
  · have c10_2 : ¬ ((r7_1).toInt = 0) := mt (ti_eq (x := r7_1) (y := 0) (a := (r7_1).toInt) (b := 0) rfl rfl).mpr c10_2
    obtain ⟨i, hi, hoi⟩ : ∃ i, i < sN σ ∧ o.toInt = ((i + 1 : Nat) : Int) := ⟨(o.toInt - 1).toNat, by omega, by omega⟩
    have eoi : oi o = i := by show (o.toInt - 1).toNat = i; omega
    have hmo1 := hM.1 i hi
    have hxi1 : ((oX (sO σ i)).toInt = 20001 ∧ ((uX μ) (i + 1)).toInt = -1) ∨ ((oX (sO σ i)).toInt ≠ 20001 ∧ ((uX μ) (i + 1)).toInt = (oX (sO σ i)).toInt) := XI_i hmo1.2.2.2.2.2.2.2.2
    have hoi1 := hI4 i hi
    unfold OI at hoi1
    refine lv_aload_n hx hb dX2_proof_16 rfl (lv_at hl 0 rfl) ?_
    refine lv_lload_n hx hb dX2_proof_17 rfl (lv_at hl 3 rfl) ?_
    refine rdV_i (b := b 0) (As := [.long t]) (rest := []) ⟨hx, hb, hml, hown, hts⟩ (c_X2_isDay l G b μ σ hI hM t) cw84 hK hP 3 rfl rfl rfl rfl hl.1 rfl (Nat.le_of_ble_eq_true rfl) dX2_proof_18 ⟨Nat.zero_le _, Nat.zero_le _⟩ (fun r18_3 w18_3 => ?_)
    have w18_3 : ((r18_3.toInt = 1 ∧ ((sT σ).toInt ≤ t.toInt ∧ t.toInt ≤ 20000)) ∨ (r18_3.toInt = 0 ∧ ¬ ((sT σ).toInt ≤ t.toInt ∧ t.toInt ≤ 20000))) := w18_3
    refine lv_if_ne (tgt := 27) hx hb dX2_proof_21 (by decide) (fun c21_4 => ?_) (fun c21_4 => ?_)
    · have c21_4 : ¬ ((r18_3).toInt = 0) := mt (ti_eq (x := r18_3) (y := 0) (a := (r18_3).toInt) (b := 0) rfl rfl).mpr c21_4
      refine lv_aload_n hx hb dX2_proof_27 rfl (lv_at hl 0 rfl) ?_
      refine lv_lload_n hx hb dX2_proof_28 rfl (lv_at hl 3 rfl) ?_
      have hck : clk σ t := by show 0 ≤ t.toInt ∧ t.toInt ≤ 20000 ∧ (sT σ).toInt ≤ t.toInt; omega
      refine wrV_i (wr := []) (b := b 0) (As := [.long t]) (rest := []) ⟨hx, hb, hml, hown, hts⟩ (c_X2_set l G b μ σ hI hM t hck) cw88 hK hZ hP hD hS hA 3 rfl rfl rfl rfl hl.1 rfl (Nat.le_of_ble_eq_true rfl) dX2_proof_29 ⟨Nat.zero_le _, Nat.zero_le _⟩ (fun r5 g H locs w5 hP hD hS => ?_)
      obtain ⟨w5, hM1⟩ := w5
      have hP : va_P G.1 vwCl (MW G b 0 (nI (sN σ)) (uK μ) (uE μ) (uP μ) (uT μ) (uF μ) (uU μ) (uM μ) (uV μ) g (sR σ) t (uW μ) (nI (sG σ).length) (uG μ)) H := hP
      have hD : va_D A (MW G b 0 (nI (sN σ)) (uK μ) (uE μ) (uP μ) (uT μ) (uF μ) (uU μ) (uM μ) (uV μ) g (sR σ) t (uW μ) (nI (sG σ).length) (uG μ)) := hD
      refine lv_istore (lv' := [(5, .int r5), (0, .ref (b 0)), (1, .int o), (2, .int gd), (3, .long t)]) hx hb dX2_proof_32 hl (by decide) rfl (fun ls hl => ?_)
      have hI1 := SI_mv hI hck
      have hmo2 := hM1.1 i hi
      have hxi2 : ((oX (sO (mvS σ t) i)).toInt = 20001 ∧ (g (i + 1)).toInt = -1) ∨ ((oX (sO (mvS σ t) i)).toInt ≠ 20001 ∧ (g (i + 1)).toInt = (oX (sO (mvS σ t) i)).toInt) := XI_i hmo2.2.2.2.2.2.2.2.2
      have hoi2 := hI1.2.2.2.1 i hi
      unfold OI at hoi2
      have eT1 : (sT (mvS σ t)).toInt = t.toInt := rfl
      refine lv_aload_n hx hb dX2_proof_34 rfl (lv_at hl 1 rfl) ?_
      refine va_get (D := G.1) (ci := 3) (v := .ref (b 9)) (own := RX2) (C := RX2) (T := TX2) (N := 17) hx hb hts hiX2 hown hK.1 hP 0 rfl rfl 10 (by decide) lf36 (fun _ h9 => h9) rfl dX2_proof_35 ?_
      refine lv_iload_n hx hb dX2_proof_38 rfl (lv_at hl 2 rfl) ?_
      refine my_lald hx hb hK hP 9 rfl (i + 1) hoi (by omega) dX2_proof_39 ?_
      refine lv_lconst (v := 0) hx hb dX2_proof_40 rfl ?_
      refine lc_ge (tgt := 54) hx hb dX2_proof_41 dX2_proof_42 (by decide) (fun c41_6 => ?_) (fun c41_6 => ?_)
      · have c41_6 : 0 ≤ ((g (i + 1))).toInt := (tl_le (x := 0) (y := (g (i + 1))) (a := 0) (b := ((g (i + 1))).toInt) rfl rfl).mp c41_6
        refine lv_bipush (v := (-103)) hx hb dX2_proof_54 (by decide) ?_
        have hF : fProof σ o gd t = ((-103), (mvS σ t)) := by unfold fProof; rw [if_neg (by omega), if_neg (by omega), eoi, if_pos (by omega)]
        exact hret _ _ _ _ _ _ _ (mX μ g) dX2_proof_56 (Or.inr (Or.inr rfl)) (by rw [hF]; exact ⟨rfl, hM1⟩) (by rw [hF]; exact hP) (by rw [hF]; exact hD) hS (Nat.le_refl _) (Nat.le_refl _)
      · have c41_6 : ¬ (0 ≤ ((g (i + 1))).toInt) := mt (tl_le (x := 0) (y := (g (i + 1))) (a := 0) (b := ((g (i + 1))).toInt) rfl rfl).mpr c41_6
        refine lv_aload_n hx hb dX2_proof_45 rfl (lv_at hl 1 rfl) ?_
        refine va_get (D := G.1) (ci := 3) (v := .ref (b 8)) (own := RX2) (C := RX2) (T := TX2) (N := 17) hx hb hts hiX2 hown hK.1 hP 0 rfl rfl 9 (by decide) lf32 (fun _ h9 => h9) rfl dX2_proof_46 ?_
        refine lv_iload_n hx hb dX2_proof_49 rfl (lv_at hl 2 rfl) ?_
        refine my_zald hx hb hK hP 8 rfl (i + 1) hoi (by omega) dX2_proof_50 ?_
        refine lv_if_eq (tgt := 57) hx hb dX2_proof_51 (by decide) (fun c51_7 => ?_) (fun c51_7 => ?_)
        · have c51_7 : (oP (sO (mvS σ t) i)).toInt = 0 := (ti_eq (x := ((uV μ) (i + 1))) (y := 0) (a := (oP (sO (mvS σ t) i)).toInt) (b := 0) (congrArg Int32.toInt hmo2.2.2.2.2.2.2.2.1) rfl).mp c51_7
          refine lv_aload_n hx hb dX2_proof_57 rfl (lv_at hl 1 rfl) ?_
          refine va_get (D := G.1) (ci := 3) (v := .ref (b 8)) (own := RX2) (C := RX2) (T := TX2) (N := 17) hx hb hts hiX2 hown hK.1 hP 0 rfl rfl 9 (by decide) lf32 (fun _ h9 => h9) rfl dX2_proof_58 ?_
          refine lv_iload_n hx hb dX2_proof_61 rfl (lv_at hl 2 rfl) ?_
          refine lv_iload_n hx hb dX2_proof_62 rfl (lv_at hl 3 rfl) ?_
          refine my_zast hx hb hK hP hD hS 8 rfl (x := gd) (i + 1) hoi (by omega) (nar_01 (by rcases hgd with h9 | h9; exact Or.inl (ti_inj h9); exact Or.inr (ti_inj h9))) dX2_proof_63 (fun H locs hP hD hS => ?_)
          have hP : va_P G.1 vwCl (MW G b 0 (nI (sN σ)) (uK μ) (uE μ) (uP μ) (uT μ) (uF μ) (uU μ) (uM μ) (upd (uV μ) (i + 1) gd) g (sR σ) t (uW μ) (nI (sG σ).length) (uG μ)) H := hP
          have hD : va_D A (MW G b 0 (nI (sN σ)) (uK μ) (uE μ) (uP μ) (uT μ) (uF μ) (uU μ) (uM μ) (upd (uV μ) (i + 1) gd) g (sR σ) t (uW μ) (nI (sG σ).length) (uG μ)) := hD
          refine lv_aload_n hx hb dX2_proof_64 rfl (lv_at hl 1 rfl) ?_
          refine va_get (D := G.1) (ci := 3) (v := .ref (b 9)) (own := RX2) (C := RX2) (T := TX2) (N := 17) hx hb hts hiX2 hown hK.1 hP 0 rfl rfl 10 (by decide) lf36 (fun _ h9 => h9) rfl dX2_proof_65 ?_
          refine lv_iload_n hx hb dX2_proof_68 rfl (lv_at hl 2 rfl) ?_
          refine lv_iload_n hx hb dX2_proof_69 rfl (lv_at hl 3 rfl) ?_
          refine lv_if_eq (tgt := 79) hx hb dX2_proof_70 (by decide) (fun c70_8 => ?_) (fun c70_8 => ?_)
          · have c70_8 : (gd).toInt = 0 := (ti_eq (x := gd) (y := 0) (a := (gd).toInt) (b := 0) rfl rfl).mp c70_8
            refine lv_lload_n hx hb dX2_proof_79 rfl (lv_at hl 4 rfl) ?_
            refine my_last hx hb hK hP hD hS 9 rfl (x := t) (i + 1) hoi (by omega) dX2_proof_80 (fun H locs hP hD hS => ?_)
            have hP : va_P G.1 vwCl (MW G b 0 (nI (sN σ)) (uK μ) (uE μ) (uP μ) (uT μ) (uF μ) (uU μ) (uM μ) (upd (uV μ) (i + 1) gd) (vp_updL g (i + 1) t) (sR σ) t (uW μ) (nI (sG σ).length) (uG μ)) H := hP
            have hD : va_D A (MW G b 0 (nI (sN σ)) (uK μ) (uE μ) (uP μ) (uT μ) (uF μ) (uU μ) (uM μ) (upd (uV μ) (i + 1) gd) (vp_updL g (i + 1) t) (sR σ) t (uW μ) (nI (sG σ).length) (uG μ)) := hD
            refine lv_iload_n hx hb dX2_proof_81 rfl (lv_at hl 3 rfl) ?_
            refine lv_if_eq (tgt := 89) hx hb dX2_proof_82 (by decide) (fun c82_9 => ?_) (fun c82_9 => ?_)
            · have c82_9 : (gd).toInt = 0 := (ti_eq (x := gd) (y := 0) (a := (gd).toInt) (b := 0) rfl rfl).mp c82_9
              refine lv_iconst (v := 0) hx hb dX2_proof_89 (by decide) ?_
              have hM2 : MI (mV (mX μ (vp_updL g (i + 1) t)) (upd (uV μ) (i + 1) gd)) (sPut (mvS σ t) i (oSX (sO (mvS σ t) i) t)) := by
                refine MI_upd hM1 (fun j o1 hj h => ?_) ?_ (fun j hj => ?_) rfl
                · obtain ⟨h1, h2, h3, h4, h5, h6, h7, h8, h9⟩ := h
                  exact ⟨h1, h2, h3, h4, h5, h6, h7, (pk_un hj).trans h8, by show XI _ (vp_updL g (i + 1) t j); rw [pk_uLn hj]; exact h9⟩
                · obtain ⟨h1, h2, h3, h4, h5, h6, h7, h8, h9⟩ := hmo2
                  exact ⟨h1, h2, h3, h4, h5, h6, h7, pk_us.trans (ti_inj (show gd.toInt = (oP (sO (mvS σ t) i)).toInt by omega)), Or.inr ⟨by show t.toInt ≠ 20001; omega, pk_uLs⟩⟩
                · exact pk_un (by have hj : sN σ < j := hj; omega)
              have hF : fProof σ o gd t = (0, sPut (mvS σ t) i (oSX (sO (mvS σ t) i) t)) := by unfold fProof; rw [if_neg (by omega), if_neg (by omega), eoi, if_neg (by omega), if_pos (by omega)]
              exact hret _ _ _ _ _ _ _ (mV (mX μ (vp_updL g (i + 1) t)) (upd (uV μ) (i + 1) gd)) dX2_proof_90 (Or.inr (Or.inr rfl)) (by rw [hF]; exact ⟨rfl, hM2⟩) (by rw [hF]; exact hP) (by rw [hF]; exact hD) hS (Nat.le_refl _) (Nat.le_refl _)
            · have c82_9 : ¬ ((gd).toInt = 0) := mt (ti_eq (x := gd) (y := 0) (a := (gd).toInt) (b := 0) rfl rfl).mpr c82_9
              exfalso; omega
          · have c70_8 : ¬ ((gd).toInt = 0) := mt (ti_eq (x := gd) (y := 0) (a := (gd).toInt) (b := 0) rfl rfl).mpr c70_8
            refine lv_ldc2 (v := (-1)) hx hb hown kl70 dX2_proof_73 ?_
            refine lv_goto (tgt := 80) hx hb dX2_proof_76 (by decide) ?_
            refine my_last hx hb hK hP hD hS 9 rfl (x := (-1)) (i + 1) hoi (by omega) dX2_proof_80 (fun H locs hP hD hS => ?_)
            have hP : va_P G.1 vwCl (MW G b 0 (nI (sN σ)) (uK μ) (uE μ) (uP μ) (uT μ) (uF μ) (uU μ) (uM μ) (upd (uV μ) (i + 1) gd) (vp_updL g (i + 1) (-1)) (sR σ) t (uW μ) (nI (sG σ).length) (uG μ)) H := hP
            have hD : va_D A (MW G b 0 (nI (sN σ)) (uK μ) (uE μ) (uP μ) (uT μ) (uF μ) (uU μ) (uM μ) (upd (uV μ) (i + 1) gd) (vp_updL g (i + 1) (-1)) (sR σ) t (uW μ) (nI (sG σ).length) (uG μ)) := hD
            refine lv_iload_n hx hb dX2_proof_81 rfl (lv_at hl 3 rfl) ?_
            refine lv_if_eq (tgt := 89) hx hb dX2_proof_82 (by decide) (fun c82_10 => ?_) (fun c82_10 => ?_)
            · have c82_10 : (gd).toInt = 0 := (ti_eq (x := gd) (y := 0) (a := (gd).toInt) (b := 0) rfl rfl).mp c82_10
              exfalso; omega
            · have c82_10 : ¬ ((gd).toInt = 0) := mt (ti_eq (x := gd) (y := 0) (a := (gd).toInt) (b := 0) rfl rfl).mpr c82_10
              refine lv_iconst (v := 1) hx hb dX2_proof_85 (by decide) ?_
              refine lv_goto (tgt := 90) hx hb dX2_proof_86 (by decide) ?_
              have hM2 : MI (mV (mX μ (vp_updL g (i + 1) (-1))) (upd (uV μ) (i + 1) gd)) (sPut (mvS σ t) i (oSP (sO (mvS σ t) i) 1)) := by
                refine MI_upd hM1 (fun j o1 hj h => ?_) ?_ (fun j hj => ?_) rfl
                · obtain ⟨h1, h2, h3, h4, h5, h6, h7, h8, h9⟩ := h
                  exact ⟨h1, h2, h3, h4, h5, h6, h7, (pk_un hj).trans h8, by show XI _ (vp_updL g (i + 1) (-1) j); rw [pk_uLn hj]; exact h9⟩
                · obtain ⟨h1, h2, h3, h4, h5, h6, h7, h8, h9⟩ := hmo2
                  exact ⟨h1, h2, h3, h4, h5, h6, h7, pk_us.trans (ti_inj (show gd.toInt = 1 by omega)), Or.inl ⟨by show (oX (sO (mvS σ t) i)).toInt = 20001; omega, by show (vp_updL g (i + 1) (-1) (i + 1)).toInt = -1; rw [pk_uLs]; rfl⟩⟩
                · exact pk_un (by have hj : sN σ < j := hj; omega)
              have hF : fProof σ o gd t = (1, sPut (mvS σ t) i (oSP (sO (mvS σ t) i) 1)) := by unfold fProof; rw [if_neg (by omega), if_neg (by omega), eoi, if_neg (by omega), if_neg (by omega)]
              exact hret _ _ _ _ _ _ _ (mV (mX μ (vp_updL g (i + 1) (-1))) (upd (uV μ) (i + 1) gd)) dX2_proof_90 (Or.inr (Or.inr rfl)) (by rw [hF]; exact ⟨rfl, hM2⟩) (by rw [hF]; exact hP) (by rw [hF]; exact hD) hS (Nat.le_refl _) (Nat.le_refl _)
        · have c51_7 : ¬ ((oP (sO (mvS σ t) i)).toInt = 0) := mt (ti_eq (x := ((uV μ) (i + 1))) (y := 0) (a := (oP (sO (mvS σ t) i)).toInt) (b := 0) (congrArg Int32.toInt hmo2.2.2.2.2.2.2.2.1) rfl).mpr c51_7
          refine lv_bipush (v := (-103)) hx hb dX2_proof_54 (by decide) ?_
          have hF : fProof σ o gd t = ((-103), (mvS σ t)) := by unfold fProof; rw [if_neg (by omega), if_neg (by omega), eoi, if_pos (by omega)]
          exact hret _ _ _ _ _ _ _ (mX μ g) dX2_proof_56 (Or.inr (Or.inr rfl)) (by rw [hF]; exact ⟨rfl, hM1⟩) (by rw [hF]; exact hP) (by rw [hF]; exact hD) hS (Nat.le_refl _) (Nat.le_refl _)
    · have c21_4 : (r18_3).toInt = 0 := (ti_eq (x := r18_3) (y := 0) (a := (r18_3).toInt) (b := 0) rfl rfl).mp c21_4
      refine lv_bipush (v := (-102)) hx hb dX2_proof_24 (by decide) ?_
      have hF : fProof σ o gd t = ((-102), σ) := by unfold fProof; rw [if_neg (by omega), if_pos (by omega)]
      exact hret _ _ _ _ _ _ _ μ dX2_proof_26 (Or.inr (Or.inr rfl)) (by rw [hF]; exact ⟨rfl, hM⟩) (by rw [hF]; exact hP) (by rw [hF]; exact hD) hS (Nat.le_refl _) (Nat.le_refl _)
  · have c10_2 : (r7_1).toInt = 0 := (ti_eq (x := r7_1) (y := 0) (a := (r7_1).toInt) (b := 0) rfl rfl).mp c10_2
    refine lv_bipush (v := (-101)) hx hb dX2_proof_13 (by decide) ?_
    have hF : fProof σ o gd t = ((-101), σ) := if_pos (by show ¬ (1 ≤ o.toInt ∧ o.toInt ≤ ((sN σ : Nat) : Int)); omega)
    exact hret _ _ _ _ _ _ _ μ dX2_proof_15 (Or.inr (Or.inr rfl)) (by rw [hF]; exact ⟨rfl, hM⟩) (by rw [hF]; exact hP) (by rw [hF]; exact hD) hS (Nat.le_refl _) (Nat.le_refl _)
end
section
theorem zz_ok : True := trivial
end
