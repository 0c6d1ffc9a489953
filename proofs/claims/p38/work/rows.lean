section
-- ===== PART A: goes FIRST, ahead of the names: the tables' words, and 'selects' of the private methods out of them =====
/-- a private method of a class that the tables say can be made, by its rows of tables_1 -/
def lw_okq (q : MethodName × Nat) : Prop := (q.1.cls ≠ "java/lang/invoke/MethodHandle" ∧ q.1.cls ≠ "java/lang/invoke/VarHandle") ∧ Cond.instantiable q.1.cls q.2 ∈ tables_1 ∧ Cond.privateMethod q.1 ∈ tables_1 ∧ Cond.instanceMethod q.1 ∈ tables_1
def lw_privs : List (MethodName × Nat) := []
def lw_tbl : List Cond := k2_sels lw_privs ++ tables_1
theorem lw_privs_ok : ∀ q ∈ lw_privs, lw_okq q := fun _ h => absurd h List.not_mem_nil
end
section
/-! ===== BEGIN words of one list among another's, by their places ===== -/
theorem goodIn_r {big : List Cond} (ws : List Cond) (ps : List Nat) (hp : ws = ps.filterMap (fun i => big[i]?)) (h : ws.all goodWord = true) : GoodIn big ws := by
  intro w hw
  have h1 := List.all_eq_true.mp h w hw
  rw [hp] at hw
  obtain ⟨i, -, hi⟩ := List.mem_filterMap.mp hw
  have hm : w ∈ big := by first | exact List.mem_of_getElem? hi | exact List.getElem?_mem hi
  exact ⟨hm, good_of_word h1⟩
theorem goodIn_app {big a b : List Cond} (ha : GoodIn big a) (hb : GoodIn big b) : GoodIn big (a ++ b) := fun w h => (List.mem_append.mp h).elim (ha w) (hb w)
theorem goodIn_ca {big a b : List Cond} {c : Cond} (ha : GoodIn big (c :: a)) (hb : GoodIn big b) : GoodIn big (c :: (a ++ b)) := fun w h => (List.mem_cons.mp h).elim (fun e => ha w (List.mem_cons.mpr (Or.inl e))) (fun h => (List.mem_append.mp h).elim (fun h => ha w (List.mem_cons.mpr (Or.inr h))) (hb w))
theorem goodIn_sub {big ws : List Cond} (hm : ∀ w ∈ ws, w ∈ big) (h : ws.all goodWord = true) : GoodIn big ws := fun w hw => ⟨hm w hw, good_of_word (List.all_eq_true.mp h w hw)⟩
/-! ===== END ===== -/

/-! ===== BEGIN printed: names, fields, word lists, decode rows ===== -/
def RX0 : String := "SplitChannel$Acts"
def TX0 : u_T := fun k => match k with
  | 0 => ("SplitChannel$Acts", "kinds", "[I", true)
  | 1 => ("SplitChannel$Acts", "lawsBefore", "[I", true)
  | _ => ("SplitChannel$Acts", "made", "I", false)
def tyX0 : Nat → FieldType := fun k => match k with
  | 0 => .array .int
  | 1 => .array .int
  | _ => .int
abbrev wsX00 : List Cond := u_ws RX0 TX0 3
theorem nmX0 : ∀ a, a < 3 → ∀ b, b < 3 → a ≠ b → (TX0 a).2.1 ≠ (TX0 b).2.1 := by decide +kernel
theorem tyX0_ok : ∀ k, k < 3 → parseFieldDescriptor (TX0 k).2.2.1 = some (tyX0 k) := by decide +kernel
abbrev cX0_init : ByteArray := prog_2_method_1_code
def yX0_init : MethodName := ⟨RX0, "<init>", "()V"⟩
abbrev cX0_note : ByteArray := prog_2_method_2_code
def yX0_note : MethodName := ⟨RX0, "note", "(II)V"⟩
abbrev cX0_takeBack : ByteArray := prog_2_method_3_code
def yX0_takeBack : MethodName := ⟨RX0, "takeBack", "(LSplitChannel$Plan;)V"⟩
def RX1 : String := "SplitChannel$Course"
def TX1 : u_T := fun k => match k with
  | 0 => ("SplitChannel$Course", "sent", "[I", true)
  | 1 => ("SplitChannel$Course", "heard", "[I", true)
  | 2 => ("SplitChannel$Course", "through", "[I", true)
  | 3 => ("SplitChannel$Course", "depth", "[I", true)
  | 4 => ("SplitChannel$Course", "skipped", "[I", true)
  | 5 => ("SplitChannel$Course", "slotThrough", "[I", true)
  | 6 => ("SplitChannel$Course", "tried", "[I", true)
  | 7 => ("SplitChannel$Course", "bitsTaken", "[I", true)
  | 8 => ("SplitChannel$Course", "throughOrder", "[I", true)
  | 9 => ("SplitChannel$Course", "throughCount", "I", false)
  | 10 => ("SplitChannel$Course", "epochFirst", "[I", true)
  | 11 => ("SplitChannel$Course", "epochLast", "[I", true)
  | 12 => ("SplitChannel$Course", "epochWho", "[I", true)
  | _ => ("SplitChannel$Course", "epochCount", "I", false)
def tyX1 : Nat → FieldType := fun k => match k with
  | 0 => .array .int
  | 1 => .array .int
  | 2 => .array .int
  | 3 => .array .int
  | 4 => .array .int
  | 5 => .array .int
  | 6 => .array .int
  | 7 => .array .int
  | 8 => .array .int
  | 9 => .int
  | 10 => .array .int
  | 11 => .array .int
  | 12 => .array .int
  | _ => .int
abbrev wsX10 : List Cond := u_ws RX1 TX1 14
theorem nmX1 : ∀ a, a < 14 → ∀ b, b < 14 → a ≠ b → (TX1 a).2.1 ≠ (TX1 b).2.1 := by decide +kernel
theorem tyX1_ok : ∀ k, k < 14 → parseFieldDescriptor (TX1 k).2.2.1 = some (tyX1 k) := by decide +kernel
abbrev cX1_init : ByteArray := prog_3_method_1_code
def yX1_init : MethodName := ⟨RX1, "<init>", "()V"⟩
abbrev cX1_clear : ByteArray := prog_3_method_2_code
def yX1_clear : MethodName := ⟨RX1, "clear", "()V"⟩
abbrev cX1_deliver : ByteArray := prog_3_method_3_code
def yX1_deliver : MethodName := ⟨RX1, "deliver", "(II)V"⟩
abbrev cX1_openEpoch : ByteArray := prog_3_method_4_code
def yX1_openEpoch : MethodName := ⟨RX1, "openEpoch", "(II)V"⟩
abbrev cX1_lastSlot : ByteArray := prog_3_method_5_code
def yX1_lastSlot : MethodName := ⟨RX1, "lastSlot", "(I)I"⟩
abbrev cX1_slotsHeard : ByteArray := prog_3_method_6_code
def yX1_slotsHeard : MethodName := ⟨RX1, "slotsHeard", "(II)I"⟩
abbrev cX1_collisions : ByteArray := prog_3_method_7_code
def yX1_collisions : MethodName := ⟨RX1, "collisions", "(I)I"⟩
abbrev cX1_skipsMade : ByteArray := prog_3_method_8_code
def yX1_skipsMade : MethodName := ⟨RX1, "skipsMade", "(I)I"⟩
abbrev cX1_greatestDepth : ByteArray := prog_3_method_9_code
def yX1_greatestDepth : MethodName := ⟨RX1, "greatestDepth", "(I)I"⟩
def RX2 : String := "SplitChannel$Means"
def TX2 : u_T := fun k => match k with
  | 0 => ("SplitChannel$Means", "above", "[J", true)
  | 1 => ("SplitChannel$Means", "below", "[J", true)
  | 2 => ("SplitChannel$Means", "ways", "[J", true)
  | 3 => ("SplitChannel$Means", "sumAbove", "J", false)
  | _ => ("SplitChannel$Means", "sumBelow", "J", false)
def tyX2 : Nat → FieldType := fun k => match k with
  | 0 => .array .long
  | 1 => .array .long
  | 2 => .array .long
  | 3 => .long
  | _ => .long
abbrev wsX20 : List Cond := u_ws RX2 TX2 5
theorem nmX2 : ∀ a, a < 5 → ∀ b, b < 5 → a ≠ b → (TX2 a).2.1 ≠ (TX2 b).2.1 := by decide +kernel
theorem tyX2_ok : ∀ k, k < 5 → parseFieldDescriptor (TX2 k).2.2.1 = some (tyX2 k) := by decide +kernel
abbrev cX2_init : ByteArray := prog_4_method_1_code
def yX2_init : MethodName := ⟨RX2, "<init>", "()V"⟩
def RX3 : String := "SplitChannel$Plan"
def TX3 : u_T := fun k => match k with
  | 0 => ("SplitChannel$Plan", "law", "I", false)
  | 1 => ("SplitChannel$Plan", "slots", "I", false)
  | 2 => ("SplitChannel$Plan", "skips", "I", false)
  | 3 => ("SplitChannel$Plan", "window", "I", false)
  | 4 => ("SplitChannel$Plan", "lines", "I", false)
  | 5 => ("SplitChannel$Plan", "senders", "I", false)
  | 6 => ("SplitChannel$Plan", "noises", "I", false)
  | 7 => ("SplitChannel$Plan", "comes", "[I", true)
  | 8 => ("SplitChannel$Plan", "bitCounts", "[I", true)
  | 9 => ("SplitChannel$Plan", "bits", "[I", true)
  | 10 => ("SplitChannel$Plan", "noiseSlots", "[I", true)
  | _ => ("SplitChannel$Plan", "noiseKinds", "[I", true)
def tyX3 : Nat → FieldType := fun k => match k with
  | 0 => .int
  | 1 => .int
  | 2 => .int
  | 3 => .int
  | 4 => .int
  | 5 => .int
  | 6 => .int
  | 7 => .array .int
  | 8 => .array .int
  | 9 => .array .int
  | 10 => .array .int
  | _ => .array .int
abbrev wsX30 : List Cond := u_ws RX3 TX3 12
theorem nmX3 : ∀ a, a < 12 → ∀ b, b < 12 → a ≠ b → (TX3 a).2.1 ≠ (TX3 b).2.1 := by decide +kernel
theorem tyX3_ok : ∀ k, k < 12 → parseFieldDescriptor (TX3 k).2.2.1 = some (tyX3 k) := by decide +kernel
abbrev cX3_init : ByteArray := prog_5_method_1_code
def yX3_init : MethodName := ⟨RX3, "<init>", "()V"⟩
abbrev cX3_clear : ByteArray := prog_5_method_2_code
def yX3_clear : MethodName := ⟨RX3, "clear", "()V"⟩
abbrev cX3_become : ByteArray := prog_5_method_3_code
def yX3_become : MethodName := ⟨RX3, "become", "(LSplitChannel$Plan;)V"⟩
abbrev cX3_addSender : ByteArray := prog_5_method_4_code
def yX3_addSender : MethodName := ⟨RX3, "addSender", "(III)V"⟩
abbrev cX3_addNoise : ByteArray := prog_5_method_5_code
def yX3_addNoise : MethodName := ⟨RX3, "addNoise", "(II)V"⟩
abbrev cX3_stands : ByteArray := prog_5_method_6_code
def yX3_stands : MethodName := ⟨RX3, "stands", "()Z"⟩
abbrev cX3_hasSender : ByteArray := prog_5_method_7_code
def yX3_hasSender : MethodName := ⟨RX3, "hasSender", "(I)Z"⟩
abbrev cX3_hasSlot : ByteArray := prog_5_method_9_code
def yX3_hasSlot : MethodName := ⟨RX3, "hasSlot", "(I)Z"⟩
abbrev cX3_isNoisy : ByteArray := prog_5_method_10_code
def yX3_isNoisy : MethodName := ⟨RX3, "isNoisy", "(I)Z"⟩
abbrev cX3_moment : ByteArray := prog_5_method_12_code
def yX3_moment : MethodName := ⟨RX3, "moment", "(I)I"⟩
def RX4 : String := "SplitChannel$Play"
def TX4 : u_T := fun k => match k with
  | 0 => ("SplitChannel$Play", "plan", "LSplitChannel$Plan;", true)
  | 1 => ("SplitChannel$Play", "groups", "LSplitChannel$Stack;", true)
  | 2 => ("SplitChannel$Play", "counters", "[I", true)
  | 3 => ("SplitChannel$Play", "course", "LSplitChannel$Course;", false)
  | 4 => ("SplitChannel$Play", "law", "I", false)
  | 5 => ("SplitChannel$Play", "noNoise", "I", false)
  | 6 => ("SplitChannel$Play", "noSender", "I", false)
  | 7 => ("SplitChannel$Play", "present", "I", false)
  | 8 => ("SplitChannel$Play", "windowed", "I", false)
  | 9 => ("SplitChannel$Play", "edge", "I", false)
  | 10 => ("SplitChannel$Play", "justSplit", "Z", false)
  | 11 => ("SplitChannel$Play", "skipsInRow", "I", false)
  | _ => ("SplitChannel$Play", "epochCounted", "Z", false)
def tyX4 : Nat → FieldType := fun k => match k with
  | 0 => .object "SplitChannel$Plan"
  | 1 => .object "SplitChannel$Stack"
  | 2 => .array .int
  | 3 => .object "SplitChannel$Course"
  | 4 => .int
  | 5 => .int
  | 6 => .int
  | 7 => .int
  | 8 => .int
  | 9 => .int
  | 10 => .boolean
  | 11 => .int
  | _ => .boolean
abbrev wsX40 : List Cond := u_ws RX4 TX4 13
theorem nmX4 : ∀ a, a < 13 → ∀ b, b < 13 → a ≠ b → (TX4 a).2.1 ≠ (TX4 b).2.1 := by decide +kernel
theorem tyX4_ok : ∀ k, k < 13 → parseFieldDescriptor (TX4 k).2.2.1 = some (tyX4 k) := by decide +kernel
abbrev cX4_init : ByteArray := prog_6_method_1_code
def yX4_init : MethodName := ⟨RX4, "<init>", "()V"⟩
abbrev cX4_run : ByteArray := prog_6_method_2_code
def yX4_run : MethodName := ⟨RX4, "run", "(LSplitChannel$Course;III)I"⟩
abbrev cX4_welcome : ByteArray := prog_6_method_3_code
def yX4_welcome : MethodName := ⟨RX4, "welcome", "(I)V"⟩
abbrev cX4_playByGroups : ByteArray := prog_6_method_4_code
def yX4_playByGroups : MethodName := ⟨RX4, "playByGroups", "(I)V"⟩
abbrev cX4_maySkip : ByteArray := prog_6_method_5_code
def yX4_maySkip : MethodName := ⟨RX4, "maySkip", "()Z"⟩
abbrev cX4_beginEpoch : ByteArray := prog_6_method_6_code
def yX4_beginEpoch : MethodName := ⟨RX4, "beginEpoch", "(I)V"⟩
abbrev cX4_endEpoch : ByteArray := prog_6_method_7_code
def yX4_endEpoch : MethodName := ⟨RX4, "endEpoch", "(I)V"⟩
abbrev cX4_within : ByteArray := prog_6_method_8_code
def yX4_within : MethodName := ⟨RX4, "within", "(III)I"⟩
abbrev cX4_splitTop : ByteArray := prog_6_method_9_code
def yX4_splitTop : MethodName := ⟨RX4, "splitTop", "()V"⟩
abbrev cX4_takeBits : ByteArray := prog_6_method_10_code
def yX4_takeBits : MethodName := ⟨RX4, "takeBits", "(I)I"⟩
abbrev cX4_nextBit : ByteArray := prog_6_method_11_code
def yX4_nextBit : MethodName := ⟨RX4, "nextBit", "(I)I"⟩
abbrev cX4_listen : ByteArray := prog_6_method_12_code
def yX4_listen : MethodName := ⟨RX4, "listen", "(II)I"⟩
abbrev cX4_heardAt : ByteArray := prog_6_method_13_code
def yX4_heardAt : MethodName := ⟨RX4, "heardAt", "(II)I"⟩
abbrev cX4_playByCounters : ByteArray := prog_6_method_14_code
def yX4_playByCounters : MethodName := ⟨RX4, "playByCounters", "(I)V"⟩
abbrev cX4_counterBehind : ByteArray := prog_6_method_15_code
def yX4_counterBehind : MethodName := ⟨RX4, "counterBehind", "(IZZ)I"⟩
def RX5 : String := "SplitChannel$Reader"
def TX5 : u_T := fun k => match k with
  | 0 => ("SplitChannel$Reader", "tape", "LSplitChannel$Tape;", true)
  | 1 => ("SplitChannel$Reader", "draft", "LSplitChannel$Plan;", true)
  | 2 => ("SplitChannel$Reader", "kind", "I", false)
  | 3 => ("SplitChannel$Reader", "start", "I", false)
  | 4 => ("SplitChannel$Reader", "next", "I", false)
  | 5 => ("SplitChannel$Reader", "value", "I", false)
  | 6 => ("SplitChannel$Reader", "fault", "I", false)
  | _ => ("SplitChannel$Reader", "place", "I", false)
def tyX5 : Nat → FieldType := fun k => match k with
  | 0 => .object "SplitChannel$Tape"
  | 1 => .object "SplitChannel$Plan"
  | 2 => .int
  | 3 => .int
  | 4 => .int
  | 5 => .int
  | 6 => .int
  | _ => .int
abbrev wsX50 : List Cond := u_ws RX5 TX5 8
theorem nmX5 : ∀ a, a < 8 → ∀ b, b < 8 → a ≠ b → (TX5 a).2.1 ≠ (TX5 b).2.1 := by decide +kernel
theorem tyX5_ok : ∀ k, k < 8 → parseFieldDescriptor (TX5 k).2.2.1 = some (tyX5 k) := by decide +kernel
abbrev cX5_init : ByteArray := prog_7_method_1_code
def yX5_init : MethodName := ⟨RX5, "<init>", "()V"⟩
abbrev cX5_read : ByteArray := prog_7_method_2_code
def yX5_read : MethodName := ⟨RX5, "read", "()Z"⟩
abbrev cX5_readLine : ByteArray := prog_7_method_3_code
def yX5_readLine : MethodName := ⟨RX5, "readLine", "()Z"⟩
abbrev cX5_readChannel : ByteArray := prog_7_method_4_code
def yX5_readChannel : MethodName := ⟨RX5, "readChannel", "()Z"⟩
abbrev cX5_readSender : ByteArray := prog_7_method_5_code
def yX5_readSender : MethodName := ⟨RX5, "readSender", "()Z"⟩
abbrev cX5_readNoise : ByteArray := prog_7_method_6_code
def yX5_readNoise : MethodName := ⟨RX5, "readNoise", "()Z"⟩
abbrev cX5_readWord : ByteArray := prog_7_method_7_code
def yX5_readWord : MethodName := ⟨RX5, "readWord", "(Ljava/lang/String;)Z"⟩
abbrev cX5_readNumber : ByteArray := prog_7_method_8_code
def yX5_readNumber : MethodName := ⟨RX5, "readNumber", "(II)Z"⟩
abbrev cX5_readBits : ByteArray := prog_7_method_9_code
def yX5_readBits : MethodName := ⟨RX5, "readBits", "()Z"⟩
abbrev cX5_readKind : ByteArray := prog_7_method_10_code
def yX5_readKind : MethodName := ⟨RX5, "readKind", "()Z"⟩
abbrev cX5_readSign : ByteArray := prog_7_method_11_code
def yX5_readSign : MethodName := ⟨RX5, "readSign", "()Z"⟩
abbrev cX5_refuse : ByteArray := prog_7_method_12_code
def yX5_refuse : MethodName := ⟨RX5, "refuse", "(I)Z"⟩
abbrev cX5_isWord : ByteArray := prog_7_method_13_code
def yX5_isWord : MethodName := ⟨RX5, "isWord", "(Ljava/lang/String;)Z"⟩
abbrev cX5_step : ByteArray := prog_7_method_14_code
def yX5_step : MethodName := ⟨RX5, "step", "()V"⟩
abbrev cX5_isBlank : ByteArray := prog_7_method_15_code
def yX5_isBlank : MethodName := ⟨RX5, "isBlank", "(I)Z"⟩
abbrev cX5_kindOf : ByteArray := prog_7_method_16_code
def yX5_kindOf : MethodName := ⟨RX5, "kindOf", "(I)I"⟩
def RX6 : String := "SplitChannel$Stack"
def TX6 : u_T := fun k => match k with
  | 0 => ("SplitChannel$Stack", "who", "[I", true)
  | 1 => ("SplitChannel$Stack", "from", "[I", true)
  | 2 => ("SplitChannel$Stack", "to", "[I", true)
  | _ => ("SplitChannel$Stack", "size", "I", false)
def tyX6 : Nat → FieldType := fun k => match k with
  | 0 => .array .int
  | 1 => .array .int
  | 2 => .array .int
  | _ => .int
abbrev wsX60 : List Cond := u_ws RX6 TX6 4
theorem nmX6 : ∀ a, a < 4 → ∀ b, b < 4 → a ≠ b → (TX6 a).2.1 ≠ (TX6 b).2.1 := by decide +kernel
theorem tyX6_ok : ∀ k, k < 4 → parseFieldDescriptor (TX6 k).2.2.1 = some (tyX6 k) := by decide +kernel
abbrev cX6_init : ByteArray := prog_8_method_1_code
def yX6_init : MethodName := ⟨RX6, "<init>", "()V"⟩
abbrev cX6_push : ByteArray := prog_8_method_2_code
def yX6_push : MethodName := ⟨RX6, "push", "(III)V"⟩
abbrev cX6_pop : ByteArray := prog_8_method_3_code
def yX6_pop : MethodName := ⟨RX6, "pop", "()V"⟩
abbrev cX6_topWho : ByteArray := prog_8_method_4_code
def yX6_topWho : MethodName := ⟨RX6, "topWho", "()I"⟩
def RX7 : String := "SplitChannel$Tape"
def TX7 : u_T := fun k => match k with
  | 0 => ("SplitChannel$Tape", "bytes", "[I", true)
  | _ => ("SplitChannel$Tape", "length", "I", false)
def tyX7 : Nat → FieldType := fun k => match k with
  | 0 => .array .int
  | _ => .int
abbrev wsX70 : List Cond := u_ws RX7 TX7 2
theorem nmX7 : ∀ a, a < 2 → ∀ b, b < 2 → a ≠ b → (TX7 a).2.1 ≠ (TX7 b).2.1 := by decide +kernel
theorem tyX7_ok : ∀ k, k < 2 → parseFieldDescriptor (TX7 k).2.2.1 = some (tyX7 k) := by decide +kernel
abbrev cX7_init : ByteArray := prog_9_method_1_code
def yX7_init : MethodName := ⟨RX7, "<init>", "()V"⟩
abbrev cX7_append : ByteArray := prog_9_method_2_code
def yX7_append : MethodName := ⟨RX7, "append", "(I)V"⟩
def RX8 : String := "SplitChannel"
def TX8 : u_T := fun k => match k with
  | 0 => ("SplitChannel", "reader", "LSplitChannel$Reader;", true)
  | 1 => ("SplitChannel", "tape", "LSplitChannel$Tape;", true)
  | 2 => ("SplitChannel", "draft", "LSplitChannel$Plan;", true)
  | 3 => ("SplitChannel", "play", "LSplitChannel$Play;", true)
  | 4 => ("SplitChannel", "plan", "LSplitChannel$Plan;", true)
  | 5 => ("SplitChannel", "now", "LSplitChannel$Course;", true)
  | 6 => ("SplitChannel", "other", "LSplitChannel$Course;", true)
  | 7 => ("SplitChannel", "acts", "LSplitChannel$Acts;", true)
  | _ => ("SplitChannel", "means", "LSplitChannel$Means;", true)
def tyX8 : Nat → FieldType := fun k => match k with
  | 0 => .object "SplitChannel$Reader"
  | 1 => .object "SplitChannel$Tape"
  | 2 => .object "SplitChannel$Plan"
  | 3 => .object "SplitChannel$Play"
  | 4 => .object "SplitChannel$Plan"
  | 5 => .object "SplitChannel$Course"
  | 6 => .object "SplitChannel$Course"
  | 7 => .object "SplitChannel$Acts"
  | _ => .object "SplitChannel$Means"
abbrev wsX80 : List Cond := u_ws RX8 TX8 9
theorem nmX8 : ∀ a, a < 9 → ∀ b, b < 9 → a ≠ b → (TX8 a).2.1 ≠ (TX8 b).2.1 := by decide +kernel
theorem tyX8_ok : ∀ k, k < 9 → parseFieldDescriptor (TX8 k).2.2.1 = some (tyX8 k) := by decide +kernel
abbrev cX8_init : ByteArray := prog_1_method_1_code
def yX8_init : MethodName := ⟨RX8, "<init>", "()V"⟩
abbrev cX8_feed : ByteArray := prog_1_method_2_code
def yX8_feed : MethodName := ⟨RX8, "feed", "(IIIII)I"⟩
abbrev cX8_end : ByteArray := prog_1_method_3_code
def yX8_end : MethodName := ⟨RX8, "end", "(I)I"⟩
abbrev cX8_channel : ByteArray := prog_1_method_4_code
def yX8_channel : MethodName := ⟨RX8, "channel", "()I"⟩
abbrev cX8_count : ByteArray := prog_1_method_6_code
def yX8_count : MethodName := ⟨RX8, "count", "(I)I"⟩
abbrev cX8_slot : ByteArray := prog_1_method_8_code
def yX8_slot : MethodName := ⟨RX8, "slot", "(II)I"⟩
abbrev cX8_sends : ByteArray := prog_1_method_9_code
def yX8_sends : MethodName := ⟨RX8, "sends", "(II)I"⟩
abbrev cX8_delivered : ByteArray := prog_1_method_10_code
def yX8_delivered : MethodName := ⟨RX8, "delivered", "(I)I"⟩
abbrev cX8_tries : ByteArray := prog_1_method_11_code
def yX8_tries : MethodName := ⟨RX8, "tries", "(I)I"⟩
abbrev cX8_taken : ByteArray := prog_1_method_12_code
def yX8_taken : MethodName := ⟨RX8, "taken", "(I)I"⟩
abbrev cX8_order : ByteArray := prog_1_method_13_code
def yX8_order : MethodName := ⟨RX8, "order", "(I)I"⟩
abbrev cX8_all : ByteArray := prog_1_method_14_code
def yX8_all : MethodName := ⟨RX8, "all", "()I"⟩
abbrev cX8_done : ByteArray := prog_1_method_15_code
def yX8_done : MethodName := ⟨RX8, "done", "()I"⟩
abbrev cX8_heard : ByteArray := prog_1_method_16_code
def yX8_heard : MethodName := ⟨RX8, "heard", "(I)I"⟩
abbrev cX8_collided : ByteArray := prog_1_method_17_code
def yX8_collided : MethodName := ⟨RX8, "collided", "()I"⟩
abbrev cX8_skips : ByteArray := prog_1_method_18_code
def yX8_skips : MethodName := ⟨RX8, "skips", "()I"⟩
abbrev cX8_deepest : ByteArray := prog_1_method_19_code
def yX8_deepest : MethodName := ⟨RX8, "deepest", "()I"⟩
abbrev cX8_epochs : ByteArray := prog_1_method_20_code
def yX8_epochs : MethodName := ⟨RX8, "epochs", "()I"⟩
abbrev cX8_by : ByteArray := prog_1_method_23_code
def yX8_by : MethodName := ⟨RX8, "by", "(II)I"⟩
abbrev cX8_rule : ByteArray := prog_1_method_34_code
def yX8_rule : MethodName := ⟨RX8, "rule", "(I)I"⟩
abbrev cX8_undo : ByteArray := prog_1_method_35_code
def yX8_undo : MethodName := ⟨RX8, "undo", "()I"⟩
abbrev cX8_isLaw : ByteArray := prog_1_method_37_code
def yX8_isLaw : MethodName := ⟨RX8, "isLaw", "(I)Z"⟩
abbrev cX8_at : ByteArray := prog_1_method_40_code
def yX8_at : MethodName := ⟨RX8, "at", "([II)I"⟩
abbrev cX8_put : ByteArray := prog_1_method_41_code
def yX8_put : MethodName := ⟨RX8, "put", "([III)V"⟩
def RX9 : String := "SplitChannelLaw$Channel"
def TX9 : u_T := fun k => match k with
  | 0 => ("SplitChannelLaw$Channel", "law", "I", true)
  | 1 => ("SplitChannelLaw$Channel", "slots", "I", true)
  | 2 => ("SplitChannelLaw$Channel", "senders", "I", true)
  | 3 => ("SplitChannelLaw$Channel", "noises", "I", true)
  | 4 => ("SplitChannelLaw$Channel", "when", "[I", true)
  | 5 => ("SplitChannelLaw$Channel", "at", "[I", true)
  | 6 => ("SplitChannelLaw$Channel", "as", "[I", true)
  | 7 => ("SplitChannelLaw$Channel", "bits", "[Ljava/lang/String;", true)
  | _ => ("SplitChannelLaw$Channel", "text", "Ljava/lang/String;", false)
def tyX9 : Nat → FieldType := fun k => match k with
  | 0 => .int
  | 1 => .int
  | 2 => .int
  | 3 => .int
  | 4 => .array .int
  | 5 => .array .int
  | 6 => .array .int
  | 7 => .array (.object "java/lang/String")
  | _ => .object "java/lang/String"
abbrev wsX90 : List Cond := u_ws RX9 TX9 9
theorem nmX9 : ∀ a, a < 9 → ∀ b, b < 9 → a ≠ b → (TX9 a).2.1 ≠ (TX9 b).2.1 := by decide +kernel
theorem tyX9_ok : ∀ k, k < 9 → parseFieldDescriptor (TX9 k).2.2.1 = some (tyX9 k) := by decide +kernel
abbrev cX9_init : ByteArray := prog_11_method_1_code
def yX9_init : MethodName := ⟨RX9, "<init>", "([IZ)V"⟩
abbrev cX9_heard : ByteArray := prog_11_method_2_code
def yX9_heard : MethodName := ⟨RX9, "heard", "(II)I"⟩
def RX10 : String := "SplitChannelModel"
def TX10 : u_T := fun k => match k with
  | _ => ("", "", "", false)
def tyX10 : Nat → FieldType := fun k => match k with
  | _ => .int
abbrev wsX100 : List Cond := u_ws RX10 TX10 0
theorem nmX10 : ∀ a, a < 0 → ∀ b, b < 0 → a ≠ b → (TX10 a).2.1 ≠ (TX10 b).2.1 := by decide +kernel
theorem tyX10_ok : ∀ k, k < 0 → parseFieldDescriptor (TX10 k).2.2.1 = some (tyX10 k) := by decide +kernel
def RJx145de : String := "java/io/Serializable"
def TJx145de : u_T := fun k => match k with
  | _ => ("", "", "", false)
def tyJx145de : Nat → FieldType := fun k => match k with
  | _ => .int
abbrev wsJx145de0 : List Cond := u_ws RJx145de TJx145de 0
theorem nmJx145de : ∀ a, a < 0 → ∀ b, b < 0 → a ≠ b → (TJx145de a).2.1 ≠ (TJx145de b).2.1 := by decide +kernel
theorem tyJx145de_ok : ∀ k, k < 0 → parseFieldDescriptor (TJx145de k).2.2.1 = some (tyJx145de k) := by decide +kernel
def RJ5 : String := "java/lang/AbstractStringBuilder"
def TJ5 : u_T := fun k => match k with
  | _ => ("", "", "", false)
def tyJ5 : Nat → FieldType := fun k => match k with
  | _ => .int
abbrev wsJ50 : List Cond := u_ws RJ5 TJ5 0
theorem nmJ5 : ∀ a, a < 0 → ∀ b, b < 0 → a ≠ b → (TJ5 a).2.1 ≠ (TJ5 b).2.1 := by decide +kernel
theorem tyJ5_ok : ∀ k, k < 0 → parseFieldDescriptor (TJ5 k).2.2.1 = some (tyJ5 k) := by decide +kernel
abbrev cJ5_init_d00df : ByteArray := prog_13_method_2_code
def yJ5_init_d00df : MethodName := ⟨RJ5, "<init>", "(I)V"⟩
abbrev cJ5_length_8abf5 : ByteArray := prog_13_method_6_code
def yJ5_length_8abf5 : MethodName := ⟨RJ5, "length", "()I"⟩
abbrev cJ5_ensureCapacityInternal_d00df : ByteArray := prog_13_method_9_code
def yJ5_ensureCapacityInternal_d00df : MethodName := ⟨RJ5, "ensureCapacityInternal", "(I)V"⟩
abbrev cJ5_newCapacity_0f7a4 : ByteArray := prog_13_method_10_code
def yJ5_newCapacity_0f7a4 : MethodName := ⟨RJ5, "newCapacity", "(I)I"⟩
abbrev cJ5_inflate_da8c8 : ByteArray := prog_13_method_11_code
def yJ5_inflate_da8c8 : MethodName := ⟨RJ5, "inflate", "()V"⟩
abbrev cJ5_append_cf1ce : ByteArray := prog_13_method_22_code
def yJ5_append_cf1ce : MethodName := ⟨RJ5, "append", "(Ljava/lang/String;)Ljava/lang/AbstractStringBuilder;"⟩
abbrev cJ5_appendNull_278bc : ByteArray := prog_13_method_26_code
def yJ5_appendNull_278bc : MethodName := ⟨RJ5, "appendNull", "()Ljava/lang/AbstractStringBuilder;"⟩
abbrev cJ5_append_c97b9 : ByteArray := prog_13_method_32_code
def yJ5_append_c97b9 : MethodName := ⟨RJ5, "append", "(I)Ljava/lang/AbstractStringBuilder;"⟩
abbrev cJ5_getValue_6d5f1 : ByteArray := prog_13_method_64_code
def yJ5_getValue_6d5f1 : MethodName := ⟨RJ5, "getValue", "()[B"⟩
abbrev cJ5_isLatin1_aae02 : ByteArray := prog_13_method_68_code
def yJ5_isLatin1_aae02 : MethodName := ⟨RJ5, "isLatin1", "()Z"⟩
abbrev cJ5_inflateIfNeededFor_a7421 : ByteArray := prog_13_method_71_code
def yJ5_inflateIfNeededFor_a7421 : MethodName := ⟨RJ5, "inflateIfNeededFor", "(Ljava/lang/String;)V"⟩
abbrev cJ5_putStringAt_47b60 : ByteArray := prog_13_method_73_code
def yJ5_putStringAt_47b60 : MethodName := ⟨RJ5, "putStringAt", "(ILjava/lang/String;)V"⟩
def RJx2cfe8 : String := "java/lang/Appendable"
def TJx2cfe8 : u_T := fun k => match k with
  | _ => ("", "", "", false)
def tyJx2cfe8 : Nat → FieldType := fun k => match k with
  | _ => .int
abbrev wsJx2cfe80 : List Cond := u_ws RJx2cfe8 TJx2cfe8 0
theorem nmJx2cfe8 : ∀ a, a < 0 → ∀ b, b < 0 → a ≠ b → (TJx2cfe8 a).2.1 ≠ (TJx2cfe8 b).2.1 := by decide +kernel
theorem tyJx2cfe8_ok : ∀ k, k < 0 → parseFieldDescriptor (TJx2cfe8 k).2.2.1 = some (tyJx2cfe8 k) := by decide +kernel
def RJx9f9b0 : String := "java/lang/CharSequence"
def TJx9f9b0 : u_T := fun k => match k with
  | _ => ("", "", "", false)
def tyJx9f9b0 : Nat → FieldType := fun k => match k with
  | _ => .int
abbrev wsJx9f9b00 : List Cond := u_ws RJx9f9b0 TJx9f9b0 0
theorem nmJx9f9b0 : ∀ a, a < 0 → ∀ b, b < 0 → a ≠ b → (TJx9f9b0 a).2.1 ≠ (TJx9f9b0 b).2.1 := by decide +kernel
theorem tyJx9f9b0_ok : ∀ k, k < 0 → parseFieldDescriptor (TJx9f9b0 k).2.2.1 = some (tyJx9f9b0 k) := by decide +kernel
def RJx8e188 : String := "java/lang/Cloneable"
def TJx8e188 : u_T := fun k => match k with
  | _ => ("", "", "", false)
def tyJx8e188 : Nat → FieldType := fun k => match k with
  | _ => .int
abbrev wsJx8e1880 : List Cond := u_ws RJx8e188 TJx8e188 0
theorem nmJx8e188 : ∀ a, a < 0 → ∀ b, b < 0 → a ≠ b → (TJx8e188 a).2.1 ≠ (TJx8e188 b).2.1 := by decide +kernel
theorem tyJx8e188_ok : ∀ k, k < 0 → parseFieldDescriptor (TJx8e188 k).2.2.1 = some (tyJx8e188 k) := by decide +kernel
def RJxb160c : String := "java/lang/Comparable"
def TJxb160c : u_T := fun k => match k with
  | _ => ("", "", "", false)
def tyJxb160c : Nat → FieldType := fun k => match k with
  | _ => .int
abbrev wsJxb160c0 : List Cond := u_ws RJxb160c TJxb160c 0
theorem nmJxb160c : ∀ a, a < 0 → ∀ b, b < 0 → a ≠ b → (TJxb160c a).2.1 ≠ (TJxb160c b).2.1 := by decide +kernel
theorem tyJxb160c_ok : ∀ k, k < 0 → parseFieldDescriptor (TJxb160c k).2.2.1 = some (tyJxb160c k) := by decide +kernel
def RJ6 : String := "java/lang/Integer"
def TJ6 : u_T := fun k => match k with
  | _ => ("", "", "", false)
def tyJ6 : Nat → FieldType := fun k => match k with
  | _ => .int
abbrev wsJ60 : List Cond := u_ws RJ6 TJ6 0
theorem nmJ6 : ∀ a, a < 0 → ∀ b, b < 0 → a ≠ b → (TJ6 a).2.1 ≠ (TJ6 b).2.1 := by decide +kernel
theorem tyJ6_ok : ∀ k, k < 0 → parseFieldDescriptor (TJ6 k).2.2.1 = some (tyJ6 k) := by decide +kernel
abbrev cJ6_getChars_ba4f3 : ByteArray := prog_15_method_12_code
def yJ6_getChars_ba4f3 : MethodName := ⟨RJ6, "getChars", "(II[B)I"⟩
abbrev cJ6_stringSize_0f7a4 : ByteArray := prog_15_method_13_code
def yJ6_stringSize_0f7a4 : MethodName := ⟨RJ6, "stringSize", "(I)I"⟩
abbrev cJ6_bitCount_0f7a4 : ByteArray := prog_15_method_49_code
def yJ6_bitCount_0f7a4 : MethodName := ⟨RJ6, "bitCount", "(I)I"⟩
def RJ9 : String := "java/lang/Math"
def TJ9 : u_T := fun k => match k with
  | _ => ("", "", "", false)
def tyJ9 : Nat → FieldType := fun k => match k with
  | _ => .int
abbrev wsJ90 : List Cond := u_ws RJ9 TJ9 0
theorem nmJ9 : ∀ a, a < 0 → ∀ b, b < 0 → a ≠ b → (TJ9 a).2.1 ≠ (TJ9 b).2.1 := by decide +kernel
theorem tyJ9_ok : ∀ k, k < 0 → parseFieldDescriptor (TJ9 k).2.2.1 = some (tyJ9 k) := by decide +kernel
abbrev cJ9_max_7cf53 : ByteArray := prog_16_method_65_code
def yJ9_max_7cf53 : MethodName := ⟨RJ9, "max", "(II)I"⟩
abbrev cJ9_min_7cf53 : ByteArray := prog_16_method_69_code
def yJ9_min_7cf53 : MethodName := ⟨RJ9, "min", "(II)I"⟩
def RJxd2413 : String := "java/lang/Number"
def TJxd2413 : u_T := fun k => match k with
  | _ => ("", "", "", false)
def tyJxd2413 : Nat → FieldType := fun k => match k with
  | _ => .int
abbrev wsJxd24130 : List Cond := u_ws RJxd2413 TJxd2413 0
theorem nmJxd2413 : ∀ a, a < 0 → ∀ b, b < 0 → a ≠ b → (TJxd2413 a).2.1 ≠ (TJxd2413 b).2.1 := by decide +kernel
theorem tyJxd2413_ok : ∀ k, k < 0 → parseFieldDescriptor (TJxd2413 k).2.2.1 = some (tyJxd2413 k) := by decide +kernel
def RJ0 : String := "java/lang/String"
def TJ0 : u_T := fun k => match k with
  | 0 => ("java/lang/String", "value", "[B", true)
  | 1 => ("java/lang/String", "coder", "B", true)
  | 2 => ("java/lang/String", "hash", "I", false)
  | _ => ("java/lang/String", "hashIsZero", "Z", false)
def tyJ0 : Nat → FieldType := fun k => match k with
  | 0 => .array .byte
  | 1 => .byte
  | 2 => .int
  | _ => .boolean
abbrev wsJ00 : List Cond := u_ws RJ0 TJ0 4
theorem nmJ0 : ∀ a, a < 4 → ∀ b, b < 4 → a ≠ b → (TJ0 a).2.1 ≠ (TJ0 b).2.1 := by decide +kernel
theorem tyJ0_ok : ∀ k, k < 4 → parseFieldDescriptor (TJ0 k).2.2.1 = some (tyJ0 k) := by decide +kernel
abbrev cJ0_init_81219 : ByteArray := prog_18_method_53_code
def yJ0_init_81219 : MethodName := ⟨RJ0, "<init>", "(Ljava/lang/StringBuilder;)V"⟩
abbrev cJ0_length_8abf5 : ByteArray := prog_18_method_54_code
def yJ0_length_8abf5 : MethodName := ⟨RJ0, "length", "()I"⟩
abbrev cJ0_charAt_5068e : ByteArray := prog_18_method_56_code
def yJ0_charAt_5068e : MethodName := ⟨RJ0, "charAt", "(I)C"⟩
abbrev cJ0_getBytes_840e7 : ByteArray := prog_18_method_147_code
def yJ0_getBytes_840e7 : MethodName := ⟨RJ0, "getBytes", "([BIB)V"⟩
abbrev cJ0_init_db425 : ByteArray := prog_18_method_150_code
def yJ0_init_db425 : MethodName := ⟨RJ0, "<init>", "(Ljava/lang/AbstractStringBuilder;Ljava/lang/Void;)V"⟩
abbrev cJ0_coder_7d493 : ByteArray := prog_18_method_152_code
def yJ0_coder_7d493 : MethodName := ⟨RJ0, "coder", "()B"⟩
abbrev cJ0_isLatin1_aae02 : ByteArray := prog_18_method_154_code
def yJ0_isLatin1_aae02 : MethodName := ⟨RJ0, "isLatin1", "()Z"⟩
abbrev cJ0_checkIndex_df160 : ByteArray := prog_18_method_155_code
def yJ0_checkIndex_df160 : MethodName := ⟨RJ0, "checkIndex", "(II)V"⟩
abbrev cJ0_checkBoundsOffCount_cabcc : ByteArray := prog_18_method_157_code
def yJ0_checkBoundsOffCount_cabcc : MethodName := ⟨RJ0, "checkBoundsOffCount", "(III)I"⟩
abbrev cJ0_checkBoundsBeginEnd_23922 : ByteArray := prog_18_method_158_code
def yJ0_checkBoundsBeginEnd_23922 : MethodName := ⟨RJ0, "checkBoundsBeginEnd", "(III)V"⟩
def RJ4 : String := "java/lang/StringBuilder"
def TJ4 : u_T := fun k => match k with
  | 0 => ("java/lang/AbstractStringBuilder", "value", "[B", false)
  | 1 => ("java/lang/AbstractStringBuilder", "coder", "B", false)
  | 2 => ("java/lang/AbstractStringBuilder", "maybeLatin1", "Z", false)
  | _ => ("java/lang/AbstractStringBuilder", "count", "I", false)
def tyJ4 : Nat → FieldType := fun k => match k with
  | 0 => .array .byte
  | 1 => .byte
  | 2 => .boolean
  | _ => .int
abbrev wsJ40 : List Cond := u_ws RJ4 TJ4 4
theorem nmJ4 : ∀ a, a < 4 → ∀ b, b < 4 → a ≠ b → (TJ4 a).2.1 ≠ (TJ4 b).2.1 := by decide +kernel
theorem tyJ4_ok : ∀ k, k < 4 → parseFieldDescriptor (TJ4 k).2.2.1 = some (tyJ4 k) := by decide +kernel
abbrev cJ4_init_da8c8 : ByteArray := prog_19_method_1_code
def yJ4_init_da8c8 : MethodName := ⟨RJ4, "<init>", "()V"⟩
abbrev cJ4_append_15ec4 : ByteArray := prog_19_method_7_code
def yJ4_append_15ec4 : MethodName := ⟨RJ4, "append", "(Ljava/lang/String;)Ljava/lang/StringBuilder;"⟩
abbrev cJ4_append_bf812 : ByteArray := prog_19_method_15_code
def yJ4_append_bf812 : MethodName := ⟨RJ4, "append", "(I)Ljava/lang/StringBuilder;"⟩
abbrev cJ4_toString_0e30d : ByteArray := prog_19_method_42_code
def yJ4_toString_0e30d : MethodName := ⟨RJ4, "toString", "()Ljava/lang/String;"⟩
abbrev cJ4_length_8abf5 : ByteArray := prog_19_method_93_code
def yJ4_length_8abf5 : MethodName := ⟨RJ4, "length", "()I"⟩
def RJ1 : String := "java/lang/StringLatin1"
def TJ1 : u_T := fun k => match k with
  | _ => ("", "", "", false)
def tyJ1 : Nat → FieldType := fun k => match k with
  | _ => .int
abbrev wsJ10 : List Cond := u_ws RJ1 TJ1 0
theorem nmJ1 : ∀ a, a < 0 → ∀ b, b < 0 → a ≠ b → (TJ1 a).2.1 ≠ (TJ1 b).2.1 := by decide +kernel
theorem tyJ1_ok : ∀ k, k < 0 → parseFieldDescriptor (TJ1 k).2.2.1 = some (tyJ1 k) := by decide +kernel
abbrev cJ1_charAt_3b067 : ByteArray := prog_20_method_2_code
def yJ1_charAt_3b067 : MethodName := ⟨RJ1, "charAt", "([BI)C"⟩
abbrev cJ1_inflate_0e8fd : ByteArray := prog_20_method_50_code
def yJ1_inflate_0e8fd : MethodName := ⟨RJ1, "inflate", "([BI[BII)V"⟩
def RJ2 : String := "java/lang/StringUTF16"
def TJ2 : u_T := fun k => match k with
  | _ => ("", "", "", false)
def tyJ2 : Nat → FieldType := fun k => match k with
  | _ => .int
abbrev wsJ20 : List Cond := u_ws RJ2 TJ2 0
theorem nmJ2 : ∀ a, a < 0 → ∀ b, b < 0 → a ≠ b → (TJ2 a).2.1 ≠ (TJ2 b).2.1 := by decide +kernel
theorem tyJ2_ok : ∀ k, k < 0 → parseFieldDescriptor (TJ2 k).2.2.1 = some (tyJ2 k) := by decide +kernel
abbrev cJ2_newBytesFor_77867 : ByteArray := prog_21_method_2_code
def yJ2_newBytesFor_77867 : MethodName := ⟨RJ2, "newBytesFor", "(I)[B"⟩
abbrev cJ2_newBytesLength_0f7a4 : ByteArray := prog_21_method_3_code
def yJ2_newBytesLength_0f7a4 : MethodName := ⟨RJ2, "newBytesLength", "(I)I"⟩
abbrev cJ2_putChar_b72d1 : ByteArray := prog_21_method_4_code
def yJ2_putChar_b72d1 : MethodName := ⟨RJ2, "putChar", "([BII)V"⟩
abbrev cJ2_getChar_3b067 : ByteArray := prog_21_method_5_code
def yJ2_getChar_3b067 : MethodName := ⟨RJ2, "getChar", "([BI)C"⟩
abbrev cJ2_length_9d52b : ByteArray := prog_21_method_6_code
def yJ2_length_9d52b : MethodName := ⟨RJ2, "length", "([B)I"⟩
abbrev cJ2_coderFromArrayLen_85cad : ByteArray := prog_21_method_15_code
def yJ2_coderFromArrayLen_85cad : MethodName := ⟨RJ2, "coderFromArrayLen", "([BI)B"⟩
abbrev cJ2_compress_39247 : ByteArray := prog_21_method_17_code
def yJ2_compress_39247 : MethodName := ⟨RJ2, "compress", "([BII)[B"⟩
abbrev cJ2_compress_5af95 : ByteArray := prog_21_method_22_code
def yJ2_compress_5af95 : MethodName := ⟨RJ2, "compress", "([BI[BII)I"⟩
abbrev cJ2_getChars_46870 : ByteArray := prog_21_method_77_code
def yJ2_getChars_46870 : MethodName := ⟨RJ2, "getChars", "(III[B)I"⟩
abbrev cJ2_putCharsAt_cd4e5 : ByteArray := prog_21_method_81_code
def yJ2_putCharsAt_cd4e5 : MethodName := ⟨RJ2, "putCharsAt", "([BICCCC)I"⟩
abbrev cJ2_charAt_3b067 : ByteArray := prog_21_method_83_code
def yJ2_charAt_3b067 : MethodName := ⟨RJ2, "charAt", "([BI)C"⟩
abbrev cJ2_inflate_0e8fd : ByteArray := prog_21_method_86_code
def yJ2_inflate_0e8fd : MethodName := ⟨RJ2, "inflate", "([BI[BII)V"⟩
abbrev cJ2_getChars_ba4f3 : ByteArray := prog_21_method_89_code
def yJ2_getChars_ba4f3 : MethodName := ⟨RJ2, "getChars", "(II[B)I"⟩
abbrev cJ2_checkIndex_2214a : ByteArray := prog_21_method_91_code
def yJ2_checkIndex_2214a : MethodName := ⟨RJ2, "checkIndex", "(I[B)V"⟩
abbrev cJ2_checkBoundsBeginEnd_d044e : ByteArray := prog_21_method_93_code
def yJ2_checkBoundsBeginEnd_d044e : MethodName := ⟨RJ2, "checkBoundsBeginEnd", "(II[B)V"⟩
abbrev cJ2_checkBoundsOffCount_d044e : ByteArray := prog_21_method_94_code
def yJ2_checkBoundsOffCount_d044e : MethodName := ⟨RJ2, "checkBoundsOffCount", "(II[B)V"⟩
def RJ10 : String := "java/lang/System"
def TJ10 : u_T := fun k => match k with
  | _ => ("", "", "", false)
def tyJ10 : Nat → FieldType := fun k => match k with
  | _ => .int
abbrev wsJ100 : List Cond := u_ws RJ10 TJ10 0
theorem nmJ10 : ∀ a, a < 0 → ∀ b, b < 0 → a ≠ b → (TJ10 a).2.1 ≠ (TJ10 b).2.1 := by decide +kernel
theorem tyJ10_ok : ∀ k, k < 0 → parseFieldDescriptor (TJ10 k).2.2.1 = some (tyJ10 k) := by decide +kernel
def RJxfd54e : String := "java/lang/constant/Constable"
def TJxfd54e : u_T := fun k => match k with
  | _ => ("", "", "", false)
def tyJxfd54e : Nat → FieldType := fun k => match k with
  | _ => .int
abbrev wsJxfd54e0 : List Cond := u_ws RJxfd54e TJxfd54e 0
theorem nmJxfd54e : ∀ a, a < 0 → ∀ b, b < 0 → a ≠ b → (TJxfd54e a).2.1 ≠ (TJxfd54e b).2.1 := by decide +kernel
theorem tyJxfd54e_ok : ∀ k, k < 0 → parseFieldDescriptor (TJxfd54e k).2.2.1 = some (tyJxfd54e k) := by decide +kernel
def RJx3cf43 : String := "java/lang/constant/ConstantDesc"
def TJx3cf43 : u_T := fun k => match k with
  | _ => ("", "", "", false)
def tyJx3cf43 : Nat → FieldType := fun k => match k with
  | _ => .int
abbrev wsJx3cf430 : List Cond := u_ws RJx3cf43 TJx3cf43 0
theorem nmJx3cf43 : ∀ a, a < 0 → ∀ b, b < 0 → a ≠ b → (TJx3cf43 a).2.1 ≠ (TJx3cf43 b).2.1 := by decide +kernel
theorem tyJx3cf43_ok : ∀ k, k < 0 → parseFieldDescriptor (TJx3cf43 k).2.2.1 = some (tyJx3cf43 k) := by decide +kernel
def RJ7 : String := "java/util/Arrays"
def TJ7 : u_T := fun k => match k with
  | _ => ("", "", "", false)
def tyJ7 : Nat → FieldType := fun k => match k with
  | _ => .int
abbrev wsJ70 : List Cond := u_ws RJ7 TJ7 0
theorem nmJ7 : ∀ a, a < 0 → ∀ b, b < 0 → a ≠ b → (TJ7 a).2.1 ≠ (TJ7 b).2.1 := by decide +kernel
theorem tyJ7_ok : ∀ k, k < 0 → parseFieldDescriptor (TJ7 k).2.2.1 = some (tyJ7 k) := by decide +kernel
abbrev cJ7_fill_53178 : ByteArray := prog_23_method_103_code
def yJ7_fill_53178 : MethodName := ⟨RJ7, "fill", "([II)V"⟩
abbrev cJ7_copyOf_9075b : ByteArray := prog_23_method_121_code
def yJ7_copyOf_9075b : MethodName := ⟨RJ7, "copyOf", "([BI)[B"⟩
abbrev cJ7_checkLength_df160 : ByteArray := prog_23_method_131_code
def yJ7_checkLength_df160 : MethodName := ⟨RJ7, "checkLength", "(II)V"⟩
abbrev cJ7_copyOfRange_39247 : ByteArray := prog_23_method_132_code
def yJ7_copyOfRange_39247 : MethodName := ⟨RJ7, "copyOfRange", "([BII)[B"⟩
abbrev cJ7_copyOfRangeByte_39247 : ByteArray := prog_23_method_133_code
def yJ7_copyOfRangeByte_39247 : MethodName := ⟨RJ7, "copyOfRangeByte", "([BII)[B"⟩
def RJ8 : String := "jdk/internal/util/ArraysSupport"
def TJ8 : u_T := fun k => match k with
  | _ => ("", "", "", false)
def tyJ8 : Nat → FieldType := fun k => match k with
  | _ => .int
abbrev wsJ80 : List Cond := u_ws RJ8 TJ8 0
theorem nmJ8 : ∀ a, a < 0 → ∀ b, b < 0 → a ≠ b → (TJ8 a).2.1 ≠ (TJ8 b).2.1 := by decide +kernel
theorem tyJ8_ok : ∀ k, k < 0 → parseFieldDescriptor (TJ8 k).2.2.1 = some (tyJ8 k) := by decide +kernel
abbrev cJ8_newLength_cabcc : ByteArray := prog_24_method_27_code
def yJ8_newLength_cabcc : MethodName := ⟨RJ8, "newLength", "(III)I"⟩
abbrev cJ8_hugeLength_7cf53 : ByteArray := prog_24_method_28_code
def yJ8_hugeLength_7cf53 : MethodName := ⟨RJ8, "hugeLength", "(II)I"⟩
def RJ3 : String := "jdk/internal/util/Preconditions"
def TJ3 : u_T := fun k => match k with
  | _ => ("", "", "", false)
def tyJ3 : Nat → FieldType := fun k => match k with
  | _ => .int
abbrev wsJ30 : List Cond := u_ws RJ3 TJ3 0
theorem nmJ3 : ∀ a, a < 0 → ∀ b, b < 0 → a ≠ b → (TJ3 a).2.1 ≠ (TJ3 b).2.1 := by decide +kernel
theorem tyJ3_ok : ∀ k, k < 0 → parseFieldDescriptor (TJ3 k).2.2.1 = some (tyJ3 k) := by decide +kernel
abbrev cJ3_checkIndex_8e157 : ByteArray := prog_25_method_11_code
def yJ3_checkIndex_8e157 : MethodName := ⟨RJ3, "checkIndex", "(IILjava/util/function/BiFunction;)I"⟩
abbrev cJ3_checkFromToIndex_8c36e : ByteArray := prog_25_method_12_code
def yJ3_checkFromToIndex_8c36e : MethodName := ⟨RJ3, "checkFromToIndex", "(IIILjava/util/function/BiFunction;)I"⟩
abbrev cJ3_checkFromIndexSize_8c36e : ByteArray := prog_25_method_13_code
def yJ3_checkFromIndexSize_8c36e : MethodName := ⟨RJ3, "checkFromIndexSize", "(IIILjava/util/function/BiFunction;)I"⟩
def RL : String := "SplitChannelLaw"
abbrev cL_cell : ByteArray := method_2_code
def yL_cell : MethodName := ⟨RL, "cell", "([II)I"⟩
abbrev cL_says : ByteArray := method_3_code
def yL_says : MethodName := ⟨RL, "says", "(LSplitChannel;Ljava/lang/String;)Z"⟩
abbrev cL_isSo : ByteArray := method_4_code
def yL_isSo : MethodName := ⟨RL, "isSo", "(LSplitChannel;LSplitChannelLaw$Channel;)Z"⟩
abbrev cL_isCounted : ByteArray := method_5_code
def yL_isCounted : MethodName := ⟨RL, "isCounted", "(LSplitChannel;LSplitChannelLaw$Channel;)Z"⟩
abbrev cL_law : ByteArray := code
def yL_law : MethodName := ⟨RL, "law", "([I)Z"⟩
set_option maxRecDepth 20000 in
abbrev vwCl : List vw_C := [(RX0, TX0, 3), (RX1, TX1, 14), (RX2, TX2, 5), (RX3, TX3, 12), (RX4, TX4, 13), (RX5, TX5, 8), (RX6, TX6, 4), (RX7, TX7, 2), (RX8, TX8, 9), (RX9, TX9, 9), (RJ0, TJ0, 4), (RJ4, TJ4, 4)]
end
section
theorem dX0_init_0 : decode cX0_init 0 = .ok (.aload_n 0, 1) := by decide +kernel
theorem dX0_init_1 : decode cX0_init 1 = .ok (.invokespecial 3, 3) := by decide +kernel
theorem dX0_init_4 : decode cX0_init 4 = .ok (.aload_n 0, 1) := by decide +kernel
theorem dX0_init_5 : decode cX0_init 5 = .ok (.bipush 20, 2) := by decide +kernel
theorem dX0_init_7 : decode cX0_init 7 = .ok (.newarray .int, 2) := by decide +kernel
theorem dX0_init_9 : decode cX0_init 9 = .ok (.putfield 9, 3) := by decide +kernel
theorem dX0_init_12 : decode cX0_init 12 = .ok (.aload_n 0, 1) := by decide +kernel
theorem dX0_init_13 : decode cX0_init 13 = .ok (.bipush 20, 2) := by decide +kernel
theorem dX0_init_15 : decode cX0_init 15 = .ok (.newarray .int, 2) := by decide +kernel
theorem dX0_init_17 : decode cX0_init 17 = .ok (.putfield 15, 3) := by decide +kernel
theorem dX0_init_20 : decode cX0_init 20 = .ok (.return_, 1) := by decide +kernel
theorem dX0_note_0 : decode cX0_note 0 = .ok (.aload_n 0, 1) := by decide +kernel
theorem dX0_note_1 : decode cX0_note 1 = .ok (.getfield 9, 3) := by decide +kernel
theorem dX0_note_4 : decode cX0_note 4 = .ok (.aload_n 0, 1) := by decide +kernel
theorem dX0_note_5 : decode cX0_note 5 = .ok (.getfield 18, 3) := by decide +kernel
theorem dX0_note_8 : decode cX0_note 8 = .ok (.iload_n 1, 1) := by decide +kernel
theorem dX0_note_9 : decode cX0_note 9 = .ok (.invokestatic 22, 3) := by decide +kernel
theorem dX0_note_12 : decode cX0_note 12 = .ok (.aload_n 0, 1) := by decide +kernel
theorem dX0_note_13 : decode cX0_note 13 = .ok (.getfield 15, 3) := by decide +kernel
theorem dX0_note_16 : decode cX0_note 16 = .ok (.aload_n 0, 1) := by decide +kernel
theorem dX0_note_17 : decode cX0_note 17 = .ok (.getfield 18, 3) := by decide +kernel
theorem dX0_note_20 : decode cX0_note 20 = .ok (.iload_n 2, 1) := by decide +kernel
theorem dX0_note_21 : decode cX0_note 21 = .ok (.invokestatic 22, 3) := by decide +kernel
theorem dX0_note_24 : decode cX0_note 24 = .ok (.aload_n 0, 1) := by decide +kernel
theorem dX0_note_25 : decode cX0_note 25 = .ok (.dup, 1) := by decide +kernel
theorem dX0_note_26 : decode cX0_note 26 = .ok (.getfield 18, 3) := by decide +kernel
theorem dX0_note_29 : decode cX0_note 29 = .ok (.iconst 1, 1) := by decide +kernel
theorem dX0_note_30 : decode cX0_note 30 = .ok (.iadd, 1) := by decide +kernel
theorem dX0_note_31 : decode cX0_note 31 = .ok (.putfield 18, 3) := by decide +kernel
theorem dX0_note_34 : decode cX0_note 34 = .ok (.return_, 1) := by decide +kernel
theorem dX0_takeBack_0 : decode cX0_takeBack 0 = .ok (.aload_n 0, 1) := by decide +kernel
theorem dX0_takeBack_1 : decode cX0_takeBack 1 = .ok (.getfield 18, 3) := by decide +kernel
theorem dX0_takeBack_4 : decode cX0_takeBack 4 = .ok (.ifCond .ne 4, 3) := by decide +kernel
theorem dX0_takeBack_7 : decode cX0_takeBack 7 = .ok (.return_, 1) := by decide +kernel
theorem dX0_takeBack_8 : decode cX0_takeBack 8 = .ok (.aload_n 0, 1) := by decide +kernel
theorem dX0_takeBack_9 : decode cX0_takeBack 9 = .ok (.dup, 1) := by decide +kernel
theorem dX0_takeBack_10 : decode cX0_takeBack 10 = .ok (.getfield 18, 3) := by decide +kernel
theorem dX0_takeBack_13 : decode cX0_takeBack 13 = .ok (.iconst 1, 1) := by decide +kernel
theorem dX0_takeBack_14 : decode cX0_takeBack 14 = .ok (.isub, 1) := by decide +kernel
theorem dX0_takeBack_15 : decode cX0_takeBack 15 = .ok (.putfield 18, 3) := by decide +kernel
theorem dX0_takeBack_18 : decode cX0_takeBack 18 = .ok (.aload_n 0, 1) := by decide +kernel
theorem dX0_takeBack_19 : decode cX0_takeBack 19 = .ok (.getfield 9, 3) := by decide +kernel
theorem dX0_takeBack_22 : decode cX0_takeBack 22 = .ok (.aload_n 0, 1) := by decide +kernel
theorem dX0_takeBack_23 : decode cX0_takeBack 23 = .ok (.getfield 18, 3) := by decide +kernel
theorem dX0_takeBack_26 : decode cX0_takeBack 26 = .ok (.invokestatic 26, 3) := by decide +kernel
theorem dX0_takeBack_29 : decode cX0_takeBack 29 = .ok (.istore_n 2, 1) := by decide +kernel
theorem dX0_takeBack_30 : decode cX0_takeBack 30 = .ok (.iload_n 2, 1) := by decide +kernel
theorem dX0_takeBack_31 : decode cX0_takeBack 31 = .ok (.ifCond .ne 16, 3) := by decide +kernel
theorem dX0_takeBack_34 : decode cX0_takeBack 34 = .ok (.aload_n 1, 1) := by decide +kernel
theorem dX0_takeBack_35 : decode cX0_takeBack 35 = .ok (.dup, 1) := by decide +kernel
theorem dX0_takeBack_36 : decode cX0_takeBack 36 = .ok (.getfield 30, 3) := by decide +kernel
theorem dX0_takeBack_39 : decode cX0_takeBack 39 = .ok (.iconst 1, 1) := by decide +kernel
theorem dX0_takeBack_40 : decode cX0_takeBack 40 = .ok (.isub, 1) := by decide +kernel
theorem dX0_takeBack_41 : decode cX0_takeBack 41 = .ok (.putfield 30, 3) := by decide +kernel
theorem dX0_takeBack_44 : decode cX0_takeBack 44 = .ok (.goto 36, 3) := by decide +kernel
theorem dX0_takeBack_47 : decode cX0_takeBack 47 = .ok (.iload_n 2, 1) := by decide +kernel
theorem dX0_takeBack_48 : decode cX0_takeBack 48 = .ok (.iconst 1, 1) := by decide +kernel
theorem dX0_takeBack_49 : decode cX0_takeBack 49 = .ok (.if_icmp .ne 16, 3) := by decide +kernel
theorem dX0_takeBack_52 : decode cX0_takeBack 52 = .ok (.aload_n 1, 1) := by decide +kernel
theorem dX0_takeBack_53 : decode cX0_takeBack 53 = .ok (.dup, 1) := by decide +kernel
theorem dX0_takeBack_54 : decode cX0_takeBack 54 = .ok (.getfield 35, 3) := by decide +kernel
theorem dX0_takeBack_57 : decode cX0_takeBack 57 = .ok (.iconst 1, 1) := by decide +kernel
theorem dX0_takeBack_58 : decode cX0_takeBack 58 = .ok (.isub, 1) := by decide +kernel
theorem dX0_takeBack_59 : decode cX0_takeBack 59 = .ok (.putfield 35, 3) := by decide +kernel
theorem dX0_takeBack_62 : decode cX0_takeBack 62 = .ok (.goto 18, 3) := by decide +kernel
theorem dX0_takeBack_65 : decode cX0_takeBack 65 = .ok (.aload_n 1, 1) := by decide +kernel
theorem dX0_takeBack_66 : decode cX0_takeBack 66 = .ok (.aload_n 0, 1) := by decide +kernel
theorem dX0_takeBack_67 : decode cX0_takeBack 67 = .ok (.getfield 15, 3) := by decide +kernel
theorem dX0_takeBack_70 : decode cX0_takeBack 70 = .ok (.aload_n 0, 1) := by decide +kernel
theorem dX0_takeBack_71 : decode cX0_takeBack 71 = .ok (.getfield 18, 3) := by decide +kernel
theorem dX0_takeBack_74 : decode cX0_takeBack 74 = .ok (.invokestatic 26, 3) := by decide +kernel
theorem dX0_takeBack_77 : decode cX0_takeBack 77 = .ok (.putfield 38, 3) := by decide +kernel
theorem dX0_takeBack_80 : decode cX0_takeBack 80 = .ok (.return_, 1) := by decide +kernel
theorem dX1_init_0 : decode cX1_init 0 = .ok (.aload_n 0, 1) := by decide +kernel
theorem dX1_init_1 : decode cX1_init 1 = .ok (.invokespecial 3, 3) := by decide +kernel
theorem dX1_init_4 : decode cX1_init 4 = .ok (.aload_n 0, 1) := by decide +kernel
theorem dX1_init_5 : decode cX1_init 5 = .ok (.sipush 200, 3) := by decide +kernel
theorem dX1_init_8 : decode cX1_init 8 = .ok (.newarray .int, 2) := by decide +kernel
theorem dX1_init_10 : decode cX1_init 10 = .ok (.putfield 9, 3) := by decide +kernel
theorem dX1_init_13 : decode cX1_init 13 = .ok (.aload_n 0, 1) := by decide +kernel
theorem dX1_init_14 : decode cX1_init 14 = .ok (.sipush 200, 3) := by decide +kernel
theorem dX1_init_17 : decode cX1_init 17 = .ok (.newarray .int, 2) := by decide +kernel
theorem dX1_init_19 : decode cX1_init 19 = .ok (.putfield 15, 3) := by decide +kernel
theorem dX1_init_22 : decode cX1_init 22 = .ok (.aload_n 0, 1) := by decide +kernel
theorem dX1_init_23 : decode cX1_init 23 = .ok (.sipush 200, 3) := by decide +kernel
theorem dX1_init_26 : decode cX1_init 26 = .ok (.newarray .int, 2) := by decide +kernel
theorem dX1_init_28 : decode cX1_init 28 = .ok (.putfield 18, 3) := by decide +kernel
theorem dX1_init_31 : decode cX1_init 31 = .ok (.aload_n 0, 1) := by decide +kernel
theorem dX1_init_32 : decode cX1_init 32 = .ok (.sipush 200, 3) := by decide +kernel
theorem dX1_init_35 : decode cX1_init 35 = .ok (.newarray .int, 2) := by decide +kernel
theorem dX1_init_37 : decode cX1_init 37 = .ok (.putfield 21, 3) := by decide +kernel
theorem dX1_init_40 : decode cX1_init 40 = .ok (.aload_n 0, 1) := by decide +kernel
theorem dX1_init_41 : decode cX1_init 41 = .ok (.sipush 200, 3) := by decide +kernel
theorem dX1_init_44 : decode cX1_init 44 = .ok (.newarray .int, 2) := by decide +kernel
theorem dX1_init_46 : decode cX1_init 46 = .ok (.putfield 24, 3) := by decide +kernel
theorem dX1_init_49 : decode cX1_init 49 = .ok (.aload_n 0, 1) := by decide +kernel
theorem dX1_init_50 : decode cX1_init 50 = .ok (.bipush 10, 2) := by decide +kernel
theorem dX1_init_52 : decode cX1_init 52 = .ok (.newarray .int, 2) := by decide +kernel
theorem dX1_init_54 : decode cX1_init 54 = .ok (.putfield 27, 3) := by decide +kernel
theorem dX1_init_57 : decode cX1_init 57 = .ok (.aload_n 0, 1) := by decide +kernel
theorem dX1_init_58 : decode cX1_init 58 = .ok (.bipush 10, 2) := by decide +kernel
theorem dX1_init_60 : decode cX1_init 60 = .ok (.newarray .int, 2) := by decide +kernel
theorem dX1_init_62 : decode cX1_init 62 = .ok (.putfield 30, 3) := by decide +kernel
theorem dX1_init_65 : decode cX1_init 65 = .ok (.aload_n 0, 1) := by decide +kernel
theorem dX1_init_66 : decode cX1_init 66 = .ok (.bipush 10, 2) := by decide +kernel
theorem dX1_init_68 : decode cX1_init 68 = .ok (.newarray .int, 2) := by decide +kernel
theorem dX1_init_70 : decode cX1_init 70 = .ok (.putfield 33, 3) := by decide +kernel
theorem dX1_init_73 : decode cX1_init 73 = .ok (.aload_n 0, 1) := by decide +kernel
theorem dX1_init_74 : decode cX1_init 74 = .ok (.bipush 10, 2) := by decide +kernel
theorem dX1_init_76 : decode cX1_init 76 = .ok (.newarray .int, 2) := by decide +kernel
theorem dX1_init_78 : decode cX1_init 78 = .ok (.putfield 36, 3) := by decide +kernel
theorem dX1_init_81 : decode cX1_init 81 = .ok (.aload_n 0, 1) := by decide +kernel
theorem dX1_init_82 : decode cX1_init 82 = .ok (.sipush 200, 3) := by decide +kernel
theorem dX1_init_85 : decode cX1_init 85 = .ok (.newarray .int, 2) := by decide +kernel
theorem dX1_init_87 : decode cX1_init 87 = .ok (.putfield 39, 3) := by decide +kernel
theorem dX1_init_90 : decode cX1_init 90 = .ok (.aload_n 0, 1) := by decide +kernel
theorem dX1_init_91 : decode cX1_init 91 = .ok (.sipush 200, 3) := by decide +kernel
theorem dX1_init_94 : decode cX1_init 94 = .ok (.newarray .int, 2) := by decide +kernel
theorem dX1_init_96 : decode cX1_init 96 = .ok (.putfield 42, 3) := by decide +kernel
theorem dX1_init_99 : decode cX1_init 99 = .ok (.aload_n 0, 1) := by decide +kernel
theorem dX1_init_100 : decode cX1_init 100 = .ok (.sipush 200, 3) := by decide +kernel
theorem dX1_init_103 : decode cX1_init 103 = .ok (.newarray .int, 2) := by decide +kernel
theorem dX1_init_105 : decode cX1_init 105 = .ok (.putfield 45, 3) := by decide +kernel
theorem dX1_init_108 : decode cX1_init 108 = .ok (.return_, 1) := by decide +kernel
theorem dX1_clear_0 : decode cX1_clear 0 = .ok (.aload_n 0, 1) := by decide +kernel
theorem dX1_clear_1 : decode cX1_clear 1 = .ok (.getfield 18, 3) := by decide +kernel
theorem dX1_clear_4 : decode cX1_clear 4 = .ok (.iconst (-1), 1) := by decide +kernel
theorem dX1_clear_5 : decode cX1_clear 5 = .ok (.invokestatic 48, 3) := by decide +kernel
theorem dX1_clear_8 : decode cX1_clear 8 = .ok (.aload_n 0, 1) := by decide +kernel
theorem dX1_clear_9 : decode cX1_clear 9 = .ok (.getfield 24, 3) := by decide +kernel
theorem dX1_clear_12 : decode cX1_clear 12 = .ok (.iconst 0, 1) := by decide +kernel
theorem dX1_clear_13 : decode cX1_clear 13 = .ok (.invokestatic 48, 3) := by decide +kernel
theorem dX1_clear_16 : decode cX1_clear 16 = .ok (.aload_n 0, 1) := by decide +kernel
theorem dX1_clear_17 : decode cX1_clear 17 = .ok (.getfield 27, 3) := by decide +kernel
theorem dX1_clear_20 : decode cX1_clear 20 = .ok (.iconst (-1), 1) := by decide +kernel
theorem dX1_clear_21 : decode cX1_clear 21 = .ok (.invokestatic 48, 3) := by decide +kernel
theorem dX1_clear_24 : decode cX1_clear 24 = .ok (.aload_n 0, 1) := by decide +kernel
theorem dX1_clear_25 : decode cX1_clear 25 = .ok (.getfield 30, 3) := by decide +kernel
theorem dX1_clear_28 : decode cX1_clear 28 = .ok (.iconst 0, 1) := by decide +kernel
theorem dX1_clear_29 : decode cX1_clear 29 = .ok (.invokestatic 48, 3) := by decide +kernel
theorem dX1_clear_32 : decode cX1_clear 32 = .ok (.aload_n 0, 1) := by decide +kernel
theorem dX1_clear_33 : decode cX1_clear 33 = .ok (.getfield 33, 3) := by decide +kernel
theorem dX1_clear_36 : decode cX1_clear 36 = .ok (.iconst 0, 1) := by decide +kernel
theorem dX1_clear_37 : decode cX1_clear 37 = .ok (.invokestatic 48, 3) := by decide +kernel
theorem dX1_clear_40 : decode cX1_clear 40 = .ok (.aload_n 0, 1) := by decide +kernel
theorem dX1_clear_41 : decode cX1_clear 41 = .ok (.iconst 0, 1) := by decide +kernel
theorem dX1_clear_42 : decode cX1_clear 42 = .ok (.putfield 54, 3) := by decide +kernel
theorem dX1_clear_45 : decode cX1_clear 45 = .ok (.aload_n 0, 1) := by decide +kernel
theorem dX1_clear_46 : decode cX1_clear 46 = .ok (.iconst 0, 1) := by decide +kernel
theorem dX1_clear_47 : decode cX1_clear 47 = .ok (.putfield 58, 3) := by decide +kernel
theorem dX1_clear_50 : decode cX1_clear 50 = .ok (.return_, 1) := by decide +kernel
theorem dX1_deliver_0 : decode cX1_deliver 0 = .ok (.aload_n 0, 1) := by decide +kernel
theorem dX1_deliver_1 : decode cX1_deliver 1 = .ok (.getfield 18, 3) := by decide +kernel
theorem dX1_deliver_4 : decode cX1_deliver 4 = .ok (.iload_n 2, 1) := by decide +kernel
theorem dX1_deliver_5 : decode cX1_deliver 5 = .ok (.iload_n 1, 1) := by decide +kernel
theorem dX1_deliver_6 : decode cX1_deliver 6 = .ok (.invokestatic 61, 3) := by decide +kernel
theorem dX1_deliver_9 : decode cX1_deliver 9 = .ok (.aload_n 0, 1) := by decide +kernel
theorem dX1_deliver_10 : decode cX1_deliver 10 = .ok (.getfield 27, 3) := by decide +kernel
theorem dX1_deliver_13 : decode cX1_deliver 13 = .ok (.iload_n 1, 1) := by decide +kernel
theorem dX1_deliver_14 : decode cX1_deliver 14 = .ok (.iload_n 2, 1) := by decide +kernel
theorem dX1_deliver_15 : decode cX1_deliver 15 = .ok (.invokestatic 61, 3) := by decide +kernel
theorem dX1_deliver_18 : decode cX1_deliver 18 = .ok (.aload_n 0, 1) := by decide +kernel
theorem dX1_deliver_19 : decode cX1_deliver 19 = .ok (.getfield 36, 3) := by decide +kernel
theorem dX1_deliver_22 : decode cX1_deliver 22 = .ok (.aload_n 0, 1) := by decide +kernel
theorem dX1_deliver_23 : decode cX1_deliver 23 = .ok (.getfield 54, 3) := by decide +kernel
theorem dX1_deliver_26 : decode cX1_deliver 26 = .ok (.iload_n 1, 1) := by decide +kernel
theorem dX1_deliver_27 : decode cX1_deliver 27 = .ok (.invokestatic 61, 3) := by decide +kernel
theorem dX1_deliver_30 : decode cX1_deliver 30 = .ok (.aload_n 0, 1) := by decide +kernel
theorem dX1_deliver_31 : decode cX1_deliver 31 = .ok (.dup, 1) := by decide +kernel
theorem dX1_deliver_32 : decode cX1_deliver 32 = .ok (.getfield 54, 3) := by decide +kernel
theorem dX1_deliver_35 : decode cX1_deliver 35 = .ok (.iconst 1, 1) := by decide +kernel
theorem dX1_deliver_36 : decode cX1_deliver 36 = .ok (.iadd, 1) := by decide +kernel
theorem dX1_deliver_37 : decode cX1_deliver 37 = .ok (.putfield 54, 3) := by decide +kernel
theorem dX1_deliver_40 : decode cX1_deliver 40 = .ok (.return_, 1) := by decide +kernel
theorem dX1_openEpoch_0 : decode cX1_openEpoch 0 = .ok (.aload_n 0, 1) := by decide +kernel
theorem dX1_openEpoch_1 : decode cX1_openEpoch 1 = .ok (.getfield 39, 3) := by decide +kernel
theorem dX1_openEpoch_4 : decode cX1_openEpoch 4 = .ok (.aload_n 0, 1) := by decide +kernel
theorem dX1_openEpoch_5 : decode cX1_openEpoch 5 = .ok (.getfield 58, 3) := by decide +kernel
theorem dX1_openEpoch_8 : decode cX1_openEpoch 8 = .ok (.iload_n 1, 1) := by decide +kernel
theorem dX1_openEpoch_9 : decode cX1_openEpoch 9 = .ok (.invokestatic 61, 3) := by decide +kernel
theorem dX1_openEpoch_12 : decode cX1_openEpoch 12 = .ok (.aload_n 0, 1) := by decide +kernel
theorem dX1_openEpoch_13 : decode cX1_openEpoch 13 = .ok (.getfield 42, 3) := by decide +kernel
theorem dX1_openEpoch_16 : decode cX1_openEpoch 16 = .ok (.aload_n 0, 1) := by decide +kernel
theorem dX1_openEpoch_17 : decode cX1_openEpoch 17 = .ok (.getfield 58, 3) := by decide +kernel
theorem dX1_openEpoch_20 : decode cX1_openEpoch 20 = .ok (.iconst (-1), 1) := by decide +kernel
theorem dX1_openEpoch_21 : decode cX1_openEpoch 21 = .ok (.invokestatic 61, 3) := by decide +kernel
theorem dX1_openEpoch_24 : decode cX1_openEpoch 24 = .ok (.aload_n 0, 1) := by decide +kernel
theorem dX1_openEpoch_25 : decode cX1_openEpoch 25 = .ok (.getfield 45, 3) := by decide +kernel
theorem dX1_openEpoch_28 : decode cX1_openEpoch 28 = .ok (.aload_n 0, 1) := by decide +kernel
theorem dX1_openEpoch_29 : decode cX1_openEpoch 29 = .ok (.getfield 58, 3) := by decide +kernel
theorem dX1_openEpoch_32 : decode cX1_openEpoch 32 = .ok (.iload_n 2, 1) := by decide +kernel
theorem dX1_openEpoch_33 : decode cX1_openEpoch 33 = .ok (.invokestatic 61, 3) := by decide +kernel
theorem dX1_openEpoch_36 : decode cX1_openEpoch 36 = .ok (.aload_n 0, 1) := by decide +kernel
theorem dX1_openEpoch_37 : decode cX1_openEpoch 37 = .ok (.dup, 1) := by decide +kernel
theorem dX1_openEpoch_38 : decode cX1_openEpoch 38 = .ok (.getfield 58, 3) := by decide +kernel
theorem dX1_openEpoch_41 : decode cX1_openEpoch 41 = .ok (.iconst 1, 1) := by decide +kernel
theorem dX1_openEpoch_42 : decode cX1_openEpoch 42 = .ok (.iadd, 1) := by decide +kernel
theorem dX1_openEpoch_43 : decode cX1_openEpoch 43 = .ok (.putfield 58, 3) := by decide +kernel
theorem dX1_openEpoch_46 : decode cX1_openEpoch 46 = .ok (.return_, 1) := by decide +kernel
theorem dX1_lastSlot_0 : decode cX1_lastSlot 0 = .ok (.iload_n 1, 1) := by decide +kernel
theorem dX1_lastSlot_1 : decode cX1_lastSlot 1 = .ok (.ifCond .eq 11, 3) := by decide +kernel
theorem dX1_lastSlot_4 : decode cX1_lastSlot 4 = .ok (.aload_n 0, 1) := by decide +kernel
theorem dX1_lastSlot_5 : decode cX1_lastSlot 5 = .ok (.getfield 54, 3) := by decide +kernel
theorem dX1_lastSlot_8 : decode cX1_lastSlot 8 = .ok (.iload_n 1, 1) := by decide +kernel
theorem dX1_lastSlot_9 : decode cX1_lastSlot 9 = .ok (.if_icmp .ge 5, 3) := by decide +kernel
theorem dX1_lastSlot_12 : decode cX1_lastSlot 12 = .ok (.iconst (-1), 1) := by decide +kernel
theorem dX1_lastSlot_13 : decode cX1_lastSlot 13 = .ok (.ireturn, 1) := by decide +kernel
theorem dX1_lastSlot_14 : decode cX1_lastSlot 14 = .ok (.aload_n 0, 1) := by decide +kernel
theorem dX1_lastSlot_15 : decode cX1_lastSlot 15 = .ok (.getfield 27, 3) := by decide +kernel
theorem dX1_lastSlot_18 : decode cX1_lastSlot 18 = .ok (.aload_n 0, 1) := by decide +kernel
theorem dX1_lastSlot_19 : decode cX1_lastSlot 19 = .ok (.getfield 36, 3) := by decide +kernel
theorem dX1_lastSlot_22 : decode cX1_lastSlot 22 = .ok (.aload_n 0, 1) := by decide +kernel
theorem dX1_lastSlot_23 : decode cX1_lastSlot 23 = .ok (.getfield 54, 3) := by decide +kernel
theorem dX1_lastSlot_26 : decode cX1_lastSlot 26 = .ok (.iconst 1, 1) := by decide +kernel
theorem dX1_lastSlot_27 : decode cX1_lastSlot 27 = .ok (.isub, 1) := by decide +kernel
theorem dX1_lastSlot_28 : decode cX1_lastSlot 28 = .ok (.invokestatic 65, 3) := by decide +kernel
theorem dX1_lastSlot_31 : decode cX1_lastSlot 31 = .ok (.invokestatic 65, 3) := by decide +kernel
theorem dX1_lastSlot_34 : decode cX1_lastSlot 34 = .ok (.ireturn, 1) := by decide +kernel
theorem dX1_slotsHeard_0 : decode cX1_slotsHeard 0 = .ok (.iconst 0, 1) := by decide +kernel
theorem dX1_slotsHeard_1 : decode cX1_slotsHeard 1 = .ok (.istore_n 3, 1) := by decide +kernel
theorem dX1_slotsHeard_2 : decode cX1_slotsHeard 2 = .ok (.iconst 0, 1) := by decide +kernel
theorem dX1_slotsHeard_3 : decode cX1_slotsHeard 3 = .ok (.istore 4, 2) := by decide +kernel
theorem dX1_slotsHeard_5 : decode cX1_slotsHeard 5 = .ok (.iload 4, 2) := by decide +kernel
theorem dX1_slotsHeard_7 : decode cX1_slotsHeard 7 = .ok (.iload_n 2, 1) := by decide +kernel
theorem dX1_slotsHeard_8 : decode cX1_slotsHeard 8 = .ok (.if_icmp .ge 25, 3) := by decide +kernel
theorem dX1_slotsHeard_11 : decode cX1_slotsHeard 11 = .ok (.aload_n 0, 1) := by decide +kernel
theorem dX1_slotsHeard_12 : decode cX1_slotsHeard 12 = .ok (.getfield 15, 3) := by decide +kernel
theorem dX1_slotsHeard_15 : decode cX1_slotsHeard 15 = .ok (.iload 4, 2) := by decide +kernel
theorem dX1_slotsHeard_17 : decode cX1_slotsHeard 17 = .ok (.invokestatic 65, 3) := by decide +kernel
theorem dX1_slotsHeard_20 : decode cX1_slotsHeard 20 = .ok (.iload_n 1, 1) := by decide +kernel
theorem dX1_slotsHeard_21 : decode cX1_slotsHeard 21 = .ok (.if_icmp .ne 6, 3) := by decide +kernel
theorem dX1_slotsHeard_24 : decode cX1_slotsHeard 24 = .ok (.iinc 3 1, 3) := by decide +kernel
theorem dX1_slotsHeard_27 : decode cX1_slotsHeard 27 = .ok (.iinc 4 1, 3) := by decide +kernel
theorem dX1_slotsHeard_30 : decode cX1_slotsHeard 30 = .ok (.goto (-25), 3) := by decide +kernel
theorem dX1_slotsHeard_33 : decode cX1_slotsHeard 33 = .ok (.iload_n 3, 1) := by decide +kernel
theorem dX1_slotsHeard_34 : decode cX1_slotsHeard 34 = .ok (.ireturn, 1) := by decide +kernel
theorem dX1_collisions_0 : decode cX1_collisions 0 = .ok (.iconst 0, 1) := by decide +kernel
theorem dX1_collisions_1 : decode cX1_collisions 1 = .ok (.istore_n 2, 1) := by decide +kernel
theorem dX1_collisions_2 : decode cX1_collisions 2 = .ok (.iconst 0, 1) := by decide +kernel
theorem dX1_collisions_3 : decode cX1_collisions 3 = .ok (.istore_n 3, 1) := by decide +kernel
theorem dX1_collisions_4 : decode cX1_collisions 4 = .ok (.iload_n 3, 1) := by decide +kernel
theorem dX1_collisions_5 : decode cX1_collisions 5 = .ok (.iload_n 1, 1) := by decide +kernel
theorem dX1_collisions_6 : decode cX1_collisions 6 = .ok (.if_icmp .ge 27, 3) := by decide +kernel
theorem dX1_collisions_9 : decode cX1_collisions 9 = .ok (.aload_n 0, 1) := by decide +kernel
theorem dX1_collisions_10 : decode cX1_collisions 10 = .ok (.getfield 9, 3) := by decide +kernel
theorem dX1_collisions_13 : decode cX1_collisions 13 = .ok (.iload_n 3, 1) := by decide +kernel
theorem dX1_collisions_14 : decode cX1_collisions 14 = .ok (.invokestatic 65, 3) := by decide +kernel
theorem dX1_collisions_17 : decode cX1_collisions 17 = .ok (.invokestatic 69, 3) := by decide +kernel
theorem dX1_collisions_20 : decode cX1_collisions 20 = .ok (.iconst 1, 1) := by decide +kernel
theorem dX1_collisions_21 : decode cX1_collisions 21 = .ok (.if_icmp .le 6, 3) := by decide +kernel
theorem dX1_collisions_24 : decode cX1_collisions 24 = .ok (.iinc 2 1, 3) := by decide +kernel
theorem dX1_collisions_27 : decode cX1_collisions 27 = .ok (.iinc 3 1, 3) := by decide +kernel
theorem dX1_collisions_30 : decode cX1_collisions 30 = .ok (.goto (-26), 3) := by decide +kernel
theorem dX1_collisions_33 : decode cX1_collisions 33 = .ok (.iload_n 2, 1) := by decide +kernel
theorem dX1_collisions_34 : decode cX1_collisions 34 = .ok (.ireturn, 1) := by decide +kernel
theorem dX1_skipsMade_0 : decode cX1_skipsMade 0 = .ok (.iconst 0, 1) := by decide +kernel
theorem dX1_skipsMade_1 : decode cX1_skipsMade 1 = .ok (.istore_n 2, 1) := by decide +kernel
theorem dX1_skipsMade_2 : decode cX1_skipsMade 2 = .ok (.iconst 0, 1) := by decide +kernel
theorem dX1_skipsMade_3 : decode cX1_skipsMade 3 = .ok (.istore_n 3, 1) := by decide +kernel
theorem dX1_skipsMade_4 : decode cX1_skipsMade 4 = .ok (.iload_n 3, 1) := by decide +kernel
theorem dX1_skipsMade_5 : decode cX1_skipsMade 5 = .ok (.iload_n 1, 1) := by decide +kernel
theorem dX1_skipsMade_6 : decode cX1_skipsMade 6 = .ok (.if_icmp .ge 20, 3) := by decide +kernel
theorem dX1_skipsMade_9 : decode cX1_skipsMade 9 = .ok (.iload_n 2, 1) := by decide +kernel
theorem dX1_skipsMade_10 : decode cX1_skipsMade 10 = .ok (.aload_n 0, 1) := by decide +kernel
theorem dX1_skipsMade_11 : decode cX1_skipsMade 11 = .ok (.getfield 24, 3) := by decide +kernel
theorem dX1_skipsMade_14 : decode cX1_skipsMade 14 = .ok (.iload_n 3, 1) := by decide +kernel
theorem dX1_skipsMade_15 : decode cX1_skipsMade 15 = .ok (.invokestatic 65, 3) := by decide +kernel
theorem dX1_skipsMade_18 : decode cX1_skipsMade 18 = .ok (.iadd, 1) := by decide +kernel
theorem dX1_skipsMade_19 : decode cX1_skipsMade 19 = .ok (.istore_n 2, 1) := by decide +kernel
theorem dX1_skipsMade_20 : decode cX1_skipsMade 20 = .ok (.iinc 3 1, 3) := by decide +kernel
theorem dX1_skipsMade_23 : decode cX1_skipsMade 23 = .ok (.goto (-19), 3) := by decide +kernel
theorem dX1_skipsMade_26 : decode cX1_skipsMade 26 = .ok (.iload_n 2, 1) := by decide +kernel
theorem dX1_skipsMade_27 : decode cX1_skipsMade 27 = .ok (.ireturn, 1) := by decide +kernel
theorem dX1_greatestDepth_0 : decode cX1_greatestDepth 0 = .ok (.iconst 0, 1) := by decide +kernel
theorem dX1_greatestDepth_1 : decode cX1_greatestDepth 1 = .ok (.istore_n 2, 1) := by decide +kernel
theorem dX1_greatestDepth_2 : decode cX1_greatestDepth 2 = .ok (.iconst 0, 1) := by decide +kernel
theorem dX1_greatestDepth_3 : decode cX1_greatestDepth 3 = .ok (.istore_n 3, 1) := by decide +kernel
theorem dX1_greatestDepth_4 : decode cX1_greatestDepth 4 = .ok (.iload_n 3, 1) := by decide +kernel
theorem dX1_greatestDepth_5 : decode cX1_greatestDepth 5 = .ok (.iload_n 1, 1) := by decide +kernel
theorem dX1_greatestDepth_6 : decode cX1_greatestDepth 6 = .ok (.if_icmp .ge 22, 3) := by decide +kernel
theorem dX1_greatestDepth_9 : decode cX1_greatestDepth 9 = .ok (.iload_n 2, 1) := by decide +kernel
theorem dX1_greatestDepth_10 : decode cX1_greatestDepth 10 = .ok (.aload_n 0, 1) := by decide +kernel
theorem dX1_greatestDepth_11 : decode cX1_greatestDepth 11 = .ok (.getfield 21, 3) := by decide +kernel
theorem dX1_greatestDepth_14 : decode cX1_greatestDepth 14 = .ok (.iload_n 3, 1) := by decide +kernel
theorem dX1_greatestDepth_15 : decode cX1_greatestDepth 15 = .ok (.invokestatic 65, 3) := by decide +kernel
theorem dX1_greatestDepth_18 : decode cX1_greatestDepth 18 = .ok (.invokestatic 75, 3) := by decide +kernel
theorem dX1_greatestDepth_21 : decode cX1_greatestDepth 21 = .ok (.istore_n 2, 1) := by decide +kernel
theorem dX1_greatestDepth_22 : decode cX1_greatestDepth 22 = .ok (.iinc 3 1, 3) := by decide +kernel
theorem dX1_greatestDepth_25 : decode cX1_greatestDepth 25 = .ok (.goto (-21), 3) := by decide +kernel
theorem dX1_greatestDepth_28 : decode cX1_greatestDepth 28 = .ok (.iload_n 2, 1) := by decide +kernel
theorem dX1_greatestDepth_29 : decode cX1_greatestDepth 29 = .ok (.ireturn, 1) := by decide +kernel
theorem dX2_init_0 : decode cX2_init 0 = .ok (.aload_n 0, 1) := by decide +kernel
theorem dX2_init_1 : decode cX2_init 1 = .ok (.invokespecial 3, 3) := by decide +kernel
theorem dX2_init_4 : decode cX2_init 4 = .ok (.aload_n 0, 1) := by decide +kernel
theorem dX2_init_5 : decode cX2_init 5 = .ok (.bipush 9, 2) := by decide +kernel
theorem dX2_init_7 : decode cX2_init 7 = .ok (.newarray .long, 2) := by decide +kernel
theorem dX2_init_9 : decode cX2_init 9 = .ok (.putfield 11, 3) := by decide +kernel
theorem dX2_init_12 : decode cX2_init 12 = .ok (.aload_n 0, 1) := by decide +kernel
theorem dX2_init_13 : decode cX2_init 13 = .ok (.bipush 9, 2) := by decide +kernel
theorem dX2_init_15 : decode cX2_init 15 = .ok (.newarray .long, 2) := by decide +kernel
theorem dX2_init_17 : decode cX2_init 17 = .ok (.putfield 15, 3) := by decide +kernel
theorem dX2_init_20 : decode cX2_init 20 = .ok (.aload_n 0, 1) := by decide +kernel
theorem dX2_init_21 : decode cX2_init 21 = .ok (.bipush 52, 2) := by decide +kernel
theorem dX2_init_23 : decode cX2_init 23 = .ok (.newarray .long, 2) := by decide +kernel
theorem dX2_init_25 : decode cX2_init 25 = .ok (.putfield 18, 3) := by decide +kernel
theorem dX2_init_28 : decode cX2_init 28 = .ok (.return_, 1) := by decide +kernel
theorem dX3_init_0 : decode cX3_init 0 = .ok (.aload_n 0, 1) := by decide +kernel
theorem dX3_init_1 : decode cX3_init 1 = .ok (.invokespecial 3, 3) := by decide +kernel
theorem dX3_init_4 : decode cX3_init 4 = .ok (.aload_n 0, 1) := by decide +kernel
theorem dX3_init_5 : decode cX3_init 5 = .ok (.bipush 10, 2) := by decide +kernel
theorem dX3_init_7 : decode cX3_init 7 = .ok (.newarray .int, 2) := by decide +kernel
theorem dX3_init_9 : decode cX3_init 9 = .ok (.putfield 9, 3) := by decide +kernel
theorem dX3_init_12 : decode cX3_init 12 = .ok (.aload_n 0, 1) := by decide +kernel
theorem dX3_init_13 : decode cX3_init 13 = .ok (.bipush 10, 2) := by decide +kernel
theorem dX3_init_15 : decode cX3_init 15 = .ok (.newarray .int, 2) := by decide +kernel
theorem dX3_init_17 : decode cX3_init 17 = .ok (.putfield 15, 3) := by decide +kernel
theorem dX3_init_20 : decode cX3_init 20 = .ok (.aload_n 0, 1) := by decide +kernel
theorem dX3_init_21 : decode cX3_init 21 = .ok (.bipush 10, 2) := by decide +kernel
theorem dX3_init_23 : decode cX3_init 23 = .ok (.newarray .int, 2) := by decide +kernel
theorem dX3_init_25 : decode cX3_init 25 = .ok (.putfield 18, 3) := by decide +kernel
theorem dX3_init_28 : decode cX3_init 28 = .ok (.aload_n 0, 1) := by decide +kernel
theorem dX3_init_29 : decode cX3_init 29 = .ok (.bipush 10, 2) := by decide +kernel
theorem dX3_init_31 : decode cX3_init 31 = .ok (.newarray .int, 2) := by decide +kernel
theorem dX3_init_33 : decode cX3_init 33 = .ok (.putfield 21, 3) := by decide +kernel
theorem dX3_init_36 : decode cX3_init 36 = .ok (.aload_n 0, 1) := by decide +kernel
theorem dX3_init_37 : decode cX3_init 37 = .ok (.bipush 10, 2) := by decide +kernel
theorem dX3_init_39 : decode cX3_init 39 = .ok (.newarray .int, 2) := by decide +kernel
theorem dX3_init_41 : decode cX3_init 41 = .ok (.putfield 24, 3) := by decide +kernel
theorem dX3_init_44 : decode cX3_init 44 = .ok (.return_, 1) := by decide +kernel
theorem dX3_clear_0 : decode cX3_clear 0 = .ok (.aload_n 0, 1) := by decide +kernel
theorem dX3_clear_1 : decode cX3_clear 1 = .ok (.iconst 0, 1) := by decide +kernel
theorem dX3_clear_2 : decode cX3_clear 2 = .ok (.putfield 27, 3) := by decide +kernel
theorem dX3_clear_5 : decode cX3_clear 5 = .ok (.aload_n 0, 1) := by decide +kernel
theorem dX3_clear_6 : decode cX3_clear 6 = .ok (.iconst 0, 1) := by decide +kernel
theorem dX3_clear_7 : decode cX3_clear 7 = .ok (.putfield 31, 3) := by decide +kernel
theorem dX3_clear_10 : decode cX3_clear 10 = .ok (.aload_n 0, 1) := by decide +kernel
theorem dX3_clear_11 : decode cX3_clear 11 = .ok (.iconst 0, 1) := by decide +kernel
theorem dX3_clear_12 : decode cX3_clear 12 = .ok (.putfield 34, 3) := by decide +kernel
theorem dX3_clear_15 : decode cX3_clear 15 = .ok (.aload_n 0, 1) := by decide +kernel
theorem dX3_clear_16 : decode cX3_clear 16 = .ok (.iconst 0, 1) := by decide +kernel
theorem dX3_clear_17 : decode cX3_clear 17 = .ok (.putfield 37, 3) := by decide +kernel
theorem dX3_clear_20 : decode cX3_clear 20 = .ok (.aload_n 0, 1) := by decide +kernel
theorem dX3_clear_21 : decode cX3_clear 21 = .ok (.iconst 0, 1) := by decide +kernel
theorem dX3_clear_22 : decode cX3_clear 22 = .ok (.putfield 40, 3) := by decide +kernel
theorem dX3_clear_25 : decode cX3_clear 25 = .ok (.aload_n 0, 1) := by decide +kernel
theorem dX3_clear_26 : decode cX3_clear 26 = .ok (.iconst 0, 1) := by decide +kernel
theorem dX3_clear_27 : decode cX3_clear 27 = .ok (.putfield 43, 3) := by decide +kernel
theorem dX3_clear_30 : decode cX3_clear 30 = .ok (.aload_n 0, 1) := by decide +kernel
theorem dX3_clear_31 : decode cX3_clear 31 = .ok (.iconst 0, 1) := by decide +kernel
theorem dX3_clear_32 : decode cX3_clear 32 = .ok (.putfield 46, 3) := by decide +kernel
theorem dX3_clear_35 : decode cX3_clear 35 = .ok (.return_, 1) := by decide +kernel
theorem dX3_become_0 : decode cX3_become 0 = .ok (.aload_n 0, 1) := by decide +kernel
theorem dX3_become_1 : decode cX3_become 1 = .ok (.invokevirtual 49, 3) := by decide +kernel
theorem dX3_become_4 : decode cX3_become 4 = .ok (.iconst 0, 1) := by decide +kernel
theorem dX3_become_5 : decode cX3_become 5 = .ok (.istore_n 2, 1) := by decide +kernel
theorem dX3_become_6 : decode cX3_become 6 = .ok (.iload_n 2, 1) := by decide +kernel
theorem dX3_become_7 : decode cX3_become 7 = .ok (.aload_n 1, 1) := by decide +kernel
theorem dX3_become_8 : decode cX3_become 8 = .ok (.getfield 43, 3) := by decide +kernel
theorem dX3_become_11 : decode cX3_become 11 = .ok (.if_icmp .ge 37, 3) := by decide +kernel
theorem dX3_become_14 : decode cX3_become 14 = .ok (.aload_n 0, 1) := by decide +kernel
theorem dX3_become_15 : decode cX3_become 15 = .ok (.aload_n 1, 1) := by decide +kernel
theorem dX3_become_16 : decode cX3_become 16 = .ok (.getfield 9, 3) := by decide +kernel
theorem dX3_become_19 : decode cX3_become 19 = .ok (.iload_n 2, 1) := by decide +kernel
theorem dX3_become_20 : decode cX3_become 20 = .ok (.invokestatic 52, 3) := by decide +kernel
theorem dX3_become_23 : decode cX3_become 23 = .ok (.aload_n 1, 1) := by decide +kernel
theorem dX3_become_24 : decode cX3_become 24 = .ok (.getfield 18, 3) := by decide +kernel
theorem dX3_become_27 : decode cX3_become 27 = .ok (.iload_n 2, 1) := by decide +kernel
theorem dX3_become_28 : decode cX3_become 28 = .ok (.invokestatic 52, 3) := by decide +kernel
theorem dX3_become_31 : decode cX3_become 31 = .ok (.aload_n 1, 1) := by decide +kernel
theorem dX3_become_32 : decode cX3_become 32 = .ok (.getfield 15, 3) := by decide +kernel
theorem dX3_become_35 : decode cX3_become 35 = .ok (.iload_n 2, 1) := by decide +kernel
theorem dX3_become_36 : decode cX3_become 36 = .ok (.invokestatic 52, 3) := by decide +kernel
theorem dX3_become_39 : decode cX3_become 39 = .ok (.invokevirtual 56, 3) := by decide +kernel
theorem dX3_become_42 : decode cX3_become 42 = .ok (.iinc 2 1, 3) := by decide +kernel
theorem dX3_become_45 : decode cX3_become 45 = .ok (.goto (-39), 3) := by decide +kernel
theorem dX3_become_48 : decode cX3_become 48 = .ok (.iconst 0, 1) := by decide +kernel
theorem dX3_become_49 : decode cX3_become 49 = .ok (.istore_n 2, 1) := by decide +kernel
theorem dX3_become_50 : decode cX3_become 50 = .ok (.iload_n 2, 1) := by decide +kernel
theorem dX3_become_51 : decode cX3_become 51 = .ok (.aload_n 1, 1) := by decide +kernel
theorem dX3_become_52 : decode cX3_become 52 = .ok (.getfield 46, 3) := by decide +kernel
theorem dX3_become_55 : decode cX3_become 55 = .ok (.if_icmp .ge 29, 3) := by decide +kernel
theorem dX3_become_58 : decode cX3_become 58 = .ok (.aload_n 0, 1) := by decide +kernel
theorem dX3_become_59 : decode cX3_become 59 = .ok (.aload_n 1, 1) := by decide +kernel
theorem dX3_become_60 : decode cX3_become 60 = .ok (.getfield 21, 3) := by decide +kernel
theorem dX3_become_63 : decode cX3_become 63 = .ok (.iload_n 2, 1) := by decide +kernel
theorem dX3_become_64 : decode cX3_become 64 = .ok (.invokestatic 52, 3) := by decide +kernel
theorem dX3_become_67 : decode cX3_become 67 = .ok (.aload_n 1, 1) := by decide +kernel
theorem dX3_become_68 : decode cX3_become 68 = .ok (.getfield 24, 3) := by decide +kernel
theorem dX3_become_71 : decode cX3_become 71 = .ok (.iload_n 2, 1) := by decide +kernel
theorem dX3_become_72 : decode cX3_become 72 = .ok (.invokestatic 52, 3) := by decide +kernel
theorem dX3_become_75 : decode cX3_become 75 = .ok (.invokevirtual 60, 3) := by decide +kernel
theorem dX3_become_78 : decode cX3_become 78 = .ok (.iinc 2 1, 3) := by decide +kernel
theorem dX3_become_81 : decode cX3_become 81 = .ok (.goto (-31), 3) := by decide +kernel
theorem dX3_become_84 : decode cX3_become 84 = .ok (.aload_n 0, 1) := by decide +kernel
theorem dX3_become_85 : decode cX3_become 85 = .ok (.aload_n 1, 1) := by decide +kernel
theorem dX3_become_86 : decode cX3_become 86 = .ok (.getfield 27, 3) := by decide +kernel
theorem dX3_become_89 : decode cX3_become 89 = .ok (.putfield 27, 3) := by decide +kernel
theorem dX3_become_92 : decode cX3_become 92 = .ok (.aload_n 0, 1) := by decide +kernel
theorem dX3_become_93 : decode cX3_become 93 = .ok (.aload_n 1, 1) := by decide +kernel
theorem dX3_become_94 : decode cX3_become 94 = .ok (.getfield 31, 3) := by decide +kernel
theorem dX3_become_97 : decode cX3_become 97 = .ok (.putfield 31, 3) := by decide +kernel
theorem dX3_become_100 : decode cX3_become 100 = .ok (.aload_n 0, 1) := by decide +kernel
theorem dX3_become_101 : decode cX3_become 101 = .ok (.aload_n 1, 1) := by decide +kernel
theorem dX3_become_102 : decode cX3_become 102 = .ok (.getfield 34, 3) := by decide +kernel
theorem dX3_become_105 : decode cX3_become 105 = .ok (.putfield 34, 3) := by decide +kernel
theorem dX3_become_108 : decode cX3_become 108 = .ok (.aload_n 0, 1) := by decide +kernel
theorem dX3_become_109 : decode cX3_become 109 = .ok (.aload_n 1, 1) := by decide +kernel
theorem dX3_become_110 : decode cX3_become 110 = .ok (.getfield 37, 3) := by decide +kernel
theorem dX3_become_113 : decode cX3_become 113 = .ok (.putfield 37, 3) := by decide +kernel
theorem dX3_become_116 : decode cX3_become 116 = .ok (.aload_n 0, 1) := by decide +kernel
theorem dX3_become_117 : decode cX3_become 117 = .ok (.aload_n 1, 1) := by decide +kernel
theorem dX3_become_118 : decode cX3_become 118 = .ok (.getfield 40, 3) := by decide +kernel
theorem dX3_become_121 : decode cX3_become 121 = .ok (.putfield 40, 3) := by decide +kernel
theorem dX3_become_124 : decode cX3_become 124 = .ok (.return_, 1) := by decide +kernel
theorem dX3_addSender_0 : decode cX3_addSender 0 = .ok (.aload_n 0, 1) := by decide +kernel
theorem dX3_addSender_1 : decode cX3_addSender 1 = .ok (.getfield 9, 3) := by decide +kernel
theorem dX3_addSender_4 : decode cX3_addSender 4 = .ok (.aload_n 0, 1) := by decide +kernel
theorem dX3_addSender_5 : decode cX3_addSender 5 = .ok (.getfield 43, 3) := by decide +kernel
theorem dX3_addSender_8 : decode cX3_addSender 8 = .ok (.iload_n 1, 1) := by decide +kernel
theorem dX3_addSender_9 : decode cX3_addSender 9 = .ok (.invokestatic 64, 3) := by decide +kernel
theorem dX3_addSender_12 : decode cX3_addSender 12 = .ok (.aload_n 0, 1) := by decide +kernel
theorem dX3_addSender_13 : decode cX3_addSender 13 = .ok (.getfield 18, 3) := by decide +kernel
theorem dX3_addSender_16 : decode cX3_addSender 16 = .ok (.aload_n 0, 1) := by decide +kernel
theorem dX3_addSender_17 : decode cX3_addSender 17 = .ok (.getfield 43, 3) := by decide +kernel
theorem dX3_addSender_20 : decode cX3_addSender 20 = .ok (.iload_n 2, 1) := by decide +kernel
theorem dX3_addSender_21 : decode cX3_addSender 21 = .ok (.invokestatic 64, 3) := by decide +kernel
theorem dX3_addSender_24 : decode cX3_addSender 24 = .ok (.aload_n 0, 1) := by decide +kernel
theorem dX3_addSender_25 : decode cX3_addSender 25 = .ok (.getfield 15, 3) := by decide +kernel
theorem dX3_addSender_28 : decode cX3_addSender 28 = .ok (.aload_n 0, 1) := by decide +kernel
theorem dX3_addSender_29 : decode cX3_addSender 29 = .ok (.getfield 43, 3) := by decide +kernel
theorem dX3_addSender_32 : decode cX3_addSender 32 = .ok (.iload_n 3, 1) := by decide +kernel
theorem dX3_addSender_33 : decode cX3_addSender 33 = .ok (.invokestatic 64, 3) := by decide +kernel
theorem dX3_addSender_36 : decode cX3_addSender 36 = .ok (.aload_n 0, 1) := by decide +kernel
theorem dX3_addSender_37 : decode cX3_addSender 37 = .ok (.dup, 1) := by decide +kernel
theorem dX3_addSender_38 : decode cX3_addSender 38 = .ok (.getfield 43, 3) := by decide +kernel
theorem dX3_addSender_41 : decode cX3_addSender 41 = .ok (.iconst 1, 1) := by decide +kernel
theorem dX3_addSender_42 : decode cX3_addSender 42 = .ok (.iadd, 1) := by decide +kernel
theorem dX3_addSender_43 : decode cX3_addSender 43 = .ok (.putfield 43, 3) := by decide +kernel
theorem dX3_addSender_46 : decode cX3_addSender 46 = .ok (.return_, 1) := by decide +kernel
theorem dX3_addNoise_0 : decode cX3_addNoise 0 = .ok (.aload_n 0, 1) := by decide +kernel
theorem dX3_addNoise_1 : decode cX3_addNoise 1 = .ok (.getfield 21, 3) := by decide +kernel
theorem dX3_addNoise_4 : decode cX3_addNoise 4 = .ok (.aload_n 0, 1) := by decide +kernel
theorem dX3_addNoise_5 : decode cX3_addNoise 5 = .ok (.getfield 46, 3) := by decide +kernel
theorem dX3_addNoise_8 : decode cX3_addNoise 8 = .ok (.iload_n 1, 1) := by decide +kernel
theorem dX3_addNoise_9 : decode cX3_addNoise 9 = .ok (.invokestatic 64, 3) := by decide +kernel
theorem dX3_addNoise_12 : decode cX3_addNoise 12 = .ok (.aload_n 0, 1) := by decide +kernel
theorem dX3_addNoise_13 : decode cX3_addNoise 13 = .ok (.getfield 24, 3) := by decide +kernel
theorem dX3_addNoise_16 : decode cX3_addNoise 16 = .ok (.aload_n 0, 1) := by decide +kernel
theorem dX3_addNoise_17 : decode cX3_addNoise 17 = .ok (.getfield 46, 3) := by decide +kernel
theorem dX3_addNoise_20 : decode cX3_addNoise 20 = .ok (.iload_n 2, 1) := by decide +kernel
theorem dX3_addNoise_21 : decode cX3_addNoise 21 = .ok (.invokestatic 64, 3) := by decide +kernel
theorem dX3_addNoise_24 : decode cX3_addNoise 24 = .ok (.aload_n 0, 1) := by decide +kernel
theorem dX3_addNoise_25 : decode cX3_addNoise 25 = .ok (.dup, 1) := by decide +kernel
theorem dX3_addNoise_26 : decode cX3_addNoise 26 = .ok (.getfield 46, 3) := by decide +kernel
theorem dX3_addNoise_29 : decode cX3_addNoise 29 = .ok (.iconst 1, 1) := by decide +kernel
theorem dX3_addNoise_30 : decode cX3_addNoise 30 = .ok (.iadd, 1) := by decide +kernel
theorem dX3_addNoise_31 : decode cX3_addNoise 31 = .ok (.putfield 46, 3) := by decide +kernel
theorem dX3_addNoise_34 : decode cX3_addNoise 34 = .ok (.return_, 1) := by decide +kernel
theorem dX3_stands_0 : decode cX3_stands 0 = .ok (.aload_n 0, 1) := by decide +kernel
theorem dX3_stands_1 : decode cX3_stands 1 = .ok (.getfield 31, 3) := by decide +kernel
theorem dX3_stands_4 : decode cX3_stands 4 = .ok (.ifCond .le 7, 3) := by decide +kernel
theorem dX3_stands_7 : decode cX3_stands 7 = .ok (.iconst 1, 1) := by decide +kernel
theorem dX3_stands_8 : decode cX3_stands 8 = .ok (.goto 4, 3) := by decide +kernel
theorem dX3_stands_11 : decode cX3_stands 11 = .ok (.iconst 0, 1) := by decide +kernel
theorem dX3_stands_12 : decode cX3_stands 12 = .ok (.ireturn, 1) := by decide +kernel
theorem dX3_hasSender_0 : decode cX3_hasSender 0 = .ok (.iload_n 1, 1) := by decide +kernel
theorem dX3_hasSender_1 : decode cX3_hasSender 1 = .ok (.ifCond .lt 15, 3) := by decide +kernel
theorem dX3_hasSender_4 : decode cX3_hasSender 4 = .ok (.iload_n 1, 1) := by decide +kernel
theorem dX3_hasSender_5 : decode cX3_hasSender 5 = .ok (.aload_n 0, 1) := by decide +kernel
theorem dX3_hasSender_6 : decode cX3_hasSender 6 = .ok (.getfield 43, 3) := by decide +kernel
theorem dX3_hasSender_9 : decode cX3_hasSender 9 = .ok (.if_icmp .ge 7, 3) := by decide +kernel
theorem dX3_hasSender_12 : decode cX3_hasSender 12 = .ok (.iconst 1, 1) := by decide +kernel
theorem dX3_hasSender_13 : decode cX3_hasSender 13 = .ok (.goto 4, 3) := by decide +kernel
theorem dX3_hasSender_16 : decode cX3_hasSender 16 = .ok (.iconst 0, 1) := by decide +kernel
theorem dX3_hasSender_17 : decode cX3_hasSender 17 = .ok (.ireturn, 1) := by decide +kernel
theorem dX3_hasSlot_0 : decode cX3_hasSlot 0 = .ok (.iload_n 1, 1) := by decide +kernel
theorem dX3_hasSlot_1 : decode cX3_hasSlot 1 = .ok (.ifCond .lt 15, 3) := by decide +kernel
theorem dX3_hasSlot_4 : decode cX3_hasSlot 4 = .ok (.iload_n 1, 1) := by decide +kernel
theorem dX3_hasSlot_5 : decode cX3_hasSlot 5 = .ok (.aload_n 0, 1) := by decide +kernel
theorem dX3_hasSlot_6 : decode cX3_hasSlot 6 = .ok (.getfield 31, 3) := by decide +kernel
theorem dX3_hasSlot_9 : decode cX3_hasSlot 9 = .ok (.if_icmp .ge 7, 3) := by decide +kernel
theorem dX3_hasSlot_12 : decode cX3_hasSlot 12 = .ok (.iconst 1, 1) := by decide +kernel
theorem dX3_hasSlot_13 : decode cX3_hasSlot 13 = .ok (.goto 4, 3) := by decide +kernel
theorem dX3_hasSlot_16 : decode cX3_hasSlot 16 = .ok (.iconst 0, 1) := by decide +kernel
theorem dX3_hasSlot_17 : decode cX3_hasSlot 17 = .ok (.ireturn, 1) := by decide +kernel
theorem dX3_isNoisy_0 : decode cX3_isNoisy 0 = .ok (.iconst 0, 1) := by decide +kernel
theorem dX3_isNoisy_1 : decode cX3_isNoisy 1 = .ok (.istore_n 2, 1) := by decide +kernel
theorem dX3_isNoisy_2 : decode cX3_isNoisy 2 = .ok (.iload_n 2, 1) := by decide +kernel
theorem dX3_isNoisy_3 : decode cX3_isNoisy 3 = .ok (.aload_n 0, 1) := by decide +kernel
theorem dX3_isNoisy_4 : decode cX3_isNoisy 4 = .ok (.getfield 46, 3) := by decide +kernel
theorem dX3_isNoisy_7 : decode cX3_isNoisy 7 = .ok (.if_icmp .ge 23, 3) := by decide +kernel
theorem dX3_isNoisy_10 : decode cX3_isNoisy 10 = .ok (.aload_n 0, 1) := by decide +kernel
theorem dX3_isNoisy_11 : decode cX3_isNoisy 11 = .ok (.getfield 21, 3) := by decide +kernel
theorem dX3_isNoisy_14 : decode cX3_isNoisy 14 = .ok (.iload_n 2, 1) := by decide +kernel
theorem dX3_isNoisy_15 : decode cX3_isNoisy 15 = .ok (.invokestatic 52, 3) := by decide +kernel
theorem dX3_isNoisy_18 : decode cX3_isNoisy 18 = .ok (.iload_n 1, 1) := by decide +kernel
theorem dX3_isNoisy_19 : decode cX3_isNoisy 19 = .ok (.if_icmp .ne 5, 3) := by decide +kernel
theorem dX3_isNoisy_22 : decode cX3_isNoisy 22 = .ok (.iconst 1, 1) := by decide +kernel
theorem dX3_isNoisy_23 : decode cX3_isNoisy 23 = .ok (.ireturn, 1) := by decide +kernel
theorem dX3_isNoisy_24 : decode cX3_isNoisy 24 = .ok (.iinc 2 1, 3) := by decide +kernel
theorem dX3_isNoisy_27 : decode cX3_isNoisy 27 = .ok (.goto (-25), 3) := by decide +kernel
theorem dX3_isNoisy_30 : decode cX3_isNoisy 30 = .ok (.iconst 0, 1) := by decide +kernel
theorem dX3_isNoisy_31 : decode cX3_isNoisy 31 = .ok (.ireturn, 1) := by decide +kernel
theorem dX3_moment_0 : decode cX3_moment 0 = .ok (.bipush 16, 2) := by decide +kernel
theorem dX3_moment_2 : decode cX3_moment 2 = .ok (.aload_n 0, 1) := by decide +kernel
theorem dX3_moment_3 : decode cX3_moment 3 = .ok (.getfield 9, 3) := by decide +kernel
theorem dX3_moment_6 : decode cX3_moment 6 = .ok (.iload_n 1, 1) := by decide +kernel
theorem dX3_moment_7 : decode cX3_moment 7 = .ok (.invokestatic 52, 3) := by decide +kernel
theorem dX3_moment_10 : decode cX3_moment 10 = .ok (.imul, 1) := by decide +kernel
theorem dX3_moment_11 : decode cX3_moment 11 = .ok (.iload_n 1, 1) := by decide +kernel
theorem dX3_moment_12 : decode cX3_moment 12 = .ok (.iadd, 1) := by decide +kernel
theorem dX3_moment_13 : decode cX3_moment 13 = .ok (.ireturn, 1) := by decide +kernel
theorem dX4_init_0 : decode cX4_init 0 = .ok (.aload_n 0, 1) := by decide +kernel
theorem dX4_init_1 : decode cX4_init 1 = .ok (.invokespecial 3, 3) := by decide +kernel
theorem dX4_init_4 : decode cX4_init 4 = .ok (.aload_n 0, 1) := by decide +kernel
theorem dX4_init_5 : decode cX4_init 5 = .ok (.new 9, 3) := by decide +kernel
theorem dX4_init_8 : decode cX4_init 8 = .ok (.dup, 1) := by decide +kernel
theorem dX4_init_9 : decode cX4_init 9 = .ok (.invokespecial 11, 3) := by decide +kernel
theorem dX4_init_12 : decode cX4_init 12 = .ok (.putfield 12, 3) := by decide +kernel
theorem dX4_init_15 : decode cX4_init 15 = .ok (.aload_n 0, 1) := by decide +kernel
theorem dX4_init_16 : decode cX4_init 16 = .ok (.new 18, 3) := by decide +kernel
theorem dX4_init_19 : decode cX4_init 19 = .ok (.dup, 1) := by decide +kernel
theorem dX4_init_20 : decode cX4_init 20 = .ok (.invokespecial 20, 3) := by decide +kernel
theorem dX4_init_23 : decode cX4_init 23 = .ok (.putfield 21, 3) := by decide +kernel
theorem dX4_init_26 : decode cX4_init 26 = .ok (.aload_n 0, 1) := by decide +kernel
theorem dX4_init_27 : decode cX4_init 27 = .ok (.bipush 10, 2) := by decide +kernel
theorem dX4_init_29 : decode cX4_init 29 = .ok (.newarray .int, 2) := by decide +kernel
theorem dX4_init_31 : decode cX4_init 31 = .ok (.putfield 25, 3) := by decide +kernel
theorem dX4_init_34 : decode cX4_init 34 = .ok (.aload_n 0, 1) := by decide +kernel
theorem dX4_init_35 : decode cX4_init 35 = .ok (.new 29, 3) := by decide +kernel
theorem dX4_init_38 : decode cX4_init 38 = .ok (.dup, 1) := by decide +kernel
theorem dX4_init_39 : decode cX4_init 39 = .ok (.invokespecial 31, 3) := by decide +kernel
theorem dX4_init_42 : decode cX4_init 42 = .ok (.putfield 32, 3) := by decide +kernel
theorem dX4_init_45 : decode cX4_init 45 = .ok (.return_, 1) := by decide +kernel
theorem dX4_run_0 : decode cX4_run 0 = .ok (.aload_n 0, 1) := by decide +kernel
theorem dX4_run_1 : decode cX4_run 1 = .ok (.aload_n 1, 1) := by decide +kernel
theorem dX4_run_2 : decode cX4_run 2 = .ok (.putfield 32, 3) := by decide +kernel
theorem dX4_run_5 : decode cX4_run 5 = .ok (.aload_n 0, 1) := by decide +kernel
theorem dX4_run_6 : decode cX4_run 6 = .ok (.iload_n 2, 1) := by decide +kernel
theorem dX4_run_7 : decode cX4_run 7 = .ok (.putfield 36, 3) := by decide +kernel
theorem dX4_run_10 : decode cX4_run 10 = .ok (.aload_n 0, 1) := by decide +kernel
theorem dX4_run_11 : decode cX4_run 11 = .ok (.iload_n 3, 1) := by decide +kernel
theorem dX4_run_12 : decode cX4_run 12 = .ok (.putfield 40, 3) := by decide +kernel
theorem dX4_run_15 : decode cX4_run 15 = .ok (.aload_n 0, 1) := by decide +kernel
theorem dX4_run_16 : decode cX4_run 16 = .ok (.iload 4, 2) := by decide +kernel
theorem dX4_run_18 : decode cX4_run 18 = .ok (.putfield 43, 3) := by decide +kernel
theorem dX4_run_21 : decode cX4_run 21 = .ok (.aload_n 0, 1) := by decide +kernel
theorem dX4_run_22 : decode cX4_run 22 = .ok (.iconst 0, 1) := by decide +kernel
theorem dX4_run_23 : decode cX4_run 23 = .ok (.putfield 46, 3) := by decide +kernel
theorem dX4_run_26 : decode cX4_run 26 = .ok (.aload_n 0, 1) := by decide +kernel
theorem dX4_run_27 : decode cX4_run 27 = .ok (.iconst 0, 1) := by decide +kernel
theorem dX4_run_28 : decode cX4_run 28 = .ok (.putfield 49, 3) := by decide +kernel
theorem dX4_run_31 : decode cX4_run 31 = .ok (.aload_n 0, 1) := by decide +kernel
theorem dX4_run_32 : decode cX4_run 32 = .ok (.iconst 0, 1) := by decide +kernel
theorem dX4_run_33 : decode cX4_run 33 = .ok (.putfield 52, 3) := by decide +kernel
theorem dX4_run_36 : decode cX4_run 36 = .ok (.aload_n 0, 1) := by decide +kernel
theorem dX4_run_37 : decode cX4_run 37 = .ok (.iconst 0, 1) := by decide +kernel
theorem dX4_run_38 : decode cX4_run 38 = .ok (.putfield 55, 3) := by decide +kernel
theorem dX4_run_41 : decode cX4_run 41 = .ok (.aload_n 0, 1) := by decide +kernel
theorem dX4_run_42 : decode cX4_run 42 = .ok (.iconst 0, 1) := by decide +kernel
theorem dX4_run_43 : decode cX4_run 43 = .ok (.putfield 59, 3) := by decide +kernel
theorem dX4_run_46 : decode cX4_run 46 = .ok (.aload_n 0, 1) := by decide +kernel
theorem dX4_run_47 : decode cX4_run 47 = .ok (.iconst 0, 1) := by decide +kernel
theorem dX4_run_48 : decode cX4_run 48 = .ok (.putfield 62, 3) := by decide +kernel
theorem dX4_run_51 : decode cX4_run 51 = .ok (.aload_n 0, 1) := by decide +kernel
theorem dX4_run_52 : decode cX4_run 52 = .ok (.getfield 21, 3) := by decide +kernel
theorem dX4_run_55 : decode cX4_run 55 = .ok (.iconst 0, 1) := by decide +kernel
theorem dX4_run_56 : decode cX4_run 56 = .ok (.putfield 65, 3) := by decide +kernel
theorem dX4_run_59 : decode cX4_run 59 = .ok (.aload_n 0, 1) := by decide +kernel
theorem dX4_run_60 : decode cX4_run 60 = .ok (.getfield 25, 3) := by decide +kernel
theorem dX4_run_63 : decode cX4_run 63 = .ok (.iconst 0, 1) := by decide +kernel
theorem dX4_run_64 : decode cX4_run 64 = .ok (.invokestatic 68, 3) := by decide +kernel
theorem dX4_run_67 : decode cX4_run 67 = .ok (.aload_n 0, 1) := by decide +kernel
theorem dX4_run_68 : decode cX4_run 68 = .ok (.getfield 32, 3) := by decide +kernel
theorem dX4_run_71 : decode cX4_run 71 = .ok (.invokevirtual 74, 3) := by decide +kernel
theorem dX4_run_74 : decode cX4_run 74 = .ok (.iconst 0, 1) := by decide +kernel
theorem dX4_run_75 : decode cX4_run 75 = .ok (.istore 5, 2) := by decide +kernel
theorem dX4_run_77 : decode cX4_run 77 = .ok (.iload 5, 2) := by decide +kernel
theorem dX4_run_79 : decode cX4_run 79 = .ok (.aload_n 0, 1) := by decide +kernel
theorem dX4_run_80 : decode cX4_run 80 = .ok (.getfield 12, 3) := by decide +kernel
theorem dX4_run_83 : decode cX4_run 83 = .ok (.getfield 77, 3) := by decide +kernel
theorem dX4_run_86 : decode cX4_run 86 = .ok (.if_icmp .ge 38, 3) := by decide +kernel
theorem dX4_run_89 : decode cX4_run 89 = .ok (.aload_n 0, 1) := by decide +kernel
theorem dX4_run_90 : decode cX4_run 90 = .ok (.iload 5, 2) := by decide +kernel
theorem dX4_run_92 : decode cX4_run 92 = .ok (.invokevirtual 80, 3) := by decide +kernel
theorem dX4_run_95 : decode cX4_run 95 = .ok (.aload_n 0, 1) := by decide +kernel
theorem dX4_run_96 : decode cX4_run 96 = .ok (.getfield 36, 3) := by decide +kernel
theorem dX4_run_99 : decode cX4_run 99 = .ok (.iconst 2, 1) := by decide +kernel
theorem dX4_run_100 : decode cX4_run 100 = .ok (.if_icmp .ne 12, 3) := by decide +kernel
theorem dX4_run_103 : decode cX4_run 103 = .ok (.aload_n 0, 1) := by decide +kernel
theorem dX4_run_104 : decode cX4_run 104 = .ok (.iload 5, 2) := by decide +kernel
theorem dX4_run_106 : decode cX4_run 106 = .ok (.invokevirtual 84, 3) := by decide +kernel
theorem dX4_run_109 : decode cX4_run 109 = .ok (.goto 9, 3) := by decide +kernel
theorem dX4_run_112 : decode cX4_run 112 = .ok (.aload_n 0, 1) := by decide +kernel
theorem dX4_run_113 : decode cX4_run 113 = .ok (.iload 5, 2) := by decide +kernel
theorem dX4_run_115 : decode cX4_run 115 = .ok (.invokevirtual 87, 3) := by decide +kernel
theorem dX4_run_118 : decode cX4_run 118 = .ok (.iinc 5 1, 3) := by decide +kernel
theorem dX4_run_121 : decode cX4_run 121 = .ok (.goto (-44), 3) := by decide +kernel
theorem dX4_run_124 : decode cX4_run 124 = .ok (.aload_n 0, 1) := by decide +kernel
theorem dX4_run_125 : decode cX4_run 125 = .ok (.getfield 32, 3) := by decide +kernel
theorem dX4_run_128 : decode cX4_run 128 = .ok (.getfield 90, 3) := by decide +kernel
theorem dX4_run_131 : decode cX4_run 131 = .ok (.ireturn, 1) := by decide +kernel
theorem dX4_welcome_0 : decode cX4_welcome 0 = .ok (.iconst 0, 1) := by decide +kernel
theorem dX4_welcome_1 : decode cX4_welcome 1 = .ok (.istore_n 2, 1) := by decide +kernel
theorem dX4_welcome_2 : decode cX4_welcome 2 = .ok (.iload_n 2, 1) := by decide +kernel
theorem dX4_welcome_3 : decode cX4_welcome 3 = .ok (.aload_n 0, 1) := by decide +kernel
theorem dX4_welcome_4 : decode cX4_welcome 4 = .ok (.getfield 12, 3) := by decide +kernel
theorem dX4_welcome_7 : decode cX4_welcome 7 = .ok (.getfield 93, 3) := by decide +kernel
theorem dX4_welcome_10 : decode cX4_welcome 10 = .ok (.if_icmp .ge 44, 3) := by decide +kernel
theorem dX4_welcome_13 : decode cX4_welcome 13 = .ok (.aload_n 0, 1) := by decide +kernel
theorem dX4_welcome_14 : decode cX4_welcome 14 = .ok (.getfield 12, 3) := by decide +kernel
theorem dX4_welcome_17 : decode cX4_welcome 17 = .ok (.getfield 96, 3) := by decide +kernel
theorem dX4_welcome_20 : decode cX4_welcome 20 = .ok (.iload_n 2, 1) := by decide +kernel
theorem dX4_welcome_21 : decode cX4_welcome 21 = .ok (.invokestatic 99, 3) := by decide +kernel
theorem dX4_welcome_24 : decode cX4_welcome 24 = .ok (.iload_n 1, 1) := by decide +kernel
theorem dX4_welcome_25 : decode cX4_welcome 25 = .ok (.if_icmp .ne 23, 3) := by decide +kernel
theorem dX4_welcome_28 : decode cX4_welcome 28 = .ok (.iload_n 2, 1) := by decide +kernel
theorem dX4_welcome_29 : decode cX4_welcome 29 = .ok (.aload_n 0, 1) := by decide +kernel
theorem dX4_welcome_30 : decode cX4_welcome 30 = .ok (.getfield 43, 3) := by decide +kernel
theorem dX4_welcome_33 : decode cX4_welcome 33 = .ok (.if_icmp .eq 15, 3) := by decide +kernel
theorem dX4_welcome_36 : decode cX4_welcome 36 = .ok (.aload_n 0, 1) := by decide +kernel
theorem dX4_welcome_37 : decode cX4_welcome 37 = .ok (.dup, 1) := by decide +kernel
theorem dX4_welcome_38 : decode cX4_welcome 38 = .ok (.getfield 46, 3) := by decide +kernel
theorem dX4_welcome_41 : decode cX4_welcome 41 = .ok (.iconst 1, 1) := by decide +kernel
theorem dX4_welcome_42 : decode cX4_welcome 42 = .ok (.iload_n 2, 1) := by decide +kernel
theorem dX4_welcome_43 : decode cX4_welcome 43 = .ok (.ishl, 1) := by decide +kernel
theorem dX4_welcome_44 : decode cX4_welcome 44 = .ok (.ior, 1) := by decide +kernel
theorem dX4_welcome_45 : decode cX4_welcome 45 = .ok (.putfield 46, 3) := by decide +kernel
theorem dX4_welcome_48 : decode cX4_welcome 48 = .ok (.iinc 2 1, 3) := by decide +kernel
theorem dX4_welcome_51 : decode cX4_welcome 51 = .ok (.goto (-49), 3) := by decide +kernel
theorem dX4_welcome_54 : decode cX4_welcome 54 = .ok (.return_, 1) := by decide +kernel
theorem dX4_playByGroups_0 : decode cX4_playByGroups 0 = .ok (.aload_n 0, 1) := by decide +kernel
theorem dX4_playByGroups_1 : decode cX4_playByGroups 1 = .ok (.getfield 21, 3) := by decide +kernel
theorem dX4_playByGroups_4 : decode cX4_playByGroups 4 = .ok (.getfield 65, 3) := by decide +kernel
theorem dX4_playByGroups_7 : decode cX4_playByGroups 7 = .ok (.ifCond .ne 8, 3) := by decide +kernel
theorem dX4_playByGroups_10 : decode cX4_playByGroups 10 = .ok (.aload_n 0, 1) := by decide +kernel
theorem dX4_playByGroups_11 : decode cX4_playByGroups 11 = .ok (.iload_n 1, 1) := by decide +kernel
theorem dX4_playByGroups_12 : decode cX4_playByGroups 12 = .ok (.invokevirtual 103, 3) := by decide +kernel
theorem dX4_playByGroups_15 : decode cX4_playByGroups 15 = .ok (.aload_n 0, 1) := by decide +kernel
theorem dX4_playByGroups_16 : decode cX4_playByGroups 16 = .ok (.getfield 21, 3) := by decide +kernel
theorem dX4_playByGroups_19 : decode cX4_playByGroups 19 = .ok (.invokevirtual 106, 3) := by decide +kernel
theorem dX4_playByGroups_22 : decode cX4_playByGroups 22 = .ok (.istore_n 2, 1) := by decide +kernel
theorem dX4_playByGroups_23 : decode cX4_playByGroups 23 = .ok (.aload_n 0, 1) := by decide +kernel
theorem dX4_playByGroups_24 : decode cX4_playByGroups 24 = .ok (.iload_n 1, 1) := by decide +kernel
theorem dX4_playByGroups_25 : decode cX4_playByGroups 25 = .ok (.iload_n 2, 1) := by decide +kernel
theorem dX4_playByGroups_26 : decode cX4_playByGroups 26 = .ok (.invokevirtual 110, 3) := by decide +kernel
theorem dX4_playByGroups_29 : decode cX4_playByGroups 29 = .ok (.istore_n 3, 1) := by decide +kernel
theorem dX4_playByGroups_30 : decode cX4_playByGroups 30 = .ok (.iload_n 3, 1) := by decide +kernel
theorem dX4_playByGroups_31 : decode cX4_playByGroups 31 = .ok (.iconst 2, 1) := by decide +kernel
theorem dX4_playByGroups_32 : decode cX4_playByGroups 32 = .ok (.if_icmp .ne 15, 3) := by decide +kernel
theorem dX4_playByGroups_35 : decode cX4_playByGroups 35 = .ok (.aload_n 0, 1) := by decide +kernel
theorem dX4_playByGroups_36 : decode cX4_playByGroups 36 = .ok (.invokevirtual 114, 3) := by decide +kernel
theorem dX4_playByGroups_39 : decode cX4_playByGroups 39 = .ok (.aload_n 0, 1) := by decide +kernel
theorem dX4_playByGroups_40 : decode cX4_playByGroups 40 = .ok (.iconst 0, 1) := by decide +kernel
theorem dX4_playByGroups_41 : decode cX4_playByGroups 41 = .ok (.putfield 59, 3) := by decide +kernel
theorem dX4_playByGroups_44 : decode cX4_playByGroups 44 = .ok (.goto 71, 3) := by decide +kernel
theorem dX4_playByGroups_47 : decode cX4_playByGroups 47 = .ok (.iload_n 3, 1) := by decide +kernel
theorem dX4_playByGroups_48 : decode cX4_playByGroups 48 = .ok (.ifCond .ne 21, 3) := by decide +kernel
theorem dX4_playByGroups_51 : decode cX4_playByGroups 51 = .ok (.aload_n 0, 1) := by decide +kernel
theorem dX4_playByGroups_52 : decode cX4_playByGroups 52 = .ok (.getfield 55, 3) := by decide +kernel
theorem dX4_playByGroups_55 : decode cX4_playByGroups 55 = .ok (.ifCond .eq 14, 3) := by decide +kernel
theorem dX4_playByGroups_58 : decode cX4_playByGroups 58 = .ok (.aload_n 0, 1) := by decide +kernel
theorem dX4_playByGroups_59 : decode cX4_playByGroups 59 = .ok (.invokevirtual 117, 3) := by decide +kernel
theorem dX4_playByGroups_62 : decode cX4_playByGroups 62 = .ok (.ifCond .eq 7, 3) := by decide +kernel
theorem dX4_playByGroups_65 : decode cX4_playByGroups 65 = .ok (.iconst 1, 1) := by decide +kernel
theorem dX4_playByGroups_66 : decode cX4_playByGroups 66 = .ok (.goto 4, 3) := by decide +kernel
theorem dX4_playByGroups_69 : decode cX4_playByGroups 69 = .ok (.iconst 0, 1) := by decide +kernel
theorem dX4_playByGroups_70 : decode cX4_playByGroups 70 = .ok (.istore 4, 2) := by decide +kernel
theorem dX4_playByGroups_72 : decode cX4_playByGroups 72 = .ok (.aload_n 0, 1) := by decide +kernel
theorem dX4_playByGroups_73 : decode cX4_playByGroups 73 = .ok (.getfield 21, 3) := by decide +kernel
theorem dX4_playByGroups_76 : decode cX4_playByGroups 76 = .ok (.invokevirtual 121, 3) := by decide +kernel
theorem dX4_playByGroups_79 : decode cX4_playByGroups 79 = .ok (.aload_n 0, 1) := by decide +kernel
theorem dX4_playByGroups_80 : decode cX4_playByGroups 80 = .ok (.iconst 0, 1) := by decide +kernel
theorem dX4_playByGroups_81 : decode cX4_playByGroups 81 = .ok (.putfield 55, 3) := by decide +kernel
theorem dX4_playByGroups_84 : decode cX4_playByGroups 84 = .ok (.iload 4, 2) := by decide +kernel
theorem dX4_playByGroups_86 : decode cX4_playByGroups 86 = .ok (.ifCond .eq 29, 3) := by decide +kernel
theorem dX4_playByGroups_89 : decode cX4_playByGroups 89 = .ok (.aload_n 0, 1) := by decide +kernel
theorem dX4_playByGroups_90 : decode cX4_playByGroups 90 = .ok (.invokevirtual 114, 3) := by decide +kernel
theorem dX4_playByGroups_93 : decode cX4_playByGroups 93 = .ok (.aload_n 0, 1) := by decide +kernel
theorem dX4_playByGroups_94 : decode cX4_playByGroups 94 = .ok (.dup, 1) := by decide +kernel
theorem dX4_playByGroups_95 : decode cX4_playByGroups 95 = .ok (.getfield 59, 3) := by decide +kernel
theorem dX4_playByGroups_98 : decode cX4_playByGroups 98 = .ok (.iconst 1, 1) := by decide +kernel
theorem dX4_playByGroups_99 : decode cX4_playByGroups 99 = .ok (.iadd, 1) := by decide +kernel
theorem dX4_playByGroups_100 : decode cX4_playByGroups 100 = .ok (.putfield 59, 3) := by decide +kernel
theorem dX4_playByGroups_103 : decode cX4_playByGroups 103 = .ok (.aload_n 0, 1) := by decide +kernel
theorem dX4_playByGroups_104 : decode cX4_playByGroups 104 = .ok (.getfield 32, 3) := by decide +kernel
theorem dX4_playByGroups_107 : decode cX4_playByGroups 107 = .ok (.getfield 124, 3) := by decide +kernel
theorem dX4_playByGroups_110 : decode cX4_playByGroups 110 = .ok (.iload_n 1, 1) := by decide +kernel
theorem dX4_playByGroups_111 : decode cX4_playByGroups 111 = .ok (.iconst 1, 1) := by decide +kernel
theorem dX4_playByGroups_112 : decode cX4_playByGroups 112 = .ok (.invokestatic 127, 3) := by decide +kernel
theorem dX4_playByGroups_115 : decode cX4_playByGroups 115 = .ok (.aload_n 0, 1) := by decide +kernel
theorem dX4_playByGroups_116 : decode cX4_playByGroups 116 = .ok (.getfield 21, 3) := by decide +kernel
theorem dX4_playByGroups_119 : decode cX4_playByGroups 119 = .ok (.getfield 65, 3) := by decide +kernel
theorem dX4_playByGroups_122 : decode cX4_playByGroups 122 = .ok (.ifCond .ne 8, 3) := by decide +kernel
theorem dX4_playByGroups_125 : decode cX4_playByGroups 125 = .ok (.aload_n 0, 1) := by decide +kernel
theorem dX4_playByGroups_126 : decode cX4_playByGroups 126 = .ok (.iload_n 1, 1) := by decide +kernel
theorem dX4_playByGroups_127 : decode cX4_playByGroups 127 = .ok (.invokevirtual 131, 3) := by decide +kernel
theorem dX4_playByGroups_130 : decode cX4_playByGroups 130 = .ok (.aload_n 0, 1) := by decide +kernel
theorem dX4_playByGroups_131 : decode cX4_playByGroups 131 = .ok (.getfield 32, 3) := by decide +kernel
theorem dX4_playByGroups_134 : decode cX4_playByGroups 134 = .ok (.getfield 134, 3) := by decide +kernel
theorem dX4_playByGroups_137 : decode cX4_playByGroups 137 = .ok (.iload_n 1, 1) := by decide +kernel
theorem dX4_playByGroups_138 : decode cX4_playByGroups 138 = .ok (.aload_n 0, 1) := by decide +kernel
theorem dX4_playByGroups_139 : decode cX4_playByGroups 139 = .ok (.getfield 21, 3) := by decide +kernel
theorem dX4_playByGroups_142 : decode cX4_playByGroups 142 = .ok (.getfield 65, 3) := by decide +kernel
theorem dX4_playByGroups_145 : decode cX4_playByGroups 145 = .ok (.invokestatic 127, 3) := by decide +kernel
theorem dX4_playByGroups_148 : decode cX4_playByGroups 148 = .ok (.return_, 1) := by decide +kernel
theorem dX4_maySkip_0 : decode cX4_maySkip 0 = .ok (.aload_n 0, 1) := by decide +kernel
theorem dX4_maySkip_1 : decode cX4_maySkip 1 = .ok (.getfield 36, 3) := by decide +kernel
theorem dX4_maySkip_4 : decode cX4_maySkip 4 = .ok (.iconst 1, 1) := by decide +kernel
theorem dX4_maySkip_5 : decode cX4_maySkip 5 = .ok (.if_icmp .eq 11, 3) := by decide +kernel
theorem dX4_maySkip_8 : decode cX4_maySkip 8 = .ok (.aload_n 0, 1) := by decide +kernel
theorem dX4_maySkip_9 : decode cX4_maySkip 9 = .ok (.getfield 36, 3) := by decide +kernel
theorem dX4_maySkip_12 : decode cX4_maySkip 12 = .ok (.iconst 3, 1) := by decide +kernel
theorem dX4_maySkip_13 : decode cX4_maySkip 13 = .ok (.if_icmp .ne 21, 3) := by decide +kernel
theorem dX4_maySkip_16 : decode cX4_maySkip 16 = .ok (.aload_n 0, 1) := by decide +kernel
theorem dX4_maySkip_17 : decode cX4_maySkip 17 = .ok (.getfield 59, 3) := by decide +kernel
theorem dX4_maySkip_20 : decode cX4_maySkip 20 = .ok (.aload_n 0, 1) := by decide +kernel
theorem dX4_maySkip_21 : decode cX4_maySkip 21 = .ok (.getfield 12, 3) := by decide +kernel
theorem dX4_maySkip_24 : decode cX4_maySkip 24 = .ok (.getfield 137, 3) := by decide +kernel
theorem dX4_maySkip_27 : decode cX4_maySkip 27 = .ok (.if_icmp .ge 7, 3) := by decide +kernel
theorem dX4_maySkip_30 : decode cX4_maySkip 30 = .ok (.iconst 1, 1) := by decide +kernel
theorem dX4_maySkip_31 : decode cX4_maySkip 31 = .ok (.goto 4, 3) := by decide +kernel
theorem dX4_maySkip_34 : decode cX4_maySkip 34 = .ok (.iconst 0, 1) := by decide +kernel
theorem dX4_maySkip_35 : decode cX4_maySkip 35 = .ok (.ireturn, 1) := by decide +kernel
theorem dX4_beginEpoch_0 : decode cX4_beginEpoch 0 = .ok (.aload_n 0, 1) := by decide +kernel
theorem dX4_beginEpoch_1 : decode cX4_beginEpoch 1 = .ok (.getfield 46, 3) := by decide +kernel
theorem dX4_beginEpoch_4 : decode cX4_beginEpoch 4 = .ok (.istore_n 2, 1) := by decide +kernel
theorem dX4_beginEpoch_5 : decode cX4_beginEpoch 5 = .ok (.aload_n 0, 1) := by decide +kernel
theorem dX4_beginEpoch_6 : decode cX4_beginEpoch 6 = .ok (.getfield 52, 3) := by decide +kernel
theorem dX4_beginEpoch_9 : decode cX4_beginEpoch 9 = .ok (.istore_n 3, 1) := by decide +kernel
theorem dX4_beginEpoch_10 : decode cX4_beginEpoch 10 = .ok (.aload_n 0, 1) := by decide +kernel
theorem dX4_beginEpoch_11 : decode cX4_beginEpoch 11 = .ok (.getfield 52, 3) := by decide +kernel
theorem dX4_beginEpoch_14 : decode cX4_beginEpoch 14 = .ok (.istore 4, 2) := by decide +kernel
theorem dX4_beginEpoch_16 : decode cX4_beginEpoch 16 = .ok (.aload_n 0, 1) := by decide +kernel
theorem dX4_beginEpoch_17 : decode cX4_beginEpoch 17 = .ok (.getfield 36, 3) := by decide +kernel
theorem dX4_beginEpoch_20 : decode cX4_beginEpoch 20 = .ok (.iconst 3, 1) := by decide +kernel
theorem dX4_beginEpoch_21 : decode cX4_beginEpoch 21 = .ok (.if_icmp .ne 58, 3) := by decide +kernel
theorem dX4_beginEpoch_24 : decode cX4_beginEpoch 24 = .ok (.aload_n 0, 1) := by decide +kernel
theorem dX4_beginEpoch_25 : decode cX4_beginEpoch 25 = .ok (.getfield 52, 3) := by decide +kernel
theorem dX4_beginEpoch_28 : decode cX4_beginEpoch 28 = .ok (.bipush 16, 2) := by decide +kernel
theorem dX4_beginEpoch_30 : decode cX4_beginEpoch 30 = .ok (.aload_n 0, 1) := by decide +kernel
theorem dX4_beginEpoch_31 : decode cX4_beginEpoch 31 = .ok (.getfield 12, 3) := by decide +kernel
theorem dX4_beginEpoch_34 : decode cX4_beginEpoch 34 = .ok (.getfield 140, 3) := by decide +kernel
theorem dX4_beginEpoch_37 : decode cX4_beginEpoch 37 = .ok (.imul, 1) := by decide +kernel
theorem dX4_beginEpoch_38 : decode cX4_beginEpoch 38 = .ok (.iadd, 1) := by decide +kernel
theorem dX4_beginEpoch_39 : decode cX4_beginEpoch 39 = .ok (.bipush 16, 2) := by decide +kernel
theorem dX4_beginEpoch_41 : decode cX4_beginEpoch 41 = .ok (.iload_n 1, 1) := by decide +kernel
theorem dX4_beginEpoch_42 : decode cX4_beginEpoch 42 = .ok (.imul, 1) := by decide +kernel
theorem dX4_beginEpoch_43 : decode cX4_beginEpoch 43 = .ok (.bipush 16, 2) := by decide +kernel
theorem dX4_beginEpoch_45 : decode cX4_beginEpoch 45 = .ok (.iadd, 1) := by decide +kernel
theorem dX4_beginEpoch_46 : decode cX4_beginEpoch 46 = .ok (.invokestatic 143, 3) := by decide +kernel
theorem dX4_beginEpoch_49 : decode cX4_beginEpoch 49 = .ok (.istore 4, 2) := by decide +kernel
theorem dX4_beginEpoch_51 : decode cX4_beginEpoch 51 = .ok (.aload_n 0, 1) := by decide +kernel
theorem dX4_beginEpoch_52 : decode cX4_beginEpoch 52 = .ok (.aload_n 0, 1) := by decide +kernel
theorem dX4_beginEpoch_53 : decode cX4_beginEpoch 53 = .ok (.getfield 46, 3) := by decide +kernel
theorem dX4_beginEpoch_56 : decode cX4_beginEpoch 56 = .ok (.iload_n 3, 1) := by decide +kernel
theorem dX4_beginEpoch_57 : decode cX4_beginEpoch 57 = .ok (.iload 4, 2) := by decide +kernel
theorem dX4_beginEpoch_59 : decode cX4_beginEpoch 59 = .ok (.invokevirtual 148, 3) := by decide +kernel
theorem dX4_beginEpoch_62 : decode cX4_beginEpoch 62 = .ok (.istore_n 2, 1) := by decide +kernel
theorem dX4_beginEpoch_63 : decode cX4_beginEpoch 63 = .ok (.aload_n 0, 1) := by decide +kernel
theorem dX4_beginEpoch_64 : decode cX4_beginEpoch 64 = .ok (.dup, 1) := by decide +kernel
theorem dX4_beginEpoch_65 : decode cX4_beginEpoch 65 = .ok (.getfield 49, 3) := by decide +kernel
theorem dX4_beginEpoch_68 : decode cX4_beginEpoch 68 = .ok (.iload_n 2, 1) := by decide +kernel
theorem dX4_beginEpoch_69 : decode cX4_beginEpoch 69 = .ok (.ior, 1) := by decide +kernel
theorem dX4_beginEpoch_70 : decode cX4_beginEpoch 70 = .ok (.putfield 49, 3) := by decide +kernel
theorem dX4_beginEpoch_73 : decode cX4_beginEpoch 73 = .ok (.aload_n 0, 1) := by decide +kernel
theorem dX4_beginEpoch_74 : decode cX4_beginEpoch 74 = .ok (.iload 4, 2) := by decide +kernel
theorem dX4_beginEpoch_76 : decode cX4_beginEpoch 76 = .ok (.putfield 52, 3) := by decide +kernel
theorem dX4_beginEpoch_79 : decode cX4_beginEpoch 79 = .ok (.aload_n 0, 1) := by decide +kernel
theorem dX4_beginEpoch_80 : decode cX4_beginEpoch 80 = .ok (.getfield 21, 3) := by decide +kernel
theorem dX4_beginEpoch_83 : decode cX4_beginEpoch 83 = .ok (.iload_n 2, 1) := by decide +kernel
theorem dX4_beginEpoch_84 : decode cX4_beginEpoch 84 = .ok (.iload_n 3, 1) := by decide +kernel
theorem dX4_beginEpoch_85 : decode cX4_beginEpoch 85 = .ok (.iload 4, 2) := by decide +kernel
theorem dX4_beginEpoch_87 : decode cX4_beginEpoch 87 = .ok (.invokevirtual 152, 3) := by decide +kernel
theorem dX4_beginEpoch_90 : decode cX4_beginEpoch 90 = .ok (.aload_n 0, 1) := by decide +kernel
theorem dX4_beginEpoch_91 : decode cX4_beginEpoch 91 = .ok (.iload_n 2, 1) := by decide +kernel
theorem dX4_beginEpoch_92 : decode cX4_beginEpoch 92 = .ok (.ifCond .eq 7, 3) := by decide +kernel
theorem dX4_beginEpoch_95 : decode cX4_beginEpoch 95 = .ok (.iconst 1, 1) := by decide +kernel
theorem dX4_beginEpoch_96 : decode cX4_beginEpoch 96 = .ok (.goto 4, 3) := by decide +kernel
theorem dX4_beginEpoch_99 : decode cX4_beginEpoch 99 = .ok (.iconst 0, 1) := by decide +kernel
theorem dX4_beginEpoch_100 : decode cX4_beginEpoch 100 = .ok (.putfield 62, 3) := by decide +kernel
theorem dX4_beginEpoch_103 : decode cX4_beginEpoch 103 = .ok (.aload_n 0, 1) := by decide +kernel
theorem dX4_beginEpoch_104 : decode cX4_beginEpoch 104 = .ok (.getfield 62, 3) := by decide +kernel
theorem dX4_beginEpoch_107 : decode cX4_beginEpoch 107 = .ok (.ifCond .eq 12, 3) := by decide +kernel
theorem dX4_beginEpoch_110 : decode cX4_beginEpoch 110 = .ok (.aload_n 0, 1) := by decide +kernel
theorem dX4_beginEpoch_111 : decode cX4_beginEpoch 111 = .ok (.getfield 32, 3) := by decide +kernel
theorem dX4_beginEpoch_114 : decode cX4_beginEpoch 114 = .ok (.iload_n 1, 1) := by decide +kernel
theorem dX4_beginEpoch_115 : decode cX4_beginEpoch 115 = .ok (.iload_n 2, 1) := by decide +kernel
theorem dX4_beginEpoch_116 : decode cX4_beginEpoch 116 = .ok (.invokevirtual 156, 3) := by decide +kernel
theorem dX4_beginEpoch_119 : decode cX4_beginEpoch 119 = .ok (.return_, 1) := by decide +kernel
theorem dX4_endEpoch_0 : decode cX4_endEpoch 0 = .ok (.aload_n 0, 1) := by decide +kernel
theorem dX4_endEpoch_1 : decode cX4_endEpoch 1 = .ok (.getfield 62, 3) := by decide +kernel
theorem dX4_endEpoch_4 : decode cX4_endEpoch 4 = .ok (.ifCond .eq 23, 3) := by decide +kernel
theorem dX4_endEpoch_7 : decode cX4_endEpoch 7 = .ok (.aload_n 0, 1) := by decide +kernel
theorem dX4_endEpoch_8 : decode cX4_endEpoch 8 = .ok (.getfield 32, 3) := by decide +kernel
theorem dX4_endEpoch_11 : decode cX4_endEpoch 11 = .ok (.getfield 160, 3) := by decide +kernel
theorem dX4_endEpoch_14 : decode cX4_endEpoch 14 = .ok (.aload_n 0, 1) := by decide +kernel
theorem dX4_endEpoch_15 : decode cX4_endEpoch 15 = .ok (.getfield 32, 3) := by decide +kernel
theorem dX4_endEpoch_18 : decode cX4_endEpoch 18 = .ok (.getfield 163, 3) := by decide +kernel
theorem dX4_endEpoch_21 : decode cX4_endEpoch 21 = .ok (.iconst 1, 1) := by decide +kernel
theorem dX4_endEpoch_22 : decode cX4_endEpoch 22 = .ok (.isub, 1) := by decide +kernel
theorem dX4_endEpoch_23 : decode cX4_endEpoch 23 = .ok (.iload_n 1, 1) := by decide +kernel
theorem dX4_endEpoch_24 : decode cX4_endEpoch 24 = .ok (.invokestatic 127, 3) := by decide +kernel
theorem dX4_endEpoch_27 : decode cX4_endEpoch 27 = .ok (.aload_n 0, 1) := by decide +kernel
theorem dX4_endEpoch_28 : decode cX4_endEpoch 28 = .ok (.getfield 49, 3) := by decide +kernel
theorem dX4_endEpoch_31 : decode cX4_endEpoch 31 = .ok (.aload_n 0, 1) := by decide +kernel
theorem dX4_endEpoch_32 : decode cX4_endEpoch 32 = .ok (.getfield 46, 3) := by decide +kernel
theorem dX4_endEpoch_35 : decode cX4_endEpoch 35 = .ok (.iand, 1) := by decide +kernel
theorem dX4_endEpoch_36 : decode cX4_endEpoch 36 = .ok (.istore_n 2, 1) := by decide +kernel
theorem dX4_endEpoch_37 : decode cX4_endEpoch 37 = .ok (.iconst 0, 1) := by decide +kernel
theorem dX4_endEpoch_38 : decode cX4_endEpoch 38 = .ok (.istore_n 3, 1) := by decide +kernel
theorem dX4_endEpoch_39 : decode cX4_endEpoch 39 = .ok (.iload_n 3, 1) := by decide +kernel
theorem dX4_endEpoch_40 : decode cX4_endEpoch 40 = .ok (.aload_n 0, 1) := by decide +kernel
theorem dX4_endEpoch_41 : decode cX4_endEpoch 41 = .ok (.getfield 12, 3) := by decide +kernel
theorem dX4_endEpoch_44 : decode cX4_endEpoch 44 = .ok (.getfield 93, 3) := by decide +kernel
theorem dX4_endEpoch_47 : decode cX4_endEpoch 47 = .ok (.if_icmp .ge 43, 3) := by decide +kernel
theorem dX4_endEpoch_50 : decode cX4_endEpoch 50 = .ok (.iload_n 2, 1) := by decide +kernel
theorem dX4_endEpoch_51 : decode cX4_endEpoch 51 = .ok (.iload_n 3, 1) := by decide +kernel
theorem dX4_endEpoch_52 : decode cX4_endEpoch 52 = .ok (.ishr, 1) := by decide +kernel
theorem dX4_endEpoch_53 : decode cX4_endEpoch 53 = .ok (.ifCond .eq 37, 3) := by decide +kernel
theorem dX4_endEpoch_56 : decode cX4_endEpoch 56 = .ok (.iload_n 2, 1) := by decide +kernel
theorem dX4_endEpoch_57 : decode cX4_endEpoch 57 = .ok (.iload_n 3, 1) := by decide +kernel
theorem dX4_endEpoch_58 : decode cX4_endEpoch 58 = .ok (.ishr, 1) := by decide +kernel
theorem dX4_endEpoch_59 : decode cX4_endEpoch 59 = .ok (.iconst 1, 1) := by decide +kernel
theorem dX4_endEpoch_60 : decode cX4_endEpoch 60 = .ok (.iand, 1) := by decide +kernel
theorem dX4_endEpoch_61 : decode cX4_endEpoch 61 = .ok (.iconst 1, 1) := by decide +kernel
theorem dX4_endEpoch_62 : decode cX4_endEpoch 62 = .ok (.if_icmp .ne 22, 3) := by decide +kernel
theorem dX4_endEpoch_65 : decode cX4_endEpoch 65 = .ok (.aload_n 0, 1) := by decide +kernel
theorem dX4_endEpoch_66 : decode cX4_endEpoch 66 = .ok (.aload_n 0, 1) := by decide +kernel
theorem dX4_endEpoch_67 : decode cX4_endEpoch 67 = .ok (.getfield 52, 3) := by decide +kernel
theorem dX4_endEpoch_70 : decode cX4_endEpoch 70 = .ok (.aload_n 0, 1) := by decide +kernel
theorem dX4_endEpoch_71 : decode cX4_endEpoch 71 = .ok (.getfield 12, 3) := by decide +kernel
theorem dX4_endEpoch_74 : decode cX4_endEpoch 74 = .ok (.iload_n 3, 1) := by decide +kernel
theorem dX4_endEpoch_75 : decode cX4_endEpoch 75 = .ok (.invokevirtual 166, 3) := by decide +kernel
theorem dX4_endEpoch_78 : decode cX4_endEpoch 78 = .ok (.invokestatic 143, 3) := by decide +kernel
theorem dX4_endEpoch_81 : decode cX4_endEpoch 81 = .ok (.putfield 52, 3) := by decide +kernel
theorem dX4_endEpoch_84 : decode cX4_endEpoch 84 = .ok (.iinc 3 1, 3) := by decide +kernel
theorem dX4_endEpoch_87 : decode cX4_endEpoch 87 = .ok (.goto (-48), 3) := by decide +kernel
theorem dX4_endEpoch_90 : decode cX4_endEpoch 90 = .ok (.return_, 1) := by decide +kernel
theorem dX4_within_0 : decode cX4_within 0 = .ok (.iconst 0, 1) := by decide +kernel
theorem dX4_within_1 : decode cX4_within 1 = .ok (.istore 4, 2) := by decide +kernel
theorem dX4_within_3 : decode cX4_within 3 = .ok (.iconst 0, 1) := by decide +kernel
theorem dX4_within_4 : decode cX4_within 4 = .ok (.istore 5, 2) := by decide +kernel
theorem dX4_within_6 : decode cX4_within 6 = .ok (.iload 5, 2) := by decide +kernel
theorem dX4_within_8 : decode cX4_within 8 = .ok (.aload_n 0, 1) := by decide +kernel
theorem dX4_within_9 : decode cX4_within 9 = .ok (.getfield 12, 3) := by decide +kernel
theorem dX4_within_12 : decode cX4_within 12 = .ok (.getfield 93, 3) := by decide +kernel
theorem dX4_within_15 : decode cX4_within 15 = .ok (.if_icmp .ge 58, 3) := by decide +kernel
theorem dX4_within_18 : decode cX4_within 18 = .ok (.iload_n 1, 1) := by decide +kernel
theorem dX4_within_19 : decode cX4_within 19 = .ok (.iload 5, 2) := by decide +kernel
theorem dX4_within_21 : decode cX4_within 21 = .ok (.ishr, 1) := by decide +kernel
theorem dX4_within_22 : decode cX4_within 22 = .ok (.ifCond .eq 51, 3) := by decide +kernel
theorem dX4_within_25 : decode cX4_within 25 = .ok (.aload_n 0, 1) := by decide +kernel
theorem dX4_within_26 : decode cX4_within 26 = .ok (.getfield 12, 3) := by decide +kernel
theorem dX4_within_29 : decode cX4_within 29 = .ok (.iload 5, 2) := by decide +kernel
theorem dX4_within_31 : decode cX4_within 31 = .ok (.invokevirtual 166, 3) := by decide +kernel
theorem dX4_within_34 : decode cX4_within 34 = .ok (.istore 6, 2) := by decide +kernel
theorem dX4_within_36 : decode cX4_within 36 = .ok (.iload_n 1, 1) := by decide +kernel
theorem dX4_within_37 : decode cX4_within 37 = .ok (.iload 5, 2) := by decide +kernel
theorem dX4_within_39 : decode cX4_within 39 = .ok (.ishr, 1) := by decide +kernel
theorem dX4_within_40 : decode cX4_within 40 = .ok (.iconst 1, 1) := by decide +kernel
theorem dX4_within_41 : decode cX4_within 41 = .ok (.iand, 1) := by decide +kernel
theorem dX4_within_42 : decode cX4_within 42 = .ok (.iconst 1, 1) := by decide +kernel
theorem dX4_within_43 : decode cX4_within 43 = .ok (.if_icmp .ne 24, 3) := by decide +kernel
theorem dX4_within_46 : decode cX4_within 46 = .ok (.iload 6, 2) := by decide +kernel
theorem dX4_within_48 : decode cX4_within 48 = .ok (.iload_n 2, 1) := by decide +kernel
theorem dX4_within_49 : decode cX4_within 49 = .ok (.if_icmp .lt 18, 3) := by decide +kernel
theorem dX4_within_52 : decode cX4_within 52 = .ok (.iload 6, 2) := by decide +kernel
theorem dX4_within_54 : decode cX4_within 54 = .ok (.iload_n 3, 1) := by decide +kernel
theorem dX4_within_55 : decode cX4_within 55 = .ok (.if_icmp .ge 12, 3) := by decide +kernel
theorem dX4_within_58 : decode cX4_within 58 = .ok (.iload 4, 2) := by decide +kernel
theorem dX4_within_60 : decode cX4_within 60 = .ok (.iconst 1, 1) := by decide +kernel
theorem dX4_within_61 : decode cX4_within 61 = .ok (.iload 5, 2) := by decide +kernel
theorem dX4_within_63 : decode cX4_within 63 = .ok (.ishl, 1) := by decide +kernel
theorem dX4_within_64 : decode cX4_within 64 = .ok (.ior, 1) := by decide +kernel
theorem dX4_within_65 : decode cX4_within 65 = .ok (.istore 4, 2) := by decide +kernel
theorem dX4_within_67 : decode cX4_within 67 = .ok (.iinc 5 1, 3) := by decide +kernel
theorem dX4_within_70 : decode cX4_within 70 = .ok (.goto (-64), 3) := by decide +kernel
theorem dX4_within_73 : decode cX4_within 73 = .ok (.iload 4, 2) := by decide +kernel
theorem dX4_within_75 : decode cX4_within 75 = .ok (.ireturn, 1) := by decide +kernel
theorem dX4_splitTop_0 : decode cX4_splitTop 0 = .ok (.aload_n 0, 1) := by decide +kernel
theorem dX4_splitTop_1 : decode cX4_splitTop 1 = .ok (.getfield 21, 3) := by decide +kernel
theorem dX4_splitTop_4 : decode cX4_splitTop 4 = .ok (.invokevirtual 106, 3) := by decide +kernel
theorem dX4_splitTop_7 : decode cX4_splitTop 7 = .ok (.istore_n 1, 1) := by decide +kernel
theorem dX4_splitTop_8 : decode cX4_splitTop 8 = .ok (.aload_n 0, 1) := by decide +kernel
theorem dX4_splitTop_9 : decode cX4_splitTop 9 = .ok (.getfield 21, 3) := by decide +kernel
theorem dX4_splitTop_12 : decode cX4_splitTop 12 = .ok (.getfield 170, 3) := by decide +kernel
theorem dX4_splitTop_15 : decode cX4_splitTop 15 = .ok (.aload_n 0, 1) := by decide +kernel
theorem dX4_splitTop_16 : decode cX4_splitTop 16 = .ok (.getfield 21, 3) := by decide +kernel
theorem dX4_splitTop_19 : decode cX4_splitTop 19 = .ok (.getfield 65, 3) := by decide +kernel
theorem dX4_splitTop_22 : decode cX4_splitTop 22 = .ok (.iconst 1, 1) := by decide +kernel
theorem dX4_splitTop_23 : decode cX4_splitTop 23 = .ok (.isub, 1) := by decide +kernel
theorem dX4_splitTop_24 : decode cX4_splitTop 24 = .ok (.invokestatic 99, 3) := by decide +kernel
theorem dX4_splitTop_27 : decode cX4_splitTop 27 = .ok (.istore_n 2, 1) := by decide +kernel
theorem dX4_splitTop_28 : decode cX4_splitTop 28 = .ok (.aload_n 0, 1) := by decide +kernel
theorem dX4_splitTop_29 : decode cX4_splitTop 29 = .ok (.getfield 21, 3) := by decide +kernel
theorem dX4_splitTop_32 : decode cX4_splitTop 32 = .ok (.getfield 173, 3) := by decide +kernel
theorem dX4_splitTop_35 : decode cX4_splitTop 35 = .ok (.aload_n 0, 1) := by decide +kernel
theorem dX4_splitTop_36 : decode cX4_splitTop 36 = .ok (.getfield 21, 3) := by decide +kernel
theorem dX4_splitTop_39 : decode cX4_splitTop 39 = .ok (.getfield 65, 3) := by decide +kernel
theorem dX4_splitTop_42 : decode cX4_splitTop 42 = .ok (.iconst 1, 1) := by decide +kernel
theorem dX4_splitTop_43 : decode cX4_splitTop 43 = .ok (.isub, 1) := by decide +kernel
theorem dX4_splitTop_44 : decode cX4_splitTop 44 = .ok (.invokestatic 99, 3) := by decide +kernel
theorem dX4_splitTop_47 : decode cX4_splitTop 47 = .ok (.istore_n 3, 1) := by decide +kernel
theorem dX4_splitTop_48 : decode cX4_splitTop 48 = .ok (.iload_n 2, 1) := by decide +kernel
theorem dX4_splitTop_49 : decode cX4_splitTop 49 = .ok (.iload_n 3, 1) := by decide +kernel
theorem dX4_splitTop_50 : decode cX4_splitTop 50 = .ok (.iload_n 2, 1) := by decide +kernel
theorem dX4_splitTop_51 : decode cX4_splitTop 51 = .ok (.isub, 1) := by decide +kernel
theorem dX4_splitTop_52 : decode cX4_splitTop 52 = .ok (.iconst 2, 1) := by decide +kernel
theorem dX4_splitTop_53 : decode cX4_splitTop 53 = .ok (.idiv, 1) := by decide +kernel
theorem dX4_splitTop_54 : decode cX4_splitTop 54 = .ok (.iadd, 1) := by decide +kernel
theorem dX4_splitTop_55 : decode cX4_splitTop 55 = .ok (.istore 4, 2) := by decide +kernel
theorem dX4_splitTop_57 : decode cX4_splitTop 57 = .ok (.aload_n 0, 1) := by decide +kernel
theorem dX4_splitTop_58 : decode cX4_splitTop 58 = .ok (.getfield 36, 3) := by decide +kernel
theorem dX4_splitTop_61 : decode cX4_splitTop 61 = .ok (.iconst 3, 1) := by decide +kernel
theorem dX4_splitTop_62 : decode cX4_splitTop 62 = .ok (.if_icmp .ne 14, 3) := by decide +kernel
theorem dX4_splitTop_65 : decode cX4_splitTop 65 = .ok (.aload_n 0, 1) := by decide +kernel
theorem dX4_splitTop_66 : decode cX4_splitTop 66 = .ok (.iload_n 1, 1) := by decide +kernel
theorem dX4_splitTop_67 : decode cX4_splitTop 67 = .ok (.iload_n 2, 1) := by decide +kernel
theorem dX4_splitTop_68 : decode cX4_splitTop 68 = .ok (.iload 4, 2) := by decide +kernel
theorem dX4_splitTop_70 : decode cX4_splitTop 70 = .ok (.invokevirtual 148, 3) := by decide +kernel
theorem dX4_splitTop_73 : decode cX4_splitTop 73 = .ok (.goto 8, 3) := by decide +kernel
theorem dX4_splitTop_76 : decode cX4_splitTop 76 = .ok (.aload_n 0, 1) := by decide +kernel
theorem dX4_splitTop_77 : decode cX4_splitTop 77 = .ok (.iload_n 1, 1) := by decide +kernel
theorem dX4_splitTop_78 : decode cX4_splitTop 78 = .ok (.invokevirtual 176, 3) := by decide +kernel
theorem dX4_splitTop_81 : decode cX4_splitTop 81 = .ok (.istore 5, 2) := by decide +kernel
theorem dX4_splitTop_83 : decode cX4_splitTop 83 = .ok (.aload_n 0, 1) := by decide +kernel
theorem dX4_splitTop_84 : decode cX4_splitTop 84 = .ok (.getfield 21, 3) := by decide +kernel
theorem dX4_splitTop_87 : decode cX4_splitTop 87 = .ok (.invokevirtual 121, 3) := by decide +kernel
theorem dX4_splitTop_90 : decode cX4_splitTop 90 = .ok (.aload_n 0, 1) := by decide +kernel
theorem dX4_splitTop_91 : decode cX4_splitTop 91 = .ok (.getfield 21, 3) := by decide +kernel
theorem dX4_splitTop_94 : decode cX4_splitTop 94 = .ok (.iload_n 1, 1) := by decide +kernel
theorem dX4_splitTop_95 : decode cX4_splitTop 95 = .ok (.iload 5, 2) := by decide +kernel
theorem dX4_splitTop_97 : decode cX4_splitTop 97 = .ok (.iconst (-1), 1) := by decide +kernel
theorem dX4_splitTop_98 : decode cX4_splitTop 98 = .ok (.ixor, 1) := by decide +kernel
theorem dX4_splitTop_99 : decode cX4_splitTop 99 = .ok (.iand, 1) := by decide +kernel
theorem dX4_splitTop_100 : decode cX4_splitTop 100 = .ok (.iload 4, 2) := by decide +kernel
theorem dX4_splitTop_102 : decode cX4_splitTop 102 = .ok (.iload_n 3, 1) := by decide +kernel
theorem dX4_splitTop_103 : decode cX4_splitTop 103 = .ok (.invokevirtual 152, 3) := by decide +kernel
theorem dX4_splitTop_106 : decode cX4_splitTop 106 = .ok (.aload_n 0, 1) := by decide +kernel
theorem dX4_splitTop_107 : decode cX4_splitTop 107 = .ok (.getfield 21, 3) := by decide +kernel
theorem dX4_splitTop_110 : decode cX4_splitTop 110 = .ok (.iload 5, 2) := by decide +kernel
theorem dX4_splitTop_112 : decode cX4_splitTop 112 = .ok (.iload_n 2, 1) := by decide +kernel
theorem dX4_splitTop_113 : decode cX4_splitTop 113 = .ok (.iload 4, 2) := by decide +kernel
theorem dX4_splitTop_115 : decode cX4_splitTop 115 = .ok (.invokevirtual 152, 3) := by decide +kernel
theorem dX4_splitTop_118 : decode cX4_splitTop 118 = .ok (.aload_n 0, 1) := by decide +kernel
theorem dX4_splitTop_119 : decode cX4_splitTop 119 = .ok (.iconst 1, 1) := by decide +kernel
theorem dX4_splitTop_120 : decode cX4_splitTop 120 = .ok (.putfield 55, 3) := by decide +kernel
theorem dX4_splitTop_123 : decode cX4_splitTop 123 = .ok (.return_, 1) := by decide +kernel
theorem dX4_takeBits_0 : decode cX4_takeBits 0 = .ok (.iconst 0, 1) := by decide +kernel
theorem dX4_takeBits_1 : decode cX4_takeBits 1 = .ok (.istore_n 2, 1) := by decide +kernel
theorem dX4_takeBits_2 : decode cX4_takeBits 2 = .ok (.iconst 0, 1) := by decide +kernel
theorem dX4_takeBits_3 : decode cX4_takeBits 3 = .ok (.istore_n 3, 1) := by decide +kernel
theorem dX4_takeBits_4 : decode cX4_takeBits 4 = .ok (.iload_n 3, 1) := by decide +kernel
theorem dX4_takeBits_5 : decode cX4_takeBits 5 = .ok (.aload_n 0, 1) := by decide +kernel
theorem dX4_takeBits_6 : decode cX4_takeBits 6 = .ok (.getfield 12, 3) := by decide +kernel
theorem dX4_takeBits_9 : decode cX4_takeBits 9 = .ok (.getfield 93, 3) := by decide +kernel
theorem dX4_takeBits_12 : decode cX4_takeBits 12 = .ok (.if_icmp .ge 38, 3) := by decide +kernel
theorem dX4_takeBits_15 : decode cX4_takeBits 15 = .ok (.iload_n 1, 1) := by decide +kernel
theorem dX4_takeBits_16 : decode cX4_takeBits 16 = .ok (.iload_n 3, 1) := by decide +kernel
theorem dX4_takeBits_17 : decode cX4_takeBits 17 = .ok (.ishr, 1) := by decide +kernel
theorem dX4_takeBits_18 : decode cX4_takeBits 18 = .ok (.ifCond .eq 32, 3) := by decide +kernel
theorem dX4_takeBits_21 : decode cX4_takeBits 21 = .ok (.iload_n 1, 1) := by decide +kernel
theorem dX4_takeBits_22 : decode cX4_takeBits 22 = .ok (.iload_n 3, 1) := by decide +kernel
theorem dX4_takeBits_23 : decode cX4_takeBits 23 = .ok (.ishr, 1) := by decide +kernel
theorem dX4_takeBits_24 : decode cX4_takeBits 24 = .ok (.iconst 1, 1) := by decide +kernel
theorem dX4_takeBits_25 : decode cX4_takeBits 25 = .ok (.iand, 1) := by decide +kernel
theorem dX4_takeBits_26 : decode cX4_takeBits 26 = .ok (.iconst 1, 1) := by decide +kernel
theorem dX4_takeBits_27 : decode cX4_takeBits 27 = .ok (.if_icmp .ne 17, 3) := by decide +kernel
theorem dX4_takeBits_30 : decode cX4_takeBits 30 = .ok (.aload_n 0, 1) := by decide +kernel
theorem dX4_takeBits_31 : decode cX4_takeBits 31 = .ok (.iload_n 3, 1) := by decide +kernel
theorem dX4_takeBits_32 : decode cX4_takeBits 32 = .ok (.invokevirtual 179, 3) := by decide +kernel
theorem dX4_takeBits_35 : decode cX4_takeBits 35 = .ok (.ifCond .ne 9, 3) := by decide +kernel
theorem dX4_takeBits_38 : decode cX4_takeBits 38 = .ok (.iload_n 2, 1) := by decide +kernel
theorem dX4_takeBits_39 : decode cX4_takeBits 39 = .ok (.iconst 1, 1) := by decide +kernel
theorem dX4_takeBits_40 : decode cX4_takeBits 40 = .ok (.iload_n 3, 1) := by decide +kernel
theorem dX4_takeBits_41 : decode cX4_takeBits 41 = .ok (.ishl, 1) := by decide +kernel
theorem dX4_takeBits_42 : decode cX4_takeBits 42 = .ok (.ior, 1) := by decide +kernel
theorem dX4_takeBits_43 : decode cX4_takeBits 43 = .ok (.istore_n 2, 1) := by decide +kernel
theorem dX4_takeBits_44 : decode cX4_takeBits 44 = .ok (.iinc 3 1, 3) := by decide +kernel
theorem dX4_takeBits_47 : decode cX4_takeBits 47 = .ok (.goto (-43), 3) := by decide +kernel
theorem dX4_takeBits_50 : decode cX4_takeBits 50 = .ok (.iload_n 2, 1) := by decide +kernel
theorem dX4_takeBits_51 : decode cX4_takeBits 51 = .ok (.ireturn, 1) := by decide +kernel
theorem dX4_nextBit_0 : decode cX4_nextBit 0 = .ok (.aload_n 0, 1) := by decide +kernel
theorem dX4_nextBit_1 : decode cX4_nextBit 1 = .ok (.getfield 32, 3) := by decide +kernel
theorem dX4_nextBit_4 : decode cX4_nextBit 4 = .ok (.getfield 182, 3) := by decide +kernel
theorem dX4_nextBit_7 : decode cX4_nextBit 7 = .ok (.iload_n 1, 1) := by decide +kernel
theorem dX4_nextBit_8 : decode cX4_nextBit 8 = .ok (.invokestatic 99, 3) := by decide +kernel
theorem dX4_nextBit_11 : decode cX4_nextBit 11 = .ok (.istore_n 2, 1) := by decide +kernel
theorem dX4_nextBit_12 : decode cX4_nextBit 12 = .ok (.aload_n 0, 1) := by decide +kernel
theorem dX4_nextBit_13 : decode cX4_nextBit 13 = .ok (.getfield 12, 3) := by decide +kernel
theorem dX4_nextBit_16 : decode cX4_nextBit 16 = .ok (.getfield 185, 3) := by decide +kernel
theorem dX4_nextBit_19 : decode cX4_nextBit 19 = .ok (.iload_n 1, 1) := by decide +kernel
theorem dX4_nextBit_20 : decode cX4_nextBit 20 = .ok (.invokestatic 99, 3) := by decide +kernel
theorem dX4_nextBit_23 : decode cX4_nextBit 23 = .ok (.istore_n 3, 1) := by decide +kernel
theorem dX4_nextBit_24 : decode cX4_nextBit 24 = .ok (.aload_n 0, 1) := by decide +kernel
theorem dX4_nextBit_25 : decode cX4_nextBit 25 = .ok (.getfield 32, 3) := by decide +kernel
theorem dX4_nextBit_28 : decode cX4_nextBit 28 = .ok (.getfield 182, 3) := by decide +kernel
theorem dX4_nextBit_31 : decode cX4_nextBit 31 = .ok (.iload_n 1, 1) := by decide +kernel
theorem dX4_nextBit_32 : decode cX4_nextBit 32 = .ok (.iload_n 2, 1) := by decide +kernel
theorem dX4_nextBit_33 : decode cX4_nextBit 33 = .ok (.iconst 1, 1) := by decide +kernel
theorem dX4_nextBit_34 : decode cX4_nextBit 34 = .ok (.iadd, 1) := by decide +kernel
theorem dX4_nextBit_35 : decode cX4_nextBit 35 = .ok (.invokestatic 127, 3) := by decide +kernel
theorem dX4_nextBit_38 : decode cX4_nextBit 38 = .ok (.iload_n 3, 1) := by decide +kernel
theorem dX4_nextBit_39 : decode cX4_nextBit 39 = .ok (.ifCond .le 27, 3) := by decide +kernel
theorem dX4_nextBit_42 : decode cX4_nextBit 42 = .ok (.aload_n 0, 1) := by decide +kernel
theorem dX4_nextBit_43 : decode cX4_nextBit 43 = .ok (.getfield 12, 3) := by decide +kernel
theorem dX4_nextBit_46 : decode cX4_nextBit 46 = .ok (.getfield 188, 3) := by decide +kernel
theorem dX4_nextBit_49 : decode cX4_nextBit 49 = .ok (.iload_n 1, 1) := by decide +kernel
theorem dX4_nextBit_50 : decode cX4_nextBit 50 = .ok (.invokestatic 99, 3) := by decide +kernel
theorem dX4_nextBit_53 : decode cX4_nextBit 53 = .ok (.iload_n 3, 1) := by decide +kernel
theorem dX4_nextBit_54 : decode cX4_nextBit 54 = .ok (.iconst 1, 1) := by decide +kernel
theorem dX4_nextBit_55 : decode cX4_nextBit 55 = .ok (.isub, 1) := by decide +kernel
theorem dX4_nextBit_56 : decode cX4_nextBit 56 = .ok (.iload_n 2, 1) := by decide +kernel
theorem dX4_nextBit_57 : decode cX4_nextBit 57 = .ok (.iload_n 3, 1) := by decide +kernel
theorem dX4_nextBit_58 : decode cX4_nextBit 58 = .ok (.irem, 1) := by decide +kernel
theorem dX4_nextBit_59 : decode cX4_nextBit 59 = .ok (.isub, 1) := by decide +kernel
theorem dX4_nextBit_60 : decode cX4_nextBit 60 = .ok (.ishr, 1) := by decide +kernel
theorem dX4_nextBit_61 : decode cX4_nextBit 61 = .ok (.iconst 1, 1) := by decide +kernel
theorem dX4_nextBit_62 : decode cX4_nextBit 62 = .ok (.iand, 1) := by decide +kernel
theorem dX4_nextBit_63 : decode cX4_nextBit 63 = .ok (.goto 4, 3) := by decide +kernel
theorem dX4_nextBit_66 : decode cX4_nextBit 66 = .ok (.iconst 0, 1) := by decide +kernel
theorem dX4_nextBit_67 : decode cX4_nextBit 67 = .ok (.ireturn, 1) := by decide +kernel
theorem dX4_listen_0 : decode cX4_listen 0 = .ok (.iload_n 2, 1) := by decide +kernel
theorem dX4_listen_1 : decode cX4_listen 1 = .ok (.invokestatic 191, 3) := by decide +kernel
theorem dX4_listen_4 : decode cX4_listen 4 = .ok (.istore_n 3, 1) := by decide +kernel
theorem dX4_listen_5 : decode cX4_listen 5 = .ok (.aload_n 0, 1) := by decide +kernel
theorem dX4_listen_6 : decode cX4_listen 6 = .ok (.iload_n 1, 1) := by decide +kernel
theorem dX4_listen_7 : decode cX4_listen 7 = .ok (.iload_n 3, 1) := by decide +kernel
theorem dX4_listen_8 : decode cX4_listen 8 = .ok (.iconst 2, 1) := by decide +kernel
theorem dX4_listen_9 : decode cX4_listen 9 = .ok (.invokestatic 143, 3) := by decide +kernel
theorem dX4_listen_12 : decode cX4_listen 12 = .ok (.invokevirtual 196, 3) := by decide +kernel
theorem dX4_listen_15 : decode cX4_listen 15 = .ok (.istore 4, 2) := by decide +kernel
theorem dX4_listen_17 : decode cX4_listen 17 = .ok (.aload_n 0, 1) := by decide +kernel
theorem dX4_listen_18 : decode cX4_listen 18 = .ok (.getfield 32, 3) := by decide +kernel
theorem dX4_listen_21 : decode cX4_listen 21 = .ok (.getfield 199, 3) := by decide +kernel
theorem dX4_listen_24 : decode cX4_listen 24 = .ok (.iload_n 1, 1) := by decide +kernel
theorem dX4_listen_25 : decode cX4_listen 25 = .ok (.iload_n 2, 1) := by decide +kernel
theorem dX4_listen_26 : decode cX4_listen 26 = .ok (.invokestatic 127, 3) := by decide +kernel
theorem dX4_listen_29 : decode cX4_listen 29 = .ok (.aload_n 0, 1) := by decide +kernel
theorem dX4_listen_30 : decode cX4_listen 30 = .ok (.getfield 32, 3) := by decide +kernel
theorem dX4_listen_33 : decode cX4_listen 33 = .ok (.getfield 202, 3) := by decide +kernel
theorem dX4_listen_36 : decode cX4_listen 36 = .ok (.iload_n 1, 1) := by decide +kernel
theorem dX4_listen_37 : decode cX4_listen 37 = .ok (.iload 4, 2) := by decide +kernel
theorem dX4_listen_39 : decode cX4_listen 39 = .ok (.invokestatic 127, 3) := by decide +kernel
theorem dX4_listen_42 : decode cX4_listen 42 = .ok (.iload_n 3, 1) := by decide +kernel
theorem dX4_listen_43 : decode cX4_listen 43 = .ok (.iconst 1, 1) := by decide +kernel
theorem dX4_listen_44 : decode cX4_listen 44 = .ok (.if_icmp .ne 13, 3) := by decide +kernel
theorem dX4_listen_47 : decode cX4_listen 47 = .ok (.iload 4, 2) := by decide +kernel
theorem dX4_listen_49 : decode cX4_listen 49 = .ok (.iconst 1, 1) := by decide +kernel
theorem dX4_listen_50 : decode cX4_listen 50 = .ok (.if_icmp .ne 7, 3) := by decide +kernel
theorem dX4_listen_53 : decode cX4_listen 53 = .ok (.iconst 1, 1) := by decide +kernel
theorem dX4_listen_54 : decode cX4_listen 54 = .ok (.goto 4, 3) := by decide +kernel
theorem dX4_listen_57 : decode cX4_listen 57 = .ok (.iconst 0, 1) := by decide +kernel
theorem dX4_listen_58 : decode cX4_listen 58 = .ok (.istore 5, 2) := by decide +kernel
theorem dX4_listen_60 : decode cX4_listen 60 = .ok (.iconst 0, 1) := by decide +kernel
theorem dX4_listen_61 : decode cX4_listen 61 = .ok (.istore 6, 2) := by decide +kernel
theorem dX4_listen_63 : decode cX4_listen 63 = .ok (.iload 6, 2) := by decide +kernel
theorem dX4_listen_65 : decode cX4_listen 65 = .ok (.aload_n 0, 1) := by decide +kernel
theorem dX4_listen_66 : decode cX4_listen 66 = .ok (.getfield 12, 3) := by decide +kernel
theorem dX4_listen_69 : decode cX4_listen 69 = .ok (.getfield 93, 3) := by decide +kernel
theorem dX4_listen_72 : decode cX4_listen 72 = .ok (.if_icmp .ge 67, 3) := by decide +kernel
theorem dX4_listen_75 : decode cX4_listen 75 = .ok (.iload_n 2, 1) := by decide +kernel
theorem dX4_listen_76 : decode cX4_listen 76 = .ok (.iload 6, 2) := by decide +kernel
theorem dX4_listen_78 : decode cX4_listen 78 = .ok (.ishr, 1) := by decide +kernel
theorem dX4_listen_79 : decode cX4_listen 79 = .ok (.ifCond .eq 60, 3) := by decide +kernel
theorem dX4_listen_82 : decode cX4_listen 82 = .ok (.iload_n 2, 1) := by decide +kernel
theorem dX4_listen_83 : decode cX4_listen 83 = .ok (.iload 6, 2) := by decide +kernel
theorem dX4_listen_85 : decode cX4_listen 85 = .ok (.ishr, 1) := by decide +kernel
theorem dX4_listen_86 : decode cX4_listen 86 = .ok (.iconst 1, 1) := by decide +kernel
theorem dX4_listen_87 : decode cX4_listen 87 = .ok (.iand, 1) := by decide +kernel
theorem dX4_listen_88 : decode cX4_listen 88 = .ok (.iconst 1, 1) := by decide +kernel
theorem dX4_listen_89 : decode cX4_listen 89 = .ok (.if_icmp .ne 44, 3) := by decide +kernel
theorem dX4_listen_92 : decode cX4_listen 92 = .ok (.aload_n 0, 1) := by decide +kernel
theorem dX4_listen_93 : decode cX4_listen 93 = .ok (.getfield 32, 3) := by decide +kernel
theorem dX4_listen_96 : decode cX4_listen 96 = .ok (.getfield 205, 3) := by decide +kernel
theorem dX4_listen_99 : decode cX4_listen 99 = .ok (.iload 6, 2) := by decide +kernel
theorem dX4_listen_101 : decode cX4_listen 101 = .ok (.aload_n 0, 1) := by decide +kernel
theorem dX4_listen_102 : decode cX4_listen 102 = .ok (.getfield 32, 3) := by decide +kernel
theorem dX4_listen_105 : decode cX4_listen 105 = .ok (.getfield 205, 3) := by decide +kernel
theorem dX4_listen_108 : decode cX4_listen 108 = .ok (.iload 6, 2) := by decide +kernel
theorem dX4_listen_110 : decode cX4_listen 110 = .ok (.invokestatic 99, 3) := by decide +kernel
theorem dX4_listen_113 : decode cX4_listen 113 = .ok (.iconst 1, 1) := by decide +kernel
theorem dX4_listen_114 : decode cX4_listen 114 = .ok (.iadd, 1) := by decide +kernel
theorem dX4_listen_115 : decode cX4_listen 115 = .ok (.invokestatic 127, 3) := by decide +kernel
theorem dX4_listen_118 : decode cX4_listen 118 = .ok (.iload 5, 2) := by decide +kernel
theorem dX4_listen_120 : decode cX4_listen 120 = .ok (.ifCond .eq 13, 3) := by decide +kernel
theorem dX4_listen_123 : decode cX4_listen 123 = .ok (.aload_n 0, 1) := by decide +kernel
theorem dX4_listen_124 : decode cX4_listen 124 = .ok (.getfield 32, 3) := by decide +kernel
theorem dX4_listen_127 : decode cX4_listen 127 = .ok (.iload 6, 2) := by decide +kernel
theorem dX4_listen_129 : decode cX4_listen 129 = .ok (.iload_n 1, 1) := by decide +kernel
theorem dX4_listen_130 : decode cX4_listen 130 = .ok (.invokevirtual 208, 3) := by decide +kernel
theorem dX4_listen_133 : decode cX4_listen 133 = .ok (.iinc 6 1, 3) := by decide +kernel
theorem dX4_listen_136 : decode cX4_listen 136 = .ok (.goto (-73), 3) := by decide +kernel
theorem dX4_listen_139 : decode cX4_listen 139 = .ok (.iload 5, 2) := by decide +kernel
theorem dX4_listen_141 : decode cX4_listen 141 = .ok (.ifCond .eq 15, 3) := by decide +kernel
theorem dX4_listen_144 : decode cX4_listen 144 = .ok (.aload_n 0, 1) := by decide +kernel
theorem dX4_listen_145 : decode cX4_listen 145 = .ok (.dup, 1) := by decide +kernel
theorem dX4_listen_146 : decode cX4_listen 146 = .ok (.getfield 46, 3) := by decide +kernel
theorem dX4_listen_149 : decode cX4_listen 149 = .ok (.iload_n 2, 1) := by decide +kernel
theorem dX4_listen_150 : decode cX4_listen 150 = .ok (.iconst (-1), 1) := by decide +kernel
theorem dX4_listen_151 : decode cX4_listen 151 = .ok (.ixor, 1) := by decide +kernel
theorem dX4_listen_152 : decode cX4_listen 152 = .ok (.iand, 1) := by decide +kernel
theorem dX4_listen_153 : decode cX4_listen 153 = .ok (.putfield 46, 3) := by decide +kernel
theorem dX4_listen_156 : decode cX4_listen 156 = .ok (.iload 4, 2) := by decide +kernel
theorem dX4_listen_158 : decode cX4_listen 158 = .ok (.ireturn, 1) := by decide +kernel
theorem dX4_heardAt_0 : decode cX4_heardAt 0 = .ok (.iconst 0, 1) := by decide +kernel
theorem dX4_heardAt_1 : decode cX4_heardAt 1 = .ok (.istore_n 3, 1) := by decide +kernel
theorem dX4_heardAt_2 : decode cX4_heardAt 2 = .ok (.iload_n 3, 1) := by decide +kernel
theorem dX4_heardAt_3 : decode cX4_heardAt 3 = .ok (.aload_n 0, 1) := by decide +kernel
theorem dX4_heardAt_4 : decode cX4_heardAt 4 = .ok (.getfield 12, 3) := by decide +kernel
theorem dX4_heardAt_7 : decode cX4_heardAt 7 = .ok (.getfield 211, 3) := by decide +kernel
theorem dX4_heardAt_10 : decode cX4_heardAt 10 = .ok (.if_icmp .ge 44, 3) := by decide +kernel
theorem dX4_heardAt_13 : decode cX4_heardAt 13 = .ok (.aload_n 0, 1) := by decide +kernel
theorem dX4_heardAt_14 : decode cX4_heardAt 14 = .ok (.getfield 12, 3) := by decide +kernel
theorem dX4_heardAt_17 : decode cX4_heardAt 17 = .ok (.getfield 214, 3) := by decide +kernel
theorem dX4_heardAt_20 : decode cX4_heardAt 20 = .ok (.iload_n 3, 1) := by decide +kernel
theorem dX4_heardAt_21 : decode cX4_heardAt 21 = .ok (.invokestatic 99, 3) := by decide +kernel
theorem dX4_heardAt_24 : decode cX4_heardAt 24 = .ok (.iload_n 1, 1) := by decide +kernel
theorem dX4_heardAt_25 : decode cX4_heardAt 25 = .ok (.if_icmp .ne 23, 3) := by decide +kernel
theorem dX4_heardAt_28 : decode cX4_heardAt 28 = .ok (.iload_n 3, 1) := by decide +kernel
theorem dX4_heardAt_29 : decode cX4_heardAt 29 = .ok (.aload_n 0, 1) := by decide +kernel
theorem dX4_heardAt_30 : decode cX4_heardAt 30 = .ok (.getfield 40, 3) := by decide +kernel
theorem dX4_heardAt_33 : decode cX4_heardAt 33 = .ok (.if_icmp .eq 15, 3) := by decide +kernel
theorem dX4_heardAt_36 : decode cX4_heardAt 36 = .ok (.aload_n 0, 1) := by decide +kernel
theorem dX4_heardAt_37 : decode cX4_heardAt 37 = .ok (.getfield 12, 3) := by decide +kernel
theorem dX4_heardAt_40 : decode cX4_heardAt 40 = .ok (.getfield 217, 3) := by decide +kernel
theorem dX4_heardAt_43 : decode cX4_heardAt 43 = .ok (.iload_n 3, 1) := by decide +kernel
theorem dX4_heardAt_44 : decode cX4_heardAt 44 = .ok (.invokestatic 99, 3) := by decide +kernel
theorem dX4_heardAt_47 : decode cX4_heardAt 47 = .ok (.ireturn, 1) := by decide +kernel
theorem dX4_heardAt_48 : decode cX4_heardAt 48 = .ok (.iinc 3 1, 3) := by decide +kernel
theorem dX4_heardAt_51 : decode cX4_heardAt 51 = .ok (.goto (-49), 3) := by decide +kernel
theorem dX4_heardAt_54 : decode cX4_heardAt 54 = .ok (.iload_n 2, 1) := by decide +kernel
theorem dX4_heardAt_55 : decode cX4_heardAt 55 = .ok (.ireturn, 1) := by decide +kernel
theorem dX4_playByCounters_0 : decode cX4_playByCounters 0 = .ok (.iconst 0, 1) := by decide +kernel
theorem dX4_playByCounters_1 : decode cX4_playByCounters 1 = .ok (.istore_n 2, 1) := by decide +kernel
theorem dX4_playByCounters_2 : decode cX4_playByCounters 2 = .ok (.iconst 0, 1) := by decide +kernel
theorem dX4_playByCounters_3 : decode cX4_playByCounters 3 = .ok (.istore_n 3, 1) := by decide +kernel
theorem dX4_playByCounters_4 : decode cX4_playByCounters 4 = .ok (.iload_n 3, 1) := by decide +kernel
theorem dX4_playByCounters_5 : decode cX4_playByCounters 5 = .ok (.aload_n 0, 1) := by decide +kernel
theorem dX4_playByCounters_6 : decode cX4_playByCounters 6 = .ok (.getfield 12, 3) := by decide +kernel
theorem dX4_playByCounters_9 : decode cX4_playByCounters 9 = .ok (.getfield 93, 3) := by decide +kernel
theorem dX4_playByCounters_12 : decode cX4_playByCounters 12 = .ok (.if_icmp .ge 47, 3) := by decide +kernel
theorem dX4_playByCounters_15 : decode cX4_playByCounters 15 = .ok (.aload_n 0, 1) := by decide +kernel
theorem dX4_playByCounters_16 : decode cX4_playByCounters 16 = .ok (.getfield 46, 3) := by decide +kernel
theorem dX4_playByCounters_19 : decode cX4_playByCounters 19 = .ok (.iload_n 3, 1) := by decide +kernel
theorem dX4_playByCounters_20 : decode cX4_playByCounters 20 = .ok (.ishr, 1) := by decide +kernel
theorem dX4_playByCounters_21 : decode cX4_playByCounters 21 = .ok (.ifCond .eq 38, 3) := by decide +kernel
theorem dX4_playByCounters_24 : decode cX4_playByCounters 24 = .ok (.aload_n 0, 1) := by decide +kernel
theorem dX4_playByCounters_25 : decode cX4_playByCounters 25 = .ok (.getfield 46, 3) := by decide +kernel
theorem dX4_playByCounters_28 : decode cX4_playByCounters 28 = .ok (.iload_n 3, 1) := by decide +kernel
theorem dX4_playByCounters_29 : decode cX4_playByCounters 29 = .ok (.ishr, 1) := by decide +kernel
theorem dX4_playByCounters_30 : decode cX4_playByCounters 30 = .ok (.iconst 1, 1) := by decide +kernel
theorem dX4_playByCounters_31 : decode cX4_playByCounters 31 = .ok (.iand, 1) := by decide +kernel
theorem dX4_playByCounters_32 : decode cX4_playByCounters 32 = .ok (.iconst 1, 1) := by decide +kernel
theorem dX4_playByCounters_33 : decode cX4_playByCounters 33 = .ok (.if_icmp .ne 20, 3) := by decide +kernel
theorem dX4_playByCounters_36 : decode cX4_playByCounters 36 = .ok (.aload_n 0, 1) := by decide +kernel
theorem dX4_playByCounters_37 : decode cX4_playByCounters 37 = .ok (.getfield 25, 3) := by decide +kernel
theorem dX4_playByCounters_40 : decode cX4_playByCounters 40 = .ok (.iload_n 3, 1) := by decide +kernel
theorem dX4_playByCounters_41 : decode cX4_playByCounters 41 = .ok (.invokestatic 99, 3) := by decide +kernel
theorem dX4_playByCounters_44 : decode cX4_playByCounters 44 = .ok (.ifCond .ne 9, 3) := by decide +kernel
theorem dX4_playByCounters_47 : decode cX4_playByCounters 47 = .ok (.iload_n 2, 1) := by decide +kernel
theorem dX4_playByCounters_48 : decode cX4_playByCounters 48 = .ok (.iconst 1, 1) := by decide +kernel
theorem dX4_playByCounters_49 : decode cX4_playByCounters 49 = .ok (.iload_n 3, 1) := by decide +kernel
theorem dX4_playByCounters_50 : decode cX4_playByCounters 50 = .ok (.ishl, 1) := by decide +kernel
theorem dX4_playByCounters_51 : decode cX4_playByCounters 51 = .ok (.ior, 1) := by decide +kernel
theorem dX4_playByCounters_52 : decode cX4_playByCounters 52 = .ok (.istore_n 2, 1) := by decide +kernel
theorem dX4_playByCounters_53 : decode cX4_playByCounters 53 = .ok (.iinc 3 1, 3) := by decide +kernel
theorem dX4_playByCounters_56 : decode cX4_playByCounters 56 = .ok (.goto (-52), 3) := by decide +kernel
theorem dX4_playByCounters_59 : decode cX4_playByCounters 59 = .ok (.aload_n 0, 1) := by decide +kernel
theorem dX4_playByCounters_60 : decode cX4_playByCounters 60 = .ok (.iload_n 1, 1) := by decide +kernel
theorem dX4_playByCounters_61 : decode cX4_playByCounters 61 = .ok (.iload_n 2, 1) := by decide +kernel
theorem dX4_playByCounters_62 : decode cX4_playByCounters 62 = .ok (.invokevirtual 110, 3) := by decide +kernel
theorem dX4_playByCounters_65 : decode cX4_playByCounters 65 = .ok (.istore_n 3, 1) := by decide +kernel
theorem dX4_playByCounters_66 : decode cX4_playByCounters 66 = .ok (.iconst (-1), 1) := by decide +kernel
theorem dX4_playByCounters_67 : decode cX4_playByCounters 67 = .ok (.istore 4, 2) := by decide +kernel
theorem dX4_playByCounters_69 : decode cX4_playByCounters 69 = .ok (.iconst 0, 1) := by decide +kernel
theorem dX4_playByCounters_70 : decode cX4_playByCounters 70 = .ok (.istore 5, 2) := by decide +kernel
theorem dX4_playByCounters_72 : decode cX4_playByCounters 72 = .ok (.iload 5, 2) := by decide +kernel
theorem dX4_playByCounters_74 : decode cX4_playByCounters 74 = .ok (.aload_n 0, 1) := by decide +kernel
theorem dX4_playByCounters_75 : decode cX4_playByCounters 75 = .ok (.getfield 12, 3) := by decide +kernel
theorem dX4_playByCounters_78 : decode cX4_playByCounters 78 = .ok (.getfield 93, 3) := by decide +kernel
theorem dX4_playByCounters_81 : decode cX4_playByCounters 81 = .ok (.if_icmp .ge 88, 3) := by decide +kernel
theorem dX4_playByCounters_84 : decode cX4_playByCounters 84 = .ok (.aload_n 0, 1) := by decide +kernel
theorem dX4_playByCounters_85 : decode cX4_playByCounters 85 = .ok (.getfield 46, 3) := by decide +kernel
theorem dX4_playByCounters_88 : decode cX4_playByCounters 88 = .ok (.iload 5, 2) := by decide +kernel
theorem dX4_playByCounters_90 : decode cX4_playByCounters 90 = .ok (.ishr, 1) := by decide +kernel
theorem dX4_playByCounters_91 : decode cX4_playByCounters 91 = .ok (.ifCond .eq 78, 3) := by decide +kernel
theorem dX4_playByCounters_94 : decode cX4_playByCounters 94 = .ok (.aload_n 0, 1) := by decide +kernel
theorem dX4_playByCounters_95 : decode cX4_playByCounters 95 = .ok (.getfield 46, 3) := by decide +kernel
theorem dX4_playByCounters_98 : decode cX4_playByCounters 98 = .ok (.iload 5, 2) := by decide +kernel
theorem dX4_playByCounters_100 : decode cX4_playByCounters 100 = .ok (.ishr, 1) := by decide +kernel
theorem dX4_playByCounters_101 : decode cX4_playByCounters 101 = .ok (.iconst 1, 1) := by decide +kernel
theorem dX4_playByCounters_102 : decode cX4_playByCounters 102 = .ok (.iand, 1) := by decide +kernel
theorem dX4_playByCounters_103 : decode cX4_playByCounters 103 = .ok (.iconst 1, 1) := by decide +kernel
theorem dX4_playByCounters_104 : decode cX4_playByCounters 104 = .ok (.if_icmp .ne 59, 3) := by decide +kernel
theorem dX4_playByCounters_107 : decode cX4_playByCounters 107 = .ok (.aload_n 0, 1) := by decide +kernel
theorem dX4_playByCounters_108 : decode cX4_playByCounters 108 = .ok (.getfield 25, 3) := by decide +kernel
theorem dX4_playByCounters_111 : decode cX4_playByCounters 111 = .ok (.iload 5, 2) := by decide +kernel
theorem dX4_playByCounters_113 : decode cX4_playByCounters 113 = .ok (.aload_n 0, 1) := by decide +kernel
theorem dX4_playByCounters_114 : decode cX4_playByCounters 114 = .ok (.iload 5, 2) := by decide +kernel
theorem dX4_playByCounters_116 : decode cX4_playByCounters 116 = .ok (.iload_n 2, 1) := by decide +kernel
theorem dX4_playByCounters_117 : decode cX4_playByCounters 117 = .ok (.iload 5, 2) := by decide +kernel
theorem dX4_playByCounters_119 : decode cX4_playByCounters 119 = .ok (.ishr, 1) := by decide +kernel
theorem dX4_playByCounters_120 : decode cX4_playByCounters 120 = .ok (.iconst 1, 1) := by decide +kernel
theorem dX4_playByCounters_121 : decode cX4_playByCounters 121 = .ok (.iand, 1) := by decide +kernel
theorem dX4_playByCounters_122 : decode cX4_playByCounters 122 = .ok (.iconst 1, 1) := by decide +kernel
theorem dX4_playByCounters_123 : decode cX4_playByCounters 123 = .ok (.if_icmp .ne 7, 3) := by decide +kernel
theorem dX4_playByCounters_126 : decode cX4_playByCounters 126 = .ok (.iconst 1, 1) := by decide +kernel
theorem dX4_playByCounters_127 : decode cX4_playByCounters 127 = .ok (.goto 4, 3) := by decide +kernel
theorem dX4_playByCounters_130 : decode cX4_playByCounters 130 = .ok (.iconst 0, 1) := by decide +kernel
theorem dX4_playByCounters_131 : decode cX4_playByCounters 131 = .ok (.iload_n 3, 1) := by decide +kernel
theorem dX4_playByCounters_132 : decode cX4_playByCounters 132 = .ok (.iconst 2, 1) := by decide +kernel
theorem dX4_playByCounters_133 : decode cX4_playByCounters 133 = .ok (.if_icmp .ne 7, 3) := by decide +kernel
theorem dX4_playByCounters_136 : decode cX4_playByCounters 136 = .ok (.iconst 1, 1) := by decide +kernel
theorem dX4_playByCounters_137 : decode cX4_playByCounters 137 = .ok (.goto 4, 3) := by decide +kernel
theorem dX4_playByCounters_140 : decode cX4_playByCounters 140 = .ok (.iconst 0, 1) := by decide +kernel
theorem dX4_playByCounters_141 : decode cX4_playByCounters 141 = .ok (.invokevirtual 220, 3) := by decide +kernel
theorem dX4_playByCounters_144 : decode cX4_playByCounters 144 = .ok (.invokestatic 127, 3) := by decide +kernel
theorem dX4_playByCounters_147 : decode cX4_playByCounters 147 = .ok (.iload 4, 2) := by decide +kernel
theorem dX4_playByCounters_149 : decode cX4_playByCounters 149 = .ok (.aload_n 0, 1) := by decide +kernel
theorem dX4_playByCounters_150 : decode cX4_playByCounters 150 = .ok (.getfield 25, 3) := by decide +kernel
theorem dX4_playByCounters_153 : decode cX4_playByCounters 153 = .ok (.iload 5, 2) := by decide +kernel
theorem dX4_playByCounters_155 : decode cX4_playByCounters 155 = .ok (.invokestatic 99, 3) := by decide +kernel
theorem dX4_playByCounters_158 : decode cX4_playByCounters 158 = .ok (.invokestatic 224, 3) := by decide +kernel
theorem dX4_playByCounters_161 : decode cX4_playByCounters 161 = .ok (.istore 4, 2) := by decide +kernel
theorem dX4_playByCounters_163 : decode cX4_playByCounters 163 = .ok (.iinc 5 1, 3) := by decide +kernel
theorem dX4_playByCounters_166 : decode cX4_playByCounters 166 = .ok (.goto (-94), 3) := by decide +kernel
theorem dX4_playByCounters_169 : decode cX4_playByCounters 169 = .ok (.aload_n 0, 1) := by decide +kernel
theorem dX4_playByCounters_170 : decode cX4_playByCounters 170 = .ok (.getfield 32, 3) := by decide +kernel
theorem dX4_playByCounters_173 : decode cX4_playByCounters 173 = .ok (.getfield 134, 3) := by decide +kernel
theorem dX4_playByCounters_176 : decode cX4_playByCounters 176 = .ok (.iload_n 1, 1) := by decide +kernel
theorem dX4_playByCounters_177 : decode cX4_playByCounters 177 = .ok (.iload 4, 2) := by decide +kernel
theorem dX4_playByCounters_179 : decode cX4_playByCounters 179 = .ok (.iconst 1, 1) := by decide +kernel
theorem dX4_playByCounters_180 : decode cX4_playByCounters 180 = .ok (.iadd, 1) := by decide +kernel
theorem dX4_playByCounters_181 : decode cX4_playByCounters 181 = .ok (.invokestatic 127, 3) := by decide +kernel
theorem dX4_playByCounters_184 : decode cX4_playByCounters 184 = .ok (.return_, 1) := by decide +kernel
theorem dX4_counterBehind_0 : decode cX4_counterBehind 0 = .ok (.aload_n 0, 1) := by decide +kernel
theorem dX4_counterBehind_1 : decode cX4_counterBehind 1 = .ok (.getfield 25, 3) := by decide +kernel
theorem dX4_counterBehind_4 : decode cX4_counterBehind 4 = .ok (.iload_n 1, 1) := by decide +kernel
theorem dX4_counterBehind_5 : decode cX4_counterBehind 5 = .ok (.invokestatic 99, 3) := by decide +kernel
theorem dX4_counterBehind_8 : decode cX4_counterBehind 8 = .ok (.istore 4, 2) := by decide +kernel
theorem dX4_counterBehind_10 : decode cX4_counterBehind 10 = .ok (.iload_n 2, 1) := by decide +kernel
theorem dX4_counterBehind_11 : decode cX4_counterBehind 11 = .ok (.ifCond .eq 18, 3) := by decide +kernel
theorem dX4_counterBehind_14 : decode cX4_counterBehind 14 = .ok (.iload_n 3, 1) := by decide +kernel
theorem dX4_counterBehind_15 : decode cX4_counterBehind 15 = .ok (.ifCond .eq 11, 3) := by decide +kernel
theorem dX4_counterBehind_18 : decode cX4_counterBehind 18 = .ok (.aload_n 0, 1) := by decide +kernel
theorem dX4_counterBehind_19 : decode cX4_counterBehind 19 = .ok (.iload_n 1, 1) := by decide +kernel
theorem dX4_counterBehind_20 : decode cX4_counterBehind 20 = .ok (.invokevirtual 179, 3) := by decide +kernel
theorem dX4_counterBehind_23 : decode cX4_counterBehind 23 = .ok (.goto 5, 3) := by decide +kernel
theorem dX4_counterBehind_26 : decode cX4_counterBehind 26 = .ok (.iload 4, 2) := by decide +kernel
theorem dX4_counterBehind_28 : decode cX4_counterBehind 28 = .ok (.ireturn, 1) := by decide +kernel
theorem dX4_counterBehind_29 : decode cX4_counterBehind 29 = .ok (.iload_n 3, 1) := by decide +kernel
theorem dX4_counterBehind_30 : decode cX4_counterBehind 30 = .ok (.ifCond .eq 10, 3) := by decide +kernel
theorem dX4_counterBehind_33 : decode cX4_counterBehind 33 = .ok (.iload 4, 2) := by decide +kernel
theorem dX4_counterBehind_35 : decode cX4_counterBehind 35 = .ok (.iconst 1, 1) := by decide +kernel
theorem dX4_counterBehind_36 : decode cX4_counterBehind 36 = .ok (.iadd, 1) := by decide +kernel
theorem dX4_counterBehind_37 : decode cX4_counterBehind 37 = .ok (.goto 7, 3) := by decide +kernel
theorem dX4_counterBehind_40 : decode cX4_counterBehind 40 = .ok (.iload 4, 2) := by decide +kernel
theorem dX4_counterBehind_42 : decode cX4_counterBehind 42 = .ok (.iconst 1, 1) := by decide +kernel
theorem dX4_counterBehind_43 : decode cX4_counterBehind 43 = .ok (.isub, 1) := by decide +kernel
theorem dX4_counterBehind_44 : decode cX4_counterBehind 44 = .ok (.ireturn, 1) := by decide +kernel
theorem dX5_init_0 : decode cX5_init 0 = .ok (.aload_n 0, 1) := by decide +kernel
theorem dX5_init_1 : decode cX5_init 1 = .ok (.invokespecial 3, 3) := by decide +kernel
theorem dX5_init_4 : decode cX5_init 4 = .ok (.aload_n 0, 1) := by decide +kernel
theorem dX5_init_5 : decode cX5_init 5 = .ok (.new 9, 3) := by decide +kernel
theorem dX5_init_8 : decode cX5_init 8 = .ok (.dup, 1) := by decide +kernel
theorem dX5_init_9 : decode cX5_init 9 = .ok (.invokespecial 11, 3) := by decide +kernel
theorem dX5_init_12 : decode cX5_init 12 = .ok (.putfield 12, 3) := by decide +kernel
theorem dX5_init_15 : decode cX5_init 15 = .ok (.aload_n 0, 1) := by decide +kernel
theorem dX5_init_16 : decode cX5_init 16 = .ok (.new 18, 3) := by decide +kernel
theorem dX5_init_19 : decode cX5_init 19 = .ok (.dup, 1) := by decide +kernel
theorem dX5_init_20 : decode cX5_init 20 = .ok (.invokespecial 20, 3) := by decide +kernel
theorem dX5_init_23 : decode cX5_init 23 = .ok (.putfield 21, 3) := by decide +kernel
theorem dX5_init_26 : decode cX5_init 26 = .ok (.aload_n 0, 1) := by decide +kernel
theorem dX5_init_27 : decode cX5_init 27 = .ok (.iconst (-1), 1) := by decide +kernel
theorem dX5_init_28 : decode cX5_init 28 = .ok (.putfield 25, 3) := by decide +kernel
theorem dX5_init_31 : decode cX5_init 31 = .ok (.return_, 1) := by decide +kernel
theorem dX5_read_0 : decode cX5_read 0 = .ok (.aload_n 0, 1) := by decide +kernel
theorem dX5_read_1 : decode cX5_read 1 = .ok (.getfield 21, 3) := by decide +kernel
theorem dX5_read_4 : decode cX5_read 4 = .ok (.invokevirtual 29, 3) := by decide +kernel
theorem dX5_read_7 : decode cX5_read 7 = .ok (.aload_n 0, 1) := by decide +kernel
theorem dX5_read_8 : decode cX5_read 8 = .ok (.iconst 0, 1) := by decide +kernel
theorem dX5_read_9 : decode cX5_read 9 = .ok (.putfield 32, 3) := by decide +kernel
theorem dX5_read_12 : decode cX5_read 12 = .ok (.aload_n 0, 1) := by decide +kernel
theorem dX5_read_13 : decode cX5_read 13 = .ok (.iconst (-1), 1) := by decide +kernel
theorem dX5_read_14 : decode cX5_read 14 = .ok (.putfield 25, 3) := by decide +kernel
theorem dX5_read_17 : decode cX5_read 17 = .ok (.aload_n 0, 1) := by decide +kernel
theorem dX5_read_18 : decode cX5_read 18 = .ok (.iconst 0, 1) := by decide +kernel
theorem dX5_read_19 : decode cX5_read 19 = .ok (.putfield 35, 3) := by decide +kernel
theorem dX5_read_22 : decode cX5_read 22 = .ok (.iconst 0, 1) := by decide +kernel
theorem dX5_read_23 : decode cX5_read 23 = .ok (.istore_n 1, 1) := by decide +kernel
theorem dX5_read_24 : decode cX5_read 24 = .ok (.iload_n 1, 1) := by decide +kernel
theorem dX5_read_25 : decode cX5_read 25 = .ok (.sipush 500, 3) := by decide +kernel
theorem dX5_read_28 : decode cX5_read 28 = .ok (.if_icmp .gt 44, 3) := by decide +kernel
theorem dX5_read_31 : decode cX5_read 31 = .ok (.aload_n 0, 1) := by decide +kernel
theorem dX5_read_32 : decode cX5_read 32 = .ok (.invokevirtual 38, 3) := by decide +kernel
theorem dX5_read_35 : decode cX5_read 35 = .ok (.aload_n 0, 1) := by decide +kernel
theorem dX5_read_36 : decode cX5_read 36 = .ok (.getfield 41, 3) := by decide +kernel
theorem dX5_read_39 : decode cX5_read 39 = .ok (.ifCond .ne 5, 3) := by decide +kernel
theorem dX5_read_42 : decode cX5_read 42 = .ok (.iconst 1, 1) := by decide +kernel
theorem dX5_read_43 : decode cX5_read 43 = .ok (.ireturn, 1) := by decide +kernel
theorem dX5_read_44 : decode cX5_read 44 = .ok (.aload_n 0, 1) := by decide +kernel
theorem dX5_read_45 : decode cX5_read 45 = .ok (.invokevirtual 44, 3) := by decide +kernel
theorem dX5_read_48 : decode cX5_read 48 = .ok (.ifCond .ne 5, 3) := by decide +kernel
theorem dX5_read_51 : decode cX5_read 51 = .ok (.iconst 0, 1) := by decide +kernel
theorem dX5_read_52 : decode cX5_read 52 = .ok (.ireturn, 1) := by decide +kernel
theorem dX5_read_53 : decode cX5_read 53 = .ok (.aload_n 0, 1) := by decide +kernel
theorem dX5_read_54 : decode cX5_read 54 = .ok (.getfield 21, 3) := by decide +kernel
theorem dX5_read_57 : decode cX5_read 57 = .ok (.dup, 1) := by decide +kernel
theorem dX5_read_58 : decode cX5_read 58 = .ok (.getfield 48, 3) := by decide +kernel
theorem dX5_read_61 : decode cX5_read 61 = .ok (.iconst 1, 1) := by decide +kernel
theorem dX5_read_62 : decode cX5_read 62 = .ok (.iadd, 1) := by decide +kernel
theorem dX5_read_63 : decode cX5_read 63 = .ok (.putfield 48, 3) := by decide +kernel
theorem dX5_read_66 : decode cX5_read 66 = .ok (.iinc 1 1, 3) := by decide +kernel
theorem dX5_read_69 : decode cX5_read 69 = .ok (.goto (-45), 3) := by decide +kernel
theorem dX5_read_72 : decode cX5_read 72 = .ok (.iconst 1, 1) := by decide +kernel
theorem dX5_read_73 : decode cX5_read 73 = .ok (.ireturn, 1) := by decide +kernel
theorem dX5_readLine_0 : decode cX5_readLine 0 = .ok (.aload_n 0, 1) := by decide +kernel
theorem dX5_readLine_1 : decode cX5_readLine 1 = .ok (.ldc 51, 2) := by decide +kernel
theorem dX5_readLine_3 : decode cX5_readLine 3 = .ok (.invokevirtual 53, 3) := by decide +kernel
theorem dX5_readLine_6 : decode cX5_readLine 6 = .ok (.ifCond .eq 26, 3) := by decide +kernel
theorem dX5_readLine_9 : decode cX5_readLine 9 = .ok (.aload_n 0, 1) := by decide +kernel
theorem dX5_readLine_10 : decode cX5_readLine 10 = .ok (.getfield 21, 3) := by decide +kernel
theorem dX5_readLine_13 : decode cX5_readLine 13 = .ok (.getfield 48, 3) := by decide +kernel
theorem dX5_readLine_16 : decode cX5_readLine 16 = .ok (.ifCond .ne 10, 3) := by decide +kernel
theorem dX5_readLine_19 : decode cX5_readLine 19 = .ok (.aload_n 0, 1) := by decide +kernel
theorem dX5_readLine_20 : decode cX5_readLine 20 = .ok (.invokevirtual 57, 3) := by decide +kernel
theorem dX5_readLine_23 : decode cX5_readLine 23 = .ok (.goto 8, 3) := by decide +kernel
theorem dX5_readLine_26 : decode cX5_readLine 26 = .ok (.aload_n 0, 1) := by decide +kernel
theorem dX5_readLine_27 : decode cX5_readLine 27 = .ok (.iconst 1, 1) := by decide +kernel
theorem dX5_readLine_28 : decode cX5_readLine 28 = .ok (.invokevirtual 60, 3) := by decide +kernel
theorem dX5_readLine_31 : decode cX5_readLine 31 = .ok (.ireturn, 1) := by decide +kernel
theorem dX5_readLine_32 : decode cX5_readLine 32 = .ok (.aload_n 0, 1) := by decide +kernel
theorem dX5_readLine_33 : decode cX5_readLine 33 = .ok (.getfield 21, 3) := by decide +kernel
theorem dX5_readLine_36 : decode cX5_readLine 36 = .ok (.getfield 48, 3) := by decide +kernel
theorem dX5_readLine_39 : decode cX5_readLine 39 = .ok (.ifCond .le 17, 3) := by decide +kernel
theorem dX5_readLine_42 : decode cX5_readLine 42 = .ok (.aload_n 0, 1) := by decide +kernel
theorem dX5_readLine_43 : decode cX5_readLine 43 = .ok (.ldc 64, 2) := by decide +kernel
theorem dX5_readLine_45 : decode cX5_readLine 45 = .ok (.invokevirtual 53, 3) := by decide +kernel
theorem dX5_readLine_48 : decode cX5_readLine 48 = .ok (.ifCond .eq 8, 3) := by decide +kernel
theorem dX5_readLine_51 : decode cX5_readLine 51 = .ok (.aload_n 0, 1) := by decide +kernel
theorem dX5_readLine_52 : decode cX5_readLine 52 = .ok (.invokevirtual 66, 3) := by decide +kernel
theorem dX5_readLine_55 : decode cX5_readLine 55 = .ok (.ireturn, 1) := by decide +kernel
theorem dX5_readLine_56 : decode cX5_readLine 56 = .ok (.aload_n 0, 1) := by decide +kernel
theorem dX5_readLine_57 : decode cX5_readLine 57 = .ok (.getfield 21, 3) := by decide +kernel
theorem dX5_readLine_60 : decode cX5_readLine 60 = .ok (.getfield 48, 3) := by decide +kernel
theorem dX5_readLine_63 : decode cX5_readLine 63 = .ok (.ifCond .le 17, 3) := by decide +kernel
theorem dX5_readLine_66 : decode cX5_readLine 66 = .ok (.aload_n 0, 1) := by decide +kernel
theorem dX5_readLine_67 : decode cX5_readLine 67 = .ok (.ldc 69, 2) := by decide +kernel
theorem dX5_readLine_69 : decode cX5_readLine 69 = .ok (.invokevirtual 53, 3) := by decide +kernel
theorem dX5_readLine_72 : decode cX5_readLine 72 = .ok (.ifCond .eq 8, 3) := by decide +kernel
theorem dX5_readLine_75 : decode cX5_readLine 75 = .ok (.aload_n 0, 1) := by decide +kernel
theorem dX5_readLine_76 : decode cX5_readLine 76 = .ok (.invokevirtual 71, 3) := by decide +kernel
theorem dX5_readLine_79 : decode cX5_readLine 79 = .ok (.ireturn, 1) := by decide +kernel
theorem dX5_readLine_80 : decode cX5_readLine 80 = .ok (.aload_n 0, 1) := by decide +kernel
theorem dX5_readLine_81 : decode cX5_readLine 81 = .ok (.iconst 1, 1) := by decide +kernel
theorem dX5_readLine_82 : decode cX5_readLine 82 = .ok (.invokevirtual 60, 3) := by decide +kernel
theorem dX5_readLine_85 : decode cX5_readLine 85 = .ok (.ireturn, 1) := by decide +kernel
theorem dX5_readChannel_0 : decode cX5_readChannel 0 = .ok (.aload_n 0, 1) := by decide +kernel
theorem dX5_readChannel_1 : decode cX5_readChannel 1 = .ok (.ldc 74, 2) := by decide +kernel
theorem dX5_readChannel_3 : decode cX5_readChannel 3 = .ok (.invokevirtual 76, 3) := by decide +kernel
theorem dX5_readChannel_6 : decode cX5_readChannel 6 = .ok (.ifCond .eq 12, 3) := by decide +kernel
theorem dX5_readChannel_9 : decode cX5_readChannel 9 = .ok (.aload_n 0, 1) := by decide +kernel
theorem dX5_readChannel_10 : decode cX5_readChannel 10 = .ok (.iconst 0, 1) := by decide +kernel
theorem dX5_readChannel_11 : decode cX5_readChannel 11 = .ok (.iconst 3, 1) := by decide +kernel
theorem dX5_readChannel_12 : decode cX5_readChannel 12 = .ok (.invokevirtual 79, 3) := by decide +kernel
theorem dX5_readChannel_15 : decode cX5_readChannel 15 = .ok (.ifCond .ne 5, 3) := by decide +kernel
theorem dX5_readChannel_18 : decode cX5_readChannel 18 = .ok (.iconst 0, 1) := by decide +kernel
theorem dX5_readChannel_19 : decode cX5_readChannel 19 = .ok (.ireturn, 1) := by decide +kernel
theorem dX5_readChannel_20 : decode cX5_readChannel 20 = .ok (.aload_n 0, 1) := by decide +kernel
theorem dX5_readChannel_21 : decode cX5_readChannel 21 = .ok (.getfield 21, 3) := by decide +kernel
theorem dX5_readChannel_24 : decode cX5_readChannel 24 = .ok (.aload_n 0, 1) := by decide +kernel
theorem dX5_readChannel_25 : decode cX5_readChannel 25 = .ok (.getfield 83, 3) := by decide +kernel
theorem dX5_readChannel_28 : decode cX5_readChannel 28 = .ok (.putfield 86, 3) := by decide +kernel
theorem dX5_readChannel_31 : decode cX5_readChannel 31 = .ok (.aload_n 0, 1) := by decide +kernel
theorem dX5_readChannel_32 : decode cX5_readChannel 32 = .ok (.ldc 88, 2) := by decide +kernel
theorem dX5_readChannel_34 : decode cX5_readChannel 34 = .ok (.invokevirtual 76, 3) := by decide +kernel
theorem dX5_readChannel_37 : decode cX5_readChannel 37 = .ok (.ifCond .eq 14, 3) := by decide +kernel
theorem dX5_readChannel_40 : decode cX5_readChannel 40 = .ok (.aload_n 0, 1) := by decide +kernel
theorem dX5_readChannel_41 : decode cX5_readChannel 41 = .ok (.iconst 1, 1) := by decide +kernel
theorem dX5_readChannel_42 : decode cX5_readChannel 42 = .ok (.sipush 200, 3) := by decide +kernel
theorem dX5_readChannel_45 : decode cX5_readChannel 45 = .ok (.invokevirtual 79, 3) := by decide +kernel
theorem dX5_readChannel_48 : decode cX5_readChannel 48 = .ok (.ifCond .ne 5, 3) := by decide +kernel
theorem dX5_readChannel_51 : decode cX5_readChannel 51 = .ok (.iconst 0, 1) := by decide +kernel
theorem dX5_readChannel_52 : decode cX5_readChannel 52 = .ok (.ireturn, 1) := by decide +kernel
theorem dX5_readChannel_53 : decode cX5_readChannel 53 = .ok (.aload_n 0, 1) := by decide +kernel
theorem dX5_readChannel_54 : decode cX5_readChannel 54 = .ok (.getfield 21, 3) := by decide +kernel
theorem dX5_readChannel_57 : decode cX5_readChannel 57 = .ok (.aload_n 0, 1) := by decide +kernel
theorem dX5_readChannel_58 : decode cX5_readChannel 58 = .ok (.getfield 83, 3) := by decide +kernel
theorem dX5_readChannel_61 : decode cX5_readChannel 61 = .ok (.putfield 90, 3) := by decide +kernel
theorem dX5_readChannel_64 : decode cX5_readChannel 64 = .ok (.aload_n 0, 1) := by decide +kernel
theorem dX5_readChannel_65 : decode cX5_readChannel 65 = .ok (.ldc 92, 2) := by decide +kernel
theorem dX5_readChannel_67 : decode cX5_readChannel 67 = .ok (.invokevirtual 76, 3) := by decide +kernel
theorem dX5_readChannel_70 : decode cX5_readChannel 70 = .ok (.ifCond .eq 13, 3) := by decide +kernel
theorem dX5_readChannel_73 : decode cX5_readChannel 73 = .ok (.aload_n 0, 1) := by decide +kernel
theorem dX5_readChannel_74 : decode cX5_readChannel 74 = .ok (.iconst 0, 1) := by decide +kernel
theorem dX5_readChannel_75 : decode cX5_readChannel 75 = .ok (.bipush 9, 2) := by decide +kernel
theorem dX5_readChannel_77 : decode cX5_readChannel 77 = .ok (.invokevirtual 79, 3) := by decide +kernel
theorem dX5_readChannel_80 : decode cX5_readChannel 80 = .ok (.ifCond .ne 5, 3) := by decide +kernel
theorem dX5_readChannel_83 : decode cX5_readChannel 83 = .ok (.iconst 0, 1) := by decide +kernel
theorem dX5_readChannel_84 : decode cX5_readChannel 84 = .ok (.ireturn, 1) := by decide +kernel
theorem dX5_readChannel_85 : decode cX5_readChannel 85 = .ok (.aload_n 0, 1) := by decide +kernel
theorem dX5_readChannel_86 : decode cX5_readChannel 86 = .ok (.getfield 21, 3) := by decide +kernel
theorem dX5_readChannel_89 : decode cX5_readChannel 89 = .ok (.aload_n 0, 1) := by decide +kernel
theorem dX5_readChannel_90 : decode cX5_readChannel 90 = .ok (.getfield 83, 3) := by decide +kernel
theorem dX5_readChannel_93 : decode cX5_readChannel 93 = .ok (.putfield 94, 3) := by decide +kernel
theorem dX5_readChannel_96 : decode cX5_readChannel 96 = .ok (.aload_n 0, 1) := by decide +kernel
theorem dX5_readChannel_97 : decode cX5_readChannel 97 = .ok (.ldc 96, 2) := by decide +kernel
theorem dX5_readChannel_99 : decode cX5_readChannel 99 = .ok (.invokevirtual 76, 3) := by decide +kernel
theorem dX5_readChannel_102 : decode cX5_readChannel 102 = .ok (.ifCond .eq 13, 3) := by decide +kernel
theorem dX5_readChannel_105 : decode cX5_readChannel 105 = .ok (.aload_n 0, 1) := by decide +kernel
theorem dX5_readChannel_106 : decode cX5_readChannel 106 = .ok (.iconst 1, 1) := by decide +kernel
theorem dX5_readChannel_107 : decode cX5_readChannel 107 = .ok (.bipush 20, 2) := by decide +kernel
theorem dX5_readChannel_109 : decode cX5_readChannel 109 = .ok (.invokevirtual 79, 3) := by decide +kernel
theorem dX5_readChannel_112 : decode cX5_readChannel 112 = .ok (.ifCond .ne 5, 3) := by decide +kernel
theorem dX5_readChannel_115 : decode cX5_readChannel 115 = .ok (.iconst 0, 1) := by decide +kernel
theorem dX5_readChannel_116 : decode cX5_readChannel 116 = .ok (.ireturn, 1) := by decide +kernel
theorem dX5_readChannel_117 : decode cX5_readChannel 117 = .ok (.aload_n 0, 1) := by decide +kernel
theorem dX5_readChannel_118 : decode cX5_readChannel 118 = .ok (.getfield 21, 3) := by decide +kernel
theorem dX5_readChannel_121 : decode cX5_readChannel 121 = .ok (.aload_n 0, 1) := by decide +kernel
theorem dX5_readChannel_122 : decode cX5_readChannel 122 = .ok (.getfield 83, 3) := by decide +kernel
theorem dX5_readChannel_125 : decode cX5_readChannel 125 = .ok (.putfield 98, 3) := by decide +kernel
theorem dX5_readChannel_128 : decode cX5_readChannel 128 = .ok (.aload_n 0, 1) := by decide +kernel
theorem dX5_readChannel_129 : decode cX5_readChannel 129 = .ok (.invokevirtual 100, 3) := by decide +kernel
theorem dX5_readChannel_132 : decode cX5_readChannel 132 = .ok (.ireturn, 1) := by decide +kernel
theorem dX5_readSender_0 : decode cX5_readSender 0 = .ok (.aload_n 0, 1) := by decide +kernel
theorem dX5_readSender_1 : decode cX5_readSender 1 = .ok (.getfield 21, 3) := by decide +kernel
theorem dX5_readSender_4 : decode cX5_readSender 4 = .ok (.getfield 103, 3) := by decide +kernel
theorem dX5_readSender_7 : decode cX5_readSender 7 = .ok (.bipush 10, 2) := by decide +kernel
theorem dX5_readSender_9 : decode cX5_readSender 9 = .ok (.if_icmp .lt 9, 3) := by decide +kernel
theorem dX5_readSender_12 : decode cX5_readSender 12 = .ok (.aload_n 0, 1) := by decide +kernel
theorem dX5_readSender_13 : decode cX5_readSender 13 = .ok (.iconst 3, 1) := by decide +kernel
theorem dX5_readSender_14 : decode cX5_readSender 14 = .ok (.invokevirtual 60, 3) := by decide +kernel
theorem dX5_readSender_17 : decode cX5_readSender 17 = .ok (.ireturn, 1) := by decide +kernel
theorem dX5_readSender_18 : decode cX5_readSender 18 = .ok (.aload_n 0, 1) := by decide +kernel
theorem dX5_readSender_19 : decode cX5_readSender 19 = .ok (.ldc 106, 2) := by decide +kernel
theorem dX5_readSender_21 : decode cX5_readSender 21 = .ok (.invokevirtual 76, 3) := by decide +kernel
theorem dX5_readSender_24 : decode cX5_readSender 24 = .ok (.ifCond .eq 14, 3) := by decide +kernel
theorem dX5_readSender_27 : decode cX5_readSender 27 = .ok (.aload_n 0, 1) := by decide +kernel
theorem dX5_readSender_28 : decode cX5_readSender 28 = .ok (.iconst 0, 1) := by decide +kernel
theorem dX5_readSender_29 : decode cX5_readSender 29 = .ok (.sipush 199, 3) := by decide +kernel
theorem dX5_readSender_32 : decode cX5_readSender 32 = .ok (.invokevirtual 79, 3) := by decide +kernel
theorem dX5_readSender_35 : decode cX5_readSender 35 = .ok (.ifCond .ne 5, 3) := by decide +kernel
theorem dX5_readSender_38 : decode cX5_readSender 38 = .ok (.iconst 0, 1) := by decide +kernel
theorem dX5_readSender_39 : decode cX5_readSender 39 = .ok (.ireturn, 1) := by decide +kernel
theorem dX5_readSender_40 : decode cX5_readSender 40 = .ok (.aload_n 0, 1) := by decide +kernel
theorem dX5_readSender_41 : decode cX5_readSender 41 = .ok (.getfield 83, 3) := by decide +kernel
theorem dX5_readSender_44 : decode cX5_readSender 44 = .ok (.istore_n 1, 1) := by decide +kernel
theorem dX5_readSender_45 : decode cX5_readSender 45 = .ok (.aload_n 0, 1) := by decide +kernel
theorem dX5_readSender_46 : decode cX5_readSender 46 = .ok (.ldc 108, 2) := by decide +kernel
theorem dX5_readSender_48 : decode cX5_readSender 48 = .ok (.invokevirtual 76, 3) := by decide +kernel
theorem dX5_readSender_51 : decode cX5_readSender 51 = .ok (.ifCond .eq 10, 3) := by decide +kernel
theorem dX5_readSender_54 : decode cX5_readSender 54 = .ok (.aload_n 0, 1) := by decide +kernel
theorem dX5_readSender_55 : decode cX5_readSender 55 = .ok (.invokevirtual 110, 3) := by decide +kernel
theorem dX5_readSender_58 : decode cX5_readSender 58 = .ok (.ifCond .ne 5, 3) := by decide +kernel
theorem dX5_readSender_61 : decode cX5_readSender 61 = .ok (.iconst 0, 1) := by decide +kernel
theorem dX5_readSender_62 : decode cX5_readSender 62 = .ok (.ireturn, 1) := by decide +kernel
theorem dX5_readSender_63 : decode cX5_readSender 63 = .ok (.aload_n 0, 1) := by decide +kernel
theorem dX5_readSender_64 : decode cX5_readSender 64 = .ok (.getfield 21, 3) := by decide +kernel
theorem dX5_readSender_67 : decode cX5_readSender 67 = .ok (.iload_n 1, 1) := by decide +kernel
theorem dX5_readSender_68 : decode cX5_readSender 68 = .ok (.aload_n 0, 1) := by decide +kernel
theorem dX5_readSender_69 : decode cX5_readSender 69 = .ok (.getfield 83, 3) := by decide +kernel
theorem dX5_readSender_72 : decode cX5_readSender 72 = .ok (.aload_n 0, 1) := by decide +kernel
theorem dX5_readSender_73 : decode cX5_readSender 73 = .ok (.getfield 35, 3) := by decide +kernel
theorem dX5_readSender_76 : decode cX5_readSender 76 = .ok (.aload_n 0, 1) := by decide +kernel
theorem dX5_readSender_77 : decode cX5_readSender 77 = .ok (.getfield 113, 3) := by decide +kernel
theorem dX5_readSender_80 : decode cX5_readSender 80 = .ok (.isub, 1) := by decide +kernel
theorem dX5_readSender_81 : decode cX5_readSender 81 = .ok (.invokevirtual 116, 3) := by decide +kernel
theorem dX5_readSender_84 : decode cX5_readSender 84 = .ok (.aload_n 0, 1) := by decide +kernel
theorem dX5_readSender_85 : decode cX5_readSender 85 = .ok (.invokevirtual 100, 3) := by decide +kernel
theorem dX5_readSender_88 : decode cX5_readSender 88 = .ok (.ireturn, 1) := by decide +kernel
theorem dX5_readNoise_0 : decode cX5_readNoise 0 = .ok (.aload_n 0, 1) := by decide +kernel
theorem dX5_readNoise_1 : decode cX5_readNoise 1 = .ok (.getfield 21, 3) := by decide +kernel
theorem dX5_readNoise_4 : decode cX5_readNoise 4 = .ok (.getfield 120, 3) := by decide +kernel
theorem dX5_readNoise_7 : decode cX5_readNoise 7 = .ok (.bipush 10, 2) := by decide +kernel
theorem dX5_readNoise_9 : decode cX5_readNoise 9 = .ok (.if_icmp .lt 9, 3) := by decide +kernel
theorem dX5_readNoise_12 : decode cX5_readNoise 12 = .ok (.aload_n 0, 1) := by decide +kernel
theorem dX5_readNoise_13 : decode cX5_readNoise 13 = .ok (.iconst 3, 1) := by decide +kernel
theorem dX5_readNoise_14 : decode cX5_readNoise 14 = .ok (.invokevirtual 60, 3) := by decide +kernel
theorem dX5_readNoise_17 : decode cX5_readNoise 17 = .ok (.ireturn, 1) := by decide +kernel
theorem dX5_readNoise_18 : decode cX5_readNoise 18 = .ok (.aload_n 0, 1) := by decide +kernel
theorem dX5_readNoise_19 : decode cX5_readNoise 19 = .ok (.ldc 106, 2) := by decide +kernel
theorem dX5_readNoise_21 : decode cX5_readNoise 21 = .ok (.invokevirtual 76, 3) := by decide +kernel
theorem dX5_readNoise_24 : decode cX5_readNoise 24 = .ok (.ifCond .eq 14, 3) := by decide +kernel
theorem dX5_readNoise_27 : decode cX5_readNoise 27 = .ok (.aload_n 0, 1) := by decide +kernel
theorem dX5_readNoise_28 : decode cX5_readNoise 28 = .ok (.iconst 0, 1) := by decide +kernel
theorem dX5_readNoise_29 : decode cX5_readNoise 29 = .ok (.sipush 199, 3) := by decide +kernel
theorem dX5_readNoise_32 : decode cX5_readNoise 32 = .ok (.invokevirtual 79, 3) := by decide +kernel
theorem dX5_readNoise_35 : decode cX5_readNoise 35 = .ok (.ifCond .ne 5, 3) := by decide +kernel
theorem dX5_readNoise_38 : decode cX5_readNoise 38 = .ok (.iconst 0, 1) := by decide +kernel
theorem dX5_readNoise_39 : decode cX5_readNoise 39 = .ok (.ireturn, 1) := by decide +kernel
theorem dX5_readNoise_40 : decode cX5_readNoise 40 = .ok (.aload_n 0, 1) := by decide +kernel
theorem dX5_readNoise_41 : decode cX5_readNoise 41 = .ok (.getfield 21, 3) := by decide +kernel
theorem dX5_readNoise_44 : decode cX5_readNoise 44 = .ok (.aload_n 0, 1) := by decide +kernel
theorem dX5_readNoise_45 : decode cX5_readNoise 45 = .ok (.getfield 83, 3) := by decide +kernel
theorem dX5_readNoise_48 : decode cX5_readNoise 48 = .ok (.invokevirtual 123, 3) := by decide +kernel
theorem dX5_readNoise_51 : decode cX5_readNoise 51 = .ok (.ifCond .eq 9, 3) := by decide +kernel
theorem dX5_readNoise_54 : decode cX5_readNoise 54 = .ok (.aload_n 0, 1) := by decide +kernel
theorem dX5_readNoise_55 : decode cX5_readNoise 55 = .ok (.iconst 2, 1) := by decide +kernel
theorem dX5_readNoise_56 : decode cX5_readNoise 56 = .ok (.invokevirtual 60, 3) := by decide +kernel
theorem dX5_readNoise_59 : decode cX5_readNoise 59 = .ok (.ireturn, 1) := by decide +kernel
theorem dX5_readNoise_60 : decode cX5_readNoise 60 = .ok (.aload_n 0, 1) := by decide +kernel
theorem dX5_readNoise_61 : decode cX5_readNoise 61 = .ok (.getfield 83, 3) := by decide +kernel
theorem dX5_readNoise_64 : decode cX5_readNoise 64 = .ok (.istore_n 1, 1) := by decide +kernel
theorem dX5_readNoise_65 : decode cX5_readNoise 65 = .ok (.aload_n 0, 1) := by decide +kernel
theorem dX5_readNoise_66 : decode cX5_readNoise 66 = .ok (.ldc 126, 2) := by decide +kernel
theorem dX5_readNoise_68 : decode cX5_readNoise 68 = .ok (.invokevirtual 76, 3) := by decide +kernel
theorem dX5_readNoise_71 : decode cX5_readNoise 71 = .ok (.ifCond .eq 10, 3) := by decide +kernel
theorem dX5_readNoise_74 : decode cX5_readNoise 74 = .ok (.aload_n 0, 1) := by decide +kernel
theorem dX5_readNoise_75 : decode cX5_readNoise 75 = .ok (.invokevirtual 128, 3) := by decide +kernel
theorem dX5_readNoise_78 : decode cX5_readNoise 78 = .ok (.ifCond .ne 5, 3) := by decide +kernel
theorem dX5_readNoise_81 : decode cX5_readNoise 81 = .ok (.iconst 0, 1) := by decide +kernel
theorem dX5_readNoise_82 : decode cX5_readNoise 82 = .ok (.ireturn, 1) := by decide +kernel
theorem dX5_readNoise_83 : decode cX5_readNoise 83 = .ok (.aload_n 0, 1) := by decide +kernel
theorem dX5_readNoise_84 : decode cX5_readNoise 84 = .ok (.getfield 21, 3) := by decide +kernel
theorem dX5_readNoise_87 : decode cX5_readNoise 87 = .ok (.iload_n 1, 1) := by decide +kernel
theorem dX5_readNoise_88 : decode cX5_readNoise 88 = .ok (.aload_n 0, 1) := by decide +kernel
theorem dX5_readNoise_89 : decode cX5_readNoise 89 = .ok (.getfield 83, 3) := by decide +kernel
theorem dX5_readNoise_92 : decode cX5_readNoise 92 = .ok (.invokevirtual 131, 3) := by decide +kernel
theorem dX5_readNoise_95 : decode cX5_readNoise 95 = .ok (.aload_n 0, 1) := by decide +kernel
theorem dX5_readNoise_96 : decode cX5_readNoise 96 = .ok (.invokevirtual 100, 3) := by decide +kernel
theorem dX5_readNoise_99 : decode cX5_readNoise 99 = .ok (.ireturn, 1) := by decide +kernel
theorem dX5_readWord_0 : decode cX5_readWord 0 = .ok (.aload_n 0, 1) := by decide +kernel
theorem dX5_readWord_1 : decode cX5_readWord 1 = .ok (.invokevirtual 38, 3) := by decide +kernel
theorem dX5_readWord_4 : decode cX5_readWord 4 = .ok (.aload_n 0, 1) := by decide +kernel
theorem dX5_readWord_5 : decode cX5_readWord 5 = .ok (.aload_n 1, 1) := by decide +kernel
theorem dX5_readWord_6 : decode cX5_readWord 6 = .ok (.invokevirtual 53, 3) := by decide +kernel
theorem dX5_readWord_9 : decode cX5_readWord 9 = .ok (.ifCond .ne 11, 3) := by decide +kernel
theorem dX5_readWord_12 : decode cX5_readWord 12 = .ok (.aload_n 0, 1) := by decide +kernel
theorem dX5_readWord_13 : decode cX5_readWord 13 = .ok (.iconst 1, 1) := by decide +kernel
theorem dX5_readWord_14 : decode cX5_readWord 14 = .ok (.invokevirtual 60, 3) := by decide +kernel
theorem dX5_readWord_17 : decode cX5_readWord 17 = .ok (.ifCond .eq 7, 3) := by decide +kernel
theorem dX5_readWord_20 : decode cX5_readWord 20 = .ok (.iconst 1, 1) := by decide +kernel
theorem dX5_readWord_21 : decode cX5_readWord 21 = .ok (.goto 4, 3) := by decide +kernel
theorem dX5_readWord_24 : decode cX5_readWord 24 = .ok (.iconst 0, 1) := by decide +kernel
theorem dX5_readWord_25 : decode cX5_readWord 25 = .ok (.ireturn, 1) := by decide +kernel
theorem dX5_readNumber_0 : decode cX5_readNumber 0 = .ok (.aload_n 0, 1) := by decide +kernel
theorem dX5_readNumber_1 : decode cX5_readNumber 1 = .ok (.invokevirtual 38, 3) := by decide +kernel
theorem dX5_readNumber_4 : decode cX5_readNumber 4 = .ok (.aload_n 0, 1) := by decide +kernel
theorem dX5_readNumber_5 : decode cX5_readNumber 5 = .ok (.getfield 41, 3) := by decide +kernel
theorem dX5_readNumber_8 : decode cX5_readNumber 8 = .ok (.iconst 2, 1) := by decide +kernel
theorem dX5_readNumber_9 : decode cX5_readNumber 9 = .ok (.if_icmp .eq 9, 3) := by decide +kernel
theorem dX5_readNumber_12 : decode cX5_readNumber 12 = .ok (.aload_n 0, 1) := by decide +kernel
theorem dX5_readNumber_13 : decode cX5_readNumber 13 = .ok (.iconst 1, 1) := by decide +kernel
theorem dX5_readNumber_14 : decode cX5_readNumber 14 = .ok (.invokevirtual 60, 3) := by decide +kernel
theorem dX5_readNumber_17 : decode cX5_readNumber 17 = .ok (.ireturn, 1) := by decide +kernel
theorem dX5_readNumber_18 : decode cX5_readNumber 18 = .ok (.aload_n 0, 1) := by decide +kernel
theorem dX5_readNumber_19 : decode cX5_readNumber 19 = .ok (.iconst 0, 1) := by decide +kernel
theorem dX5_readNumber_20 : decode cX5_readNumber 20 = .ok (.putfield 83, 3) := by decide +kernel
theorem dX5_readNumber_23 : decode cX5_readNumber 23 = .ok (.aload_n 0, 1) := by decide +kernel
theorem dX5_readNumber_24 : decode cX5_readNumber 24 = .ok (.getfield 113, 3) := by decide +kernel
theorem dX5_readNumber_27 : decode cX5_readNumber 27 = .ok (.istore_n 3, 1) := by decide +kernel
theorem dX5_readNumber_28 : decode cX5_readNumber 28 = .ok (.iload_n 3, 1) := by decide +kernel
theorem dX5_readNumber_29 : decode cX5_readNumber 29 = .ok (.aload_n 0, 1) := by decide +kernel
theorem dX5_readNumber_30 : decode cX5_readNumber 30 = .ok (.getfield 35, 3) := by decide +kernel
theorem dX5_readNumber_33 : decode cX5_readNumber 33 = .ok (.if_icmp .ge 50, 3) := by decide +kernel
theorem dX5_readNumber_36 : decode cX5_readNumber 36 = .ok (.aload_n 0, 1) := by decide +kernel
theorem dX5_readNumber_37 : decode cX5_readNumber 37 = .ok (.aload_n 0, 1) := by decide +kernel
theorem dX5_readNumber_38 : decode cX5_readNumber 38 = .ok (.getfield 83, 3) := by decide +kernel
theorem dX5_readNumber_41 : decode cX5_readNumber 41 = .ok (.bipush 10, 2) := by decide +kernel
theorem dX5_readNumber_43 : decode cX5_readNumber 43 = .ok (.imul, 1) := by decide +kernel
theorem dX5_readNumber_44 : decode cX5_readNumber 44 = .ok (.aload_n 0, 1) := by decide +kernel
theorem dX5_readNumber_45 : decode cX5_readNumber 45 = .ok (.getfield 12, 3) := by decide +kernel
theorem dX5_readNumber_48 : decode cX5_readNumber 48 = .ok (.getfield 135, 3) := by decide +kernel
theorem dX5_readNumber_51 : decode cX5_readNumber 51 = .ok (.iload_n 3, 1) := by decide +kernel
theorem dX5_readNumber_52 : decode cX5_readNumber 52 = .ok (.invokestatic 139, 3) := by decide +kernel
theorem dX5_readNumber_55 : decode cX5_readNumber 55 = .ok (.iadd, 1) := by decide +kernel
theorem dX5_readNumber_56 : decode cX5_readNumber 56 = .ok (.bipush 48, 2) := by decide +kernel
theorem dX5_readNumber_58 : decode cX5_readNumber 58 = .ok (.isub, 1) := by decide +kernel
theorem dX5_readNumber_59 : decode cX5_readNumber 59 = .ok (.putfield 83, 3) := by decide +kernel
theorem dX5_readNumber_62 : decode cX5_readNumber 62 = .ok (.aload_n 0, 1) := by decide +kernel
theorem dX5_readNumber_63 : decode cX5_readNumber 63 = .ok (.getfield 83, 3) := by decide +kernel
theorem dX5_readNumber_66 : decode cX5_readNumber 66 = .ok (.ldc 142, 2) := by decide +kernel
theorem dX5_readNumber_68 : decode cX5_readNumber 68 = .ok (.if_icmp .le 9, 3) := by decide +kernel
theorem dX5_readNumber_71 : decode cX5_readNumber 71 = .ok (.aload_n 0, 1) := by decide +kernel
theorem dX5_readNumber_72 : decode cX5_readNumber 72 = .ok (.ldc 142, 2) := by decide +kernel
theorem dX5_readNumber_74 : decode cX5_readNumber 74 = .ok (.putfield 83, 3) := by decide +kernel
theorem dX5_readNumber_77 : decode cX5_readNumber 77 = .ok (.iinc 3 1, 3) := by decide +kernel
theorem dX5_readNumber_80 : decode cX5_readNumber 80 = .ok (.goto (-52), 3) := by decide +kernel
theorem dX5_readNumber_83 : decode cX5_readNumber 83 = .ok (.aload_n 0, 1) := by decide +kernel
theorem dX5_readNumber_84 : decode cX5_readNumber 84 = .ok (.getfield 83, 3) := by decide +kernel
theorem dX5_readNumber_87 : decode cX5_readNumber 87 = .ok (.iload_n 1, 1) := by decide +kernel
theorem dX5_readNumber_88 : decode cX5_readNumber 88 = .ok (.if_icmp .lt 11, 3) := by decide +kernel
theorem dX5_readNumber_91 : decode cX5_readNumber 91 = .ok (.aload_n 0, 1) := by decide +kernel
theorem dX5_readNumber_92 : decode cX5_readNumber 92 = .ok (.getfield 83, 3) := by decide +kernel
theorem dX5_readNumber_95 : decode cX5_readNumber 95 = .ok (.iload_n 2, 1) := by decide +kernel
theorem dX5_readNumber_96 : decode cX5_readNumber 96 = .ok (.if_icmp .le 11, 3) := by decide +kernel
theorem dX5_readNumber_99 : decode cX5_readNumber 99 = .ok (.aload_n 0, 1) := by decide +kernel
theorem dX5_readNumber_100 : decode cX5_readNumber 100 = .ok (.iconst 2, 1) := by decide +kernel
theorem dX5_readNumber_101 : decode cX5_readNumber 101 = .ok (.invokevirtual 60, 3) := by decide +kernel
theorem dX5_readNumber_104 : decode cX5_readNumber 104 = .ok (.ifCond .eq 7, 3) := by decide +kernel
theorem dX5_readNumber_107 : decode cX5_readNumber 107 = .ok (.iconst 1, 1) := by decide +kernel
theorem dX5_readNumber_108 : decode cX5_readNumber 108 = .ok (.goto 4, 3) := by decide +kernel
theorem dX5_readNumber_111 : decode cX5_readNumber 111 = .ok (.iconst 0, 1) := by decide +kernel
theorem dX5_readNumber_112 : decode cX5_readNumber 112 = .ok (.ireturn, 1) := by decide +kernel
theorem dX5_readBits_0 : decode cX5_readBits 0 = .ok (.aload_n 0, 1) := by decide +kernel
theorem dX5_readBits_1 : decode cX5_readBits 1 = .ok (.invokevirtual 38, 3) := by decide +kernel
theorem dX5_readBits_4 : decode cX5_readBits 4 = .ok (.aload_n 0, 1) := by decide +kernel
theorem dX5_readBits_5 : decode cX5_readBits 5 = .ok (.getfield 41, 3) := by decide +kernel
end
section
theorem dX5_readBits_8 : decode cX5_readBits 8 = .ok (.iconst 2, 1) := by decide +kernel
theorem dX5_readBits_9 : decode cX5_readBits 9 = .ok (.if_icmp .eq 9, 3) := by decide +kernel
theorem dX5_readBits_12 : decode cX5_readBits 12 = .ok (.aload_n 0, 1) := by decide +kernel
theorem dX5_readBits_13 : decode cX5_readBits 13 = .ok (.iconst 1, 1) := by decide +kernel
theorem dX5_readBits_14 : decode cX5_readBits 14 = .ok (.invokevirtual 60, 3) := by decide +kernel
theorem dX5_readBits_17 : decode cX5_readBits 17 = .ok (.ireturn, 1) := by decide +kernel
theorem dX5_readBits_18 : decode cX5_readBits 18 = .ok (.aload_n 0, 1) := by decide +kernel
theorem dX5_readBits_19 : decode cX5_readBits 19 = .ok (.getfield 35, 3) := by decide +kernel
theorem dX5_readBits_22 : decode cX5_readBits 22 = .ok (.aload_n 0, 1) := by decide +kernel
theorem dX5_readBits_23 : decode cX5_readBits 23 = .ok (.getfield 113, 3) := by decide +kernel
theorem dX5_readBits_26 : decode cX5_readBits 26 = .ok (.isub, 1) := by decide +kernel
theorem dX5_readBits_27 : decode cX5_readBits 27 = .ok (.bipush 12, 2) := by decide +kernel
theorem dX5_readBits_29 : decode cX5_readBits 29 = .ok (.if_icmp .le 9, 3) := by decide +kernel
theorem dX5_readBits_32 : decode cX5_readBits 32 = .ok (.aload_n 0, 1) := by decide +kernel
theorem dX5_readBits_33 : decode cX5_readBits 33 = .ok (.iconst 2, 1) := by decide +kernel
theorem dX5_readBits_34 : decode cX5_readBits 34 = .ok (.invokevirtual 60, 3) := by decide +kernel
theorem dX5_readBits_37 : decode cX5_readBits 37 = .ok (.ireturn, 1) := by decide +kernel
theorem dX5_readBits_38 : decode cX5_readBits 38 = .ok (.aload_n 0, 1) := by decide +kernel
theorem dX5_readBits_39 : decode cX5_readBits 39 = .ok (.iconst 0, 1) := by decide +kernel
theorem dX5_readBits_40 : decode cX5_readBits 40 = .ok (.putfield 83, 3) := by decide +kernel
theorem dX5_readBits_43 : decode cX5_readBits 43 = .ok (.aload_n 0, 1) := by decide +kernel
theorem dX5_readBits_44 : decode cX5_readBits 44 = .ok (.getfield 113, 3) := by decide +kernel
theorem dX5_readBits_47 : decode cX5_readBits 47 = .ok (.istore_n 1, 1) := by decide +kernel
theorem dX5_readBits_48 : decode cX5_readBits 48 = .ok (.iload_n 1, 1) := by decide +kernel
theorem dX5_readBits_49 : decode cX5_readBits 49 = .ok (.aload_n 0, 1) := by decide +kernel
theorem dX5_readBits_50 : decode cX5_readBits 50 = .ok (.getfield 35, 3) := by decide +kernel
theorem dX5_readBits_53 : decode cX5_readBits 53 = .ok (.if_icmp .ge 47, 3) := by decide +kernel
theorem dX5_readBits_56 : decode cX5_readBits 56 = .ok (.aload_n 0, 1) := by decide +kernel
theorem dX5_readBits_57 : decode cX5_readBits 57 = .ok (.getfield 12, 3) := by decide +kernel
theorem dX5_readBits_60 : decode cX5_readBits 60 = .ok (.getfield 135, 3) := by decide +kernel
theorem dX5_readBits_63 : decode cX5_readBits 63 = .ok (.iload_n 1, 1) := by decide +kernel
theorem dX5_readBits_64 : decode cX5_readBits 64 = .ok (.invokestatic 139, 3) := by decide +kernel
theorem dX5_readBits_67 : decode cX5_readBits 67 = .ok (.bipush 48, 2) := by decide +kernel
theorem dX5_readBits_69 : decode cX5_readBits 69 = .ok (.isub, 1) := by decide +kernel
theorem dX5_readBits_70 : decode cX5_readBits 70 = .ok (.istore_n 2, 1) := by decide +kernel
theorem dX5_readBits_71 : decode cX5_readBits 71 = .ok (.iload_n 2, 1) := by decide +kernel
theorem dX5_readBits_72 : decode cX5_readBits 72 = .ok (.iconst 1, 1) := by decide +kernel
theorem dX5_readBits_73 : decode cX5_readBits 73 = .ok (.if_icmp .le 9, 3) := by decide +kernel
theorem dX5_readBits_76 : decode cX5_readBits 76 = .ok (.aload_n 0, 1) := by decide +kernel
theorem dX5_readBits_77 : decode cX5_readBits 77 = .ok (.iconst 2, 1) := by decide +kernel
theorem dX5_readBits_78 : decode cX5_readBits 78 = .ok (.invokevirtual 60, 3) := by decide +kernel
theorem dX5_readBits_81 : decode cX5_readBits 81 = .ok (.ireturn, 1) := by decide +kernel
theorem dX5_readBits_82 : decode cX5_readBits 82 = .ok (.aload_n 0, 1) := by decide +kernel
theorem dX5_readBits_83 : decode cX5_readBits 83 = .ok (.aload_n 0, 1) := by decide +kernel
theorem dX5_readBits_84 : decode cX5_readBits 84 = .ok (.getfield 83, 3) := by decide +kernel
theorem dX5_readBits_87 : decode cX5_readBits 87 = .ok (.iconst 2, 1) := by decide +kernel
theorem dX5_readBits_88 : decode cX5_readBits 88 = .ok (.imul, 1) := by decide +kernel
theorem dX5_readBits_89 : decode cX5_readBits 89 = .ok (.iload_n 2, 1) := by decide +kernel
theorem dX5_readBits_90 : decode cX5_readBits 90 = .ok (.iadd, 1) := by decide +kernel
theorem dX5_readBits_91 : decode cX5_readBits 91 = .ok (.putfield 83, 3) := by decide +kernel
theorem dX5_readBits_94 : decode cX5_readBits 94 = .ok (.iinc 1 1, 3) := by decide +kernel
theorem dX5_readBits_97 : decode cX5_readBits 97 = .ok (.goto (-49), 3) := by decide +kernel
theorem dX5_readBits_100 : decode cX5_readBits 100 = .ok (.iconst 1, 1) := by decide +kernel
theorem dX5_readBits_101 : decode cX5_readBits 101 = .ok (.ireturn, 1) := by decide +kernel
theorem dX5_readKind_0 : decode cX5_readKind 0 = .ok (.aload_n 0, 1) := by decide +kernel
theorem dX5_readKind_1 : decode cX5_readKind 1 = .ok (.invokevirtual 38, 3) := by decide +kernel
theorem dX5_readKind_4 : decode cX5_readKind 4 = .ok (.aload_n 0, 1) := by decide +kernel
theorem dX5_readKind_5 : decode cX5_readKind 5 = .ok (.ldc 143, 2) := by decide +kernel
theorem dX5_readKind_7 : decode cX5_readKind 7 = .ok (.invokevirtual 53, 3) := by decide +kernel
theorem dX5_readKind_10 : decode cX5_readKind 10 = .ok (.ifCond .eq 11, 3) := by decide +kernel
theorem dX5_readKind_13 : decode cX5_readKind 13 = .ok (.aload_n 0, 1) := by decide +kernel
theorem dX5_readKind_14 : decode cX5_readKind 14 = .ok (.iconst 0, 1) := by decide +kernel
theorem dX5_readKind_15 : decode cX5_readKind 15 = .ok (.putfield 83, 3) := by decide +kernel
theorem dX5_readKind_18 : decode cX5_readKind 18 = .ok (.goto 43, 3) := by decide +kernel
theorem dX5_readKind_21 : decode cX5_readKind 21 = .ok (.aload_n 0, 1) := by decide +kernel
theorem dX5_readKind_22 : decode cX5_readKind 22 = .ok (.ldc 145, 2) := by decide +kernel
theorem dX5_readKind_24 : decode cX5_readKind 24 = .ok (.invokevirtual 53, 3) := by decide +kernel
theorem dX5_readKind_27 : decode cX5_readKind 27 = .ok (.ifCond .eq 11, 3) := by decide +kernel
theorem dX5_readKind_30 : decode cX5_readKind 30 = .ok (.aload_n 0, 1) := by decide +kernel
theorem dX5_readKind_31 : decode cX5_readKind 31 = .ok (.iconst 1, 1) := by decide +kernel
theorem dX5_readKind_32 : decode cX5_readKind 32 = .ok (.putfield 83, 3) := by decide +kernel
theorem dX5_readKind_35 : decode cX5_readKind 35 = .ok (.goto 26, 3) := by decide +kernel
theorem dX5_readKind_38 : decode cX5_readKind 38 = .ok (.aload_n 0, 1) := by decide +kernel
theorem dX5_readKind_39 : decode cX5_readKind 39 = .ok (.ldc 147, 2) := by decide +kernel
theorem dX5_readKind_41 : decode cX5_readKind 41 = .ok (.invokevirtual 53, 3) := by decide +kernel
theorem dX5_readKind_44 : decode cX5_readKind 44 = .ok (.ifCond .eq 11, 3) := by decide +kernel
theorem dX5_readKind_47 : decode cX5_readKind 47 = .ok (.aload_n 0, 1) := by decide +kernel
theorem dX5_readKind_48 : decode cX5_readKind 48 = .ok (.iconst 2, 1) := by decide +kernel
theorem dX5_readKind_49 : decode cX5_readKind 49 = .ok (.putfield 83, 3) := by decide +kernel
theorem dX5_readKind_52 : decode cX5_readKind 52 = .ok (.goto 9, 3) := by decide +kernel
theorem dX5_readKind_55 : decode cX5_readKind 55 = .ok (.aload_n 0, 1) := by decide +kernel
theorem dX5_readKind_56 : decode cX5_readKind 56 = .ok (.iconst 1, 1) := by decide +kernel
theorem dX5_readKind_57 : decode cX5_readKind 57 = .ok (.invokevirtual 60, 3) := by decide +kernel
theorem dX5_readKind_60 : decode cX5_readKind 60 = .ok (.ireturn, 1) := by decide +kernel
theorem dX5_readKind_61 : decode cX5_readKind 61 = .ok (.iconst 1, 1) := by decide +kernel
theorem dX5_readKind_62 : decode cX5_readKind 62 = .ok (.ireturn, 1) := by decide +kernel
theorem dX5_readSign_0 : decode cX5_readSign 0 = .ok (.aload_n 0, 1) := by decide +kernel
theorem dX5_readSign_1 : decode cX5_readSign 1 = .ok (.invokevirtual 38, 3) := by decide +kernel
theorem dX5_readSign_4 : decode cX5_readSign 4 = .ok (.aload_n 0, 1) := by decide +kernel
theorem dX5_readSign_5 : decode cX5_readSign 5 = .ok (.getfield 41, 3) := by decide +kernel
theorem dX5_readSign_8 : decode cX5_readSign 8 = .ok (.iconst 3, 1) := by decide +kernel
theorem dX5_readSign_9 : decode cX5_readSign 9 = .ok (.if_icmp .eq 11, 3) := by decide +kernel
theorem dX5_readSign_12 : decode cX5_readSign 12 = .ok (.aload_n 0, 1) := by decide +kernel
theorem dX5_readSign_13 : decode cX5_readSign 13 = .ok (.iconst 1, 1) := by decide +kernel
theorem dX5_readSign_14 : decode cX5_readSign 14 = .ok (.invokevirtual 60, 3) := by decide +kernel
theorem dX5_readSign_17 : decode cX5_readSign 17 = .ok (.ifCond .eq 7, 3) := by decide +kernel
theorem dX5_readSign_20 : decode cX5_readSign 20 = .ok (.iconst 1, 1) := by decide +kernel
theorem dX5_readSign_21 : decode cX5_readSign 21 = .ok (.goto 4, 3) := by decide +kernel
theorem dX5_readSign_24 : decode cX5_readSign 24 = .ok (.iconst 0, 1) := by decide +kernel
theorem dX5_readSign_25 : decode cX5_readSign 25 = .ok (.ireturn, 1) := by decide +kernel
theorem dX5_refuse_0 : decode cX5_refuse 0 = .ok (.aload_n 0, 1) := by decide +kernel
theorem dX5_refuse_1 : decode cX5_refuse 1 = .ok (.iload_n 1, 1) := by decide +kernel
theorem dX5_refuse_2 : decode cX5_refuse 2 = .ok (.putfield 32, 3) := by decide +kernel
theorem dX5_refuse_5 : decode cX5_refuse 5 = .ok (.aload_n 0, 1) := by decide +kernel
theorem dX5_refuse_6 : decode cX5_refuse 6 = .ok (.aload_n 0, 1) := by decide +kernel
theorem dX5_refuse_7 : decode cX5_refuse 7 = .ok (.getfield 113, 3) := by decide +kernel
theorem dX5_refuse_10 : decode cX5_refuse 10 = .ok (.putfield 25, 3) := by decide +kernel
theorem dX5_refuse_13 : decode cX5_refuse 13 = .ok (.iconst 0, 1) := by decide +kernel
theorem dX5_refuse_14 : decode cX5_refuse 14 = .ok (.ireturn, 1) := by decide +kernel
theorem dX5_isWord_0 : decode cX5_isWord 0 = .ok (.aload_n 0, 1) := by decide +kernel
theorem dX5_isWord_1 : decode cX5_isWord 1 = .ok (.getfield 41, 3) := by decide +kernel
theorem dX5_isWord_4 : decode cX5_isWord 4 = .ok (.iconst 1, 1) := by decide +kernel
theorem dX5_isWord_5 : decode cX5_isWord 5 = .ok (.if_icmp .ne 19, 3) := by decide +kernel
theorem dX5_isWord_8 : decode cX5_isWord 8 = .ok (.aload_n 1, 1) := by decide +kernel
theorem dX5_isWord_9 : decode cX5_isWord 9 = .ok (.invokevirtual 149, 3) := by decide +kernel
theorem dX5_isWord_12 : decode cX5_isWord 12 = .ok (.aload_n 0, 1) := by decide +kernel
theorem dX5_isWord_13 : decode cX5_isWord 13 = .ok (.getfield 35, 3) := by decide +kernel
theorem dX5_isWord_16 : decode cX5_isWord 16 = .ok (.aload_n 0, 1) := by decide +kernel
theorem dX5_isWord_17 : decode cX5_isWord 17 = .ok (.getfield 113, 3) := by decide +kernel
theorem dX5_isWord_20 : decode cX5_isWord 20 = .ok (.isub, 1) := by decide +kernel
theorem dX5_isWord_21 : decode cX5_isWord 21 = .ok (.if_icmp .eq 5, 3) := by decide +kernel
theorem dX5_isWord_24 : decode cX5_isWord 24 = .ok (.iconst 0, 1) := by decide +kernel
theorem dX5_isWord_25 : decode cX5_isWord 25 = .ok (.ireturn, 1) := by decide +kernel
theorem dX5_isWord_26 : decode cX5_isWord 26 = .ok (.iconst 0, 1) := by decide +kernel
theorem dX5_isWord_27 : decode cX5_isWord 27 = .ok (.istore_n 2, 1) := by decide +kernel
theorem dX5_isWord_28 : decode cX5_isWord 28 = .ok (.iload_n 2, 1) := by decide +kernel
theorem dX5_isWord_29 : decode cX5_isWord 29 = .ok (.aload_n 1, 1) := by decide +kernel
theorem dX5_isWord_30 : decode cX5_isWord 30 = .ok (.invokevirtual 149, 3) := by decide +kernel
theorem dX5_isWord_33 : decode cX5_isWord 33 = .ok (.if_icmp .ge 35, 3) := by decide +kernel
theorem dX5_isWord_36 : decode cX5_isWord 36 = .ok (.aload_n 1, 1) := by decide +kernel
theorem dX5_isWord_37 : decode cX5_isWord 37 = .ok (.iload_n 2, 1) := by decide +kernel
theorem dX5_isWord_38 : decode cX5_isWord 38 = .ok (.invokevirtual 155, 3) := by decide +kernel
theorem dX5_isWord_41 : decode cX5_isWord 41 = .ok (.aload_n 0, 1) := by decide +kernel
theorem dX5_isWord_42 : decode cX5_isWord 42 = .ok (.getfield 12, 3) := by decide +kernel
theorem dX5_isWord_45 : decode cX5_isWord 45 = .ok (.getfield 135, 3) := by decide +kernel
theorem dX5_isWord_48 : decode cX5_isWord 48 = .ok (.aload_n 0, 1) := by decide +kernel
theorem dX5_isWord_49 : decode cX5_isWord 49 = .ok (.getfield 113, 3) := by decide +kernel
theorem dX5_isWord_52 : decode cX5_isWord 52 = .ok (.iload_n 2, 1) := by decide +kernel
theorem dX5_isWord_53 : decode cX5_isWord 53 = .ok (.iadd, 1) := by decide +kernel
theorem dX5_isWord_54 : decode cX5_isWord 54 = .ok (.invokestatic 139, 3) := by decide +kernel
theorem dX5_isWord_57 : decode cX5_isWord 57 = .ok (.if_icmp .eq 5, 3) := by decide +kernel
theorem dX5_isWord_60 : decode cX5_isWord 60 = .ok (.iconst 0, 1) := by decide +kernel
theorem dX5_isWord_61 : decode cX5_isWord 61 = .ok (.ireturn, 1) := by decide +kernel
theorem dX5_isWord_62 : decode cX5_isWord 62 = .ok (.iinc 2 1, 3) := by decide +kernel
theorem dX5_isWord_65 : decode cX5_isWord 65 = .ok (.goto (-37), 3) := by decide +kernel
theorem dX5_isWord_68 : decode cX5_isWord 68 = .ok (.iconst 1, 1) := by decide +kernel
theorem dX5_isWord_69 : decode cX5_isWord 69 = .ok (.ireturn, 1) := by decide +kernel
theorem dX5_step_0 : decode cX5_step 0 = .ok (.aload_n 0, 1) := by decide +kernel
theorem dX5_step_1 : decode cX5_step 1 = .ok (.aload_n 0, 1) := by decide +kernel
theorem dX5_step_2 : decode cX5_step 2 = .ok (.getfield 35, 3) := by decide +kernel
theorem dX5_step_5 : decode cX5_step 5 = .ok (.putfield 113, 3) := by decide +kernel
theorem dX5_step_8 : decode cX5_step 8 = .ok (.aload_n 0, 1) := by decide +kernel
theorem dX5_step_9 : decode cX5_step 9 = .ok (.getfield 113, 3) := by decide +kernel
theorem dX5_step_12 : decode cX5_step 12 = .ok (.aload_n 0, 1) := by decide +kernel
theorem dX5_step_13 : decode cX5_step 13 = .ok (.getfield 12, 3) := by decide +kernel
theorem dX5_step_16 : decode cX5_step 16 = .ok (.getfield 159, 3) := by decide +kernel
theorem dX5_step_19 : decode cX5_step 19 = .ok (.if_icmp .ge 36, 3) := by decide +kernel
theorem dX5_step_22 : decode cX5_step 22 = .ok (.aload_n 0, 1) := by decide +kernel
theorem dX5_step_23 : decode cX5_step 23 = .ok (.getfield 12, 3) := by decide +kernel
theorem dX5_step_26 : decode cX5_step 26 = .ok (.getfield 135, 3) := by decide +kernel
theorem dX5_step_29 : decode cX5_step 29 = .ok (.aload_n 0, 1) := by decide +kernel
theorem dX5_step_30 : decode cX5_step 30 = .ok (.getfield 113, 3) := by decide +kernel
theorem dX5_step_33 : decode cX5_step 33 = .ok (.invokestatic 139, 3) := by decide +kernel
theorem dX5_step_36 : decode cX5_step 36 = .ok (.invokestatic 161, 3) := by decide +kernel
theorem dX5_step_39 : decode cX5_step 39 = .ok (.ifCond .eq 16, 3) := by decide +kernel
theorem dX5_step_42 : decode cX5_step 42 = .ok (.aload_n 0, 1) := by decide +kernel
theorem dX5_step_43 : decode cX5_step 43 = .ok (.dup, 1) := by decide +kernel
theorem dX5_step_44 : decode cX5_step 44 = .ok (.getfield 113, 3) := by decide +kernel
theorem dX5_step_47 : decode cX5_step 47 = .ok (.iconst 1, 1) := by decide +kernel
theorem dX5_step_48 : decode cX5_step 48 = .ok (.iadd, 1) := by decide +kernel
theorem dX5_step_49 : decode cX5_step 49 = .ok (.putfield 113, 3) := by decide +kernel
theorem dX5_step_52 : decode cX5_step 52 = .ok (.goto (-44), 3) := by decide +kernel
theorem dX5_step_55 : decode cX5_step 55 = .ok (.aload_n 0, 1) := by decide +kernel
theorem dX5_step_56 : decode cX5_step 56 = .ok (.aload_n 0, 1) := by decide +kernel
theorem dX5_step_57 : decode cX5_step 57 = .ok (.getfield 113, 3) := by decide +kernel
theorem dX5_step_60 : decode cX5_step 60 = .ok (.putfield 35, 3) := by decide +kernel
theorem dX5_step_63 : decode cX5_step 63 = .ok (.aload_n 0, 1) := by decide +kernel
theorem dX5_step_64 : decode cX5_step 64 = .ok (.getfield 113, 3) := by decide +kernel
theorem dX5_step_67 : decode cX5_step 67 = .ok (.aload_n 0, 1) := by decide +kernel
theorem dX5_step_68 : decode cX5_step 68 = .ok (.getfield 12, 3) := by decide +kernel
theorem dX5_step_71 : decode cX5_step 71 = .ok (.getfield 159, 3) := by decide +kernel
theorem dX5_step_74 : decode cX5_step 74 = .ok (.if_icmp .lt 9, 3) := by decide +kernel
theorem dX5_step_77 : decode cX5_step 77 = .ok (.aload_n 0, 1) := by decide +kernel
theorem dX5_step_78 : decode cX5_step 78 = .ok (.iconst 0, 1) := by decide +kernel
theorem dX5_step_79 : decode cX5_step 79 = .ok (.putfield 41, 3) := by decide +kernel
theorem dX5_step_82 : decode cX5_step 82 = .ok (.return_, 1) := by decide +kernel
theorem dX5_step_83 : decode cX5_step 83 = .ok (.aload_n 0, 1) := by decide +kernel
theorem dX5_step_84 : decode cX5_step 84 = .ok (.aload_n 0, 1) := by decide +kernel
theorem dX5_step_85 : decode cX5_step 85 = .ok (.getfield 12, 3) := by decide +kernel
theorem dX5_step_88 : decode cX5_step 88 = .ok (.getfield 135, 3) := by decide +kernel
theorem dX5_step_91 : decode cX5_step 91 = .ok (.aload_n 0, 1) := by decide +kernel
theorem dX5_step_92 : decode cX5_step 92 = .ok (.getfield 113, 3) := by decide +kernel
theorem dX5_step_95 : decode cX5_step 95 = .ok (.invokestatic 139, 3) := by decide +kernel
theorem dX5_step_98 : decode cX5_step 98 = .ok (.invokestatic 164, 3) := by decide +kernel
theorem dX5_step_101 : decode cX5_step 101 = .ok (.putfield 41, 3) := by decide +kernel
theorem dX5_step_104 : decode cX5_step 104 = .ok (.aload_n 0, 1) := by decide +kernel
theorem dX5_step_105 : decode cX5_step 105 = .ok (.dup, 1) := by decide +kernel
theorem dX5_step_106 : decode cX5_step 106 = .ok (.getfield 35, 3) := by decide +kernel
theorem dX5_step_109 : decode cX5_step 109 = .ok (.iconst 1, 1) := by decide +kernel
theorem dX5_step_110 : decode cX5_step 110 = .ok (.iadd, 1) := by decide +kernel
theorem dX5_step_111 : decode cX5_step 111 = .ok (.putfield 35, 3) := by decide +kernel
theorem dX5_step_114 : decode cX5_step 114 = .ok (.aload_n 0, 1) := by decide +kernel
theorem dX5_step_115 : decode cX5_step 115 = .ok (.getfield 41, 3) := by decide +kernel
theorem dX5_step_118 : decode cX5_step 118 = .ok (.iconst 1, 1) := by decide +kernel
theorem dX5_step_119 : decode cX5_step 119 = .ok (.if_icmp .eq 11, 3) := by decide +kernel
theorem dX5_step_122 : decode cX5_step 122 = .ok (.aload_n 0, 1) := by decide +kernel
theorem dX5_step_123 : decode cX5_step 123 = .ok (.getfield 41, 3) := by decide +kernel
theorem dX5_step_126 : decode cX5_step 126 = .ok (.iconst 2, 1) := by decide +kernel
theorem dX5_step_127 : decode cX5_step 127 = .ok (.if_icmp .ne 7, 3) := by decide +kernel
theorem dX5_step_130 : decode cX5_step 130 = .ok (.iconst 1, 1) := by decide +kernel
theorem dX5_step_131 : decode cX5_step 131 = .ok (.goto 4, 3) := by decide +kernel
theorem dX5_step_134 : decode cX5_step 134 = .ok (.iconst 0, 1) := by decide +kernel
theorem dX5_step_135 : decode cX5_step 135 = .ok (.istore_n 1, 1) := by decide +kernel
theorem dX5_step_136 : decode cX5_step 136 = .ok (.iload_n 1, 1) := by decide +kernel
theorem dX5_step_137 : decode cX5_step 137 = .ok (.ifCond .eq 54, 3) := by decide +kernel
theorem dX5_step_140 : decode cX5_step 140 = .ok (.aload_n 0, 1) := by decide +kernel
theorem dX5_step_141 : decode cX5_step 141 = .ok (.getfield 35, 3) := by decide +kernel
theorem dX5_step_144 : decode cX5_step 144 = .ok (.aload_n 0, 1) := by decide +kernel
theorem dX5_step_145 : decode cX5_step 145 = .ok (.getfield 12, 3) := by decide +kernel
theorem dX5_step_148 : decode cX5_step 148 = .ok (.getfield 159, 3) := by decide +kernel
theorem dX5_step_151 : decode cX5_step 151 = .ok (.if_icmp .ge 40, 3) := by decide +kernel
theorem dX5_step_154 : decode cX5_step 154 = .ok (.aload_n 0, 1) := by decide +kernel
theorem dX5_step_155 : decode cX5_step 155 = .ok (.getfield 12, 3) := by decide +kernel
theorem dX5_step_158 : decode cX5_step 158 = .ok (.getfield 135, 3) := by decide +kernel
theorem dX5_step_161 : decode cX5_step 161 = .ok (.aload_n 0, 1) := by decide +kernel
theorem dX5_step_162 : decode cX5_step 162 = .ok (.getfield 35, 3) := by decide +kernel
theorem dX5_step_165 : decode cX5_step 165 = .ok (.invokestatic 139, 3) := by decide +kernel
theorem dX5_step_168 : decode cX5_step 168 = .ok (.invokestatic 164, 3) := by decide +kernel
theorem dX5_step_171 : decode cX5_step 171 = .ok (.aload_n 0, 1) := by decide +kernel
theorem dX5_step_172 : decode cX5_step 172 = .ok (.getfield 41, 3) := by decide +kernel
theorem dX5_step_175 : decode cX5_step 175 = .ok (.if_icmp .ne 16, 3) := by decide +kernel
theorem dX5_step_178 : decode cX5_step 178 = .ok (.aload_n 0, 1) := by decide +kernel
theorem dX5_step_179 : decode cX5_step 179 = .ok (.dup, 1) := by decide +kernel
theorem dX5_step_180 : decode cX5_step 180 = .ok (.getfield 35, 3) := by decide +kernel
theorem dX5_step_183 : decode cX5_step 183 = .ok (.iconst 1, 1) := by decide +kernel
theorem dX5_step_184 : decode cX5_step 184 = .ok (.iadd, 1) := by decide +kernel
theorem dX5_step_185 : decode cX5_step 185 = .ok (.putfield 35, 3) := by decide +kernel
theorem dX5_step_188 : decode cX5_step 188 = .ok (.goto (-52), 3) := by decide +kernel
theorem dX5_step_191 : decode cX5_step 191 = .ok (.return_, 1) := by decide +kernel
theorem dX5_isBlank_0 : decode cX5_isBlank 0 = .ok (.iload_n 0, 1) := by decide +kernel
theorem dX5_isBlank_1 : decode cX5_isBlank 1 = .ok (.bipush 32, 2) := by decide +kernel
theorem dX5_isBlank_3 : decode cX5_isBlank 3 = .ok (.if_icmp .eq 9, 3) := by decide +kernel
theorem dX5_isBlank_6 : decode cX5_isBlank 6 = .ok (.iload_n 0, 1) := by decide +kernel
theorem dX5_isBlank_7 : decode cX5_isBlank 7 = .ok (.bipush 10, 2) := by decide +kernel
theorem dX5_isBlank_9 : decode cX5_isBlank 9 = .ok (.if_icmp .ne 7, 3) := by decide +kernel
theorem dX5_isBlank_12 : decode cX5_isBlank 12 = .ok (.iconst 1, 1) := by decide +kernel
theorem dX5_isBlank_13 : decode cX5_isBlank 13 = .ok (.goto 4, 3) := by decide +kernel
theorem dX5_isBlank_16 : decode cX5_isBlank 16 = .ok (.iconst 0, 1) := by decide +kernel
theorem dX5_isBlank_17 : decode cX5_isBlank 17 = .ok (.ireturn, 1) := by decide +kernel
theorem dX5_kindOf_0 : decode cX5_kindOf 0 = .ok (.iload_n 0, 1) := by decide +kernel
theorem dX5_kindOf_1 : decode cX5_kindOf 1 = .ok (.bipush 97, 2) := by decide +kernel
theorem dX5_kindOf_3 : decode cX5_kindOf 3 = .ok (.if_icmp .lt 11, 3) := by decide +kernel
theorem dX5_kindOf_6 : decode cX5_kindOf 6 = .ok (.iload_n 0, 1) := by decide +kernel
theorem dX5_kindOf_7 : decode cX5_kindOf 7 = .ok (.bipush 122, 2) := by decide +kernel
theorem dX5_kindOf_9 : decode cX5_kindOf 9 = .ok (.if_icmp .gt 5, 3) := by decide +kernel
theorem dX5_kindOf_12 : decode cX5_kindOf 12 = .ok (.iconst 1, 1) := by decide +kernel
theorem dX5_kindOf_13 : decode cX5_kindOf 13 = .ok (.ireturn, 1) := by decide +kernel
theorem dX5_kindOf_14 : decode cX5_kindOf 14 = .ok (.iload_n 0, 1) := by decide +kernel
theorem dX5_kindOf_15 : decode cX5_kindOf 15 = .ok (.bipush 48, 2) := by decide +kernel
theorem dX5_kindOf_17 : decode cX5_kindOf 17 = .ok (.if_icmp .lt 11, 3) := by decide +kernel
theorem dX5_kindOf_20 : decode cX5_kindOf 20 = .ok (.iload_n 0, 1) := by decide +kernel
theorem dX5_kindOf_21 : decode cX5_kindOf 21 = .ok (.bipush 57, 2) := by decide +kernel
theorem dX5_kindOf_23 : decode cX5_kindOf 23 = .ok (.if_icmp .gt 5, 3) := by decide +kernel
theorem dX5_kindOf_26 : decode cX5_kindOf 26 = .ok (.iconst 2, 1) := by decide +kernel
theorem dX5_kindOf_27 : decode cX5_kindOf 27 = .ok (.ireturn, 1) := by decide +kernel
theorem dX5_kindOf_28 : decode cX5_kindOf 28 = .ok (.iload_n 0, 1) := by decide +kernel
theorem dX5_kindOf_29 : decode cX5_kindOf 29 = .ok (.bipush 59, 2) := by decide +kernel
theorem dX5_kindOf_31 : decode cX5_kindOf 31 = .ok (.if_icmp .ne 7, 3) := by decide +kernel
theorem dX5_kindOf_34 : decode cX5_kindOf 34 = .ok (.iconst 3, 1) := by decide +kernel
theorem dX5_kindOf_35 : decode cX5_kindOf 35 = .ok (.goto 4, 3) := by decide +kernel
theorem dX5_kindOf_38 : decode cX5_kindOf 38 = .ok (.iconst 4, 1) := by decide +kernel
theorem dX5_kindOf_39 : decode cX5_kindOf 39 = .ok (.ireturn, 1) := by decide +kernel
theorem dX6_init_0 : decode cX6_init 0 = .ok (.aload_n 0, 1) := by decide +kernel
theorem dX6_init_1 : decode cX6_init 1 = .ok (.invokespecial 3, 3) := by decide +kernel
theorem dX6_init_4 : decode cX6_init 4 = .ok (.aload_n 0, 1) := by decide +kernel
theorem dX6_init_5 : decode cX6_init 5 = .ok (.sipush 201, 3) := by decide +kernel
theorem dX6_init_8 : decode cX6_init 8 = .ok (.newarray .int, 2) := by decide +kernel
theorem dX6_init_10 : decode cX6_init 10 = .ok (.putfield 11, 3) := by decide +kernel
theorem dX6_init_13 : decode cX6_init 13 = .ok (.aload_n 0, 1) := by decide +kernel
theorem dX6_init_14 : decode cX6_init 14 = .ok (.sipush 201, 3) := by decide +kernel
theorem dX6_init_17 : decode cX6_init 17 = .ok (.newarray .int, 2) := by decide +kernel
theorem dX6_init_19 : decode cX6_init 19 = .ok (.putfield 15, 3) := by decide +kernel
theorem dX6_init_22 : decode cX6_init 22 = .ok (.aload_n 0, 1) := by decide +kernel
theorem dX6_init_23 : decode cX6_init 23 = .ok (.sipush 201, 3) := by decide +kernel
theorem dX6_init_26 : decode cX6_init 26 = .ok (.newarray .int, 2) := by decide +kernel
theorem dX6_init_28 : decode cX6_init 28 = .ok (.putfield 18, 3) := by decide +kernel
theorem dX6_init_31 : decode cX6_init 31 = .ok (.return_, 1) := by decide +kernel
theorem dX6_push_0 : decode cX6_push 0 = .ok (.aload_n 0, 1) := by decide +kernel
theorem dX6_push_1 : decode cX6_push 1 = .ok (.getfield 11, 3) := by decide +kernel
theorem dX6_push_4 : decode cX6_push 4 = .ok (.aload_n 0, 1) := by decide +kernel
theorem dX6_push_5 : decode cX6_push 5 = .ok (.getfield 21, 3) := by decide +kernel
theorem dX6_push_8 : decode cX6_push 8 = .ok (.iload_n 1, 1) := by decide +kernel
theorem dX6_push_9 : decode cX6_push 9 = .ok (.invokestatic 25, 3) := by decide +kernel
theorem dX6_push_12 : decode cX6_push 12 = .ok (.aload_n 0, 1) := by decide +kernel
theorem dX6_push_13 : decode cX6_push 13 = .ok (.getfield 15, 3) := by decide +kernel
theorem dX6_push_16 : decode cX6_push 16 = .ok (.aload_n 0, 1) := by decide +kernel
theorem dX6_push_17 : decode cX6_push 17 = .ok (.getfield 21, 3) := by decide +kernel
theorem dX6_push_20 : decode cX6_push 20 = .ok (.iload_n 2, 1) := by decide +kernel
theorem dX6_push_21 : decode cX6_push 21 = .ok (.invokestatic 25, 3) := by decide +kernel
theorem dX6_push_24 : decode cX6_push 24 = .ok (.aload_n 0, 1) := by decide +kernel
theorem dX6_push_25 : decode cX6_push 25 = .ok (.getfield 18, 3) := by decide +kernel
theorem dX6_push_28 : decode cX6_push 28 = .ok (.aload_n 0, 1) := by decide +kernel
theorem dX6_push_29 : decode cX6_push 29 = .ok (.getfield 21, 3) := by decide +kernel
theorem dX6_push_32 : decode cX6_push 32 = .ok (.iload_n 3, 1) := by decide +kernel
theorem dX6_push_33 : decode cX6_push 33 = .ok (.invokestatic 25, 3) := by decide +kernel
theorem dX6_push_36 : decode cX6_push 36 = .ok (.aload_n 0, 1) := by decide +kernel
theorem dX6_push_37 : decode cX6_push 37 = .ok (.dup, 1) := by decide +kernel
theorem dX6_push_38 : decode cX6_push 38 = .ok (.getfield 21, 3) := by decide +kernel
theorem dX6_push_41 : decode cX6_push 41 = .ok (.iconst 1, 1) := by decide +kernel
theorem dX6_push_42 : decode cX6_push 42 = .ok (.iadd, 1) := by decide +kernel
theorem dX6_push_43 : decode cX6_push 43 = .ok (.putfield 21, 3) := by decide +kernel
theorem dX6_push_46 : decode cX6_push 46 = .ok (.return_, 1) := by decide +kernel
theorem dX6_pop_0 : decode cX6_pop 0 = .ok (.aload_n 0, 1) := by decide +kernel
theorem dX6_pop_1 : decode cX6_pop 1 = .ok (.getfield 21, 3) := by decide +kernel
theorem dX6_pop_4 : decode cX6_pop 4 = .ok (.ifCond .le 13, 3) := by decide +kernel
theorem dX6_pop_7 : decode cX6_pop 7 = .ok (.aload_n 0, 1) := by decide +kernel
theorem dX6_pop_8 : decode cX6_pop 8 = .ok (.dup, 1) := by decide +kernel
theorem dX6_pop_9 : decode cX6_pop 9 = .ok (.getfield 21, 3) := by decide +kernel
theorem dX6_pop_12 : decode cX6_pop 12 = .ok (.iconst 1, 1) := by decide +kernel
theorem dX6_pop_13 : decode cX6_pop 13 = .ok (.isub, 1) := by decide +kernel
theorem dX6_pop_14 : decode cX6_pop 14 = .ok (.putfield 21, 3) := by decide +kernel
theorem dX6_pop_17 : decode cX6_pop 17 = .ok (.return_, 1) := by decide +kernel
theorem dX6_topWho_0 : decode cX6_topWho 0 = .ok (.aload_n 0, 1) := by decide +kernel
theorem dX6_topWho_1 : decode cX6_topWho 1 = .ok (.getfield 11, 3) := by decide +kernel
theorem dX6_topWho_4 : decode cX6_topWho 4 = .ok (.aload_n 0, 1) := by decide +kernel
theorem dX6_topWho_5 : decode cX6_topWho 5 = .ok (.getfield 21, 3) := by decide +kernel
theorem dX6_topWho_8 : decode cX6_topWho 8 = .ok (.iconst 1, 1) := by decide +kernel
theorem dX6_topWho_9 : decode cX6_topWho 9 = .ok (.isub, 1) := by decide +kernel
theorem dX6_topWho_10 : decode cX6_topWho 10 = .ok (.invokestatic 29, 3) := by decide +kernel
theorem dX6_topWho_13 : decode cX6_topWho 13 = .ok (.ireturn, 1) := by decide +kernel
theorem dX7_init_0 : decode cX7_init 0 = .ok (.aload_n 0, 1) := by decide +kernel
theorem dX7_init_1 : decode cX7_init 1 = .ok (.invokespecial 3, 3) := by decide +kernel
theorem dX7_init_4 : decode cX7_init 4 = .ok (.aload_n 0, 1) := by decide +kernel
theorem dX7_init_5 : decode cX7_init 5 = .ok (.sipush 500, 3) := by decide +kernel
theorem dX7_init_8 : decode cX7_init 8 = .ok (.newarray .int, 2) := by decide +kernel
theorem dX7_init_10 : decode cX7_init 10 = .ok (.putfield 9, 3) := by decide +kernel
theorem dX7_init_13 : decode cX7_init 13 = .ok (.return_, 1) := by decide +kernel
theorem dX7_append_0 : decode cX7_append 0 = .ok (.bipush 24, 2) := by decide +kernel
theorem dX7_append_2 : decode cX7_append 2 = .ok (.istore_n 2, 1) := by decide +kernel
theorem dX7_append_3 : decode cX7_append 3 = .ok (.iload_n 2, 1) := by decide +kernel
theorem dX7_append_4 : decode cX7_append 4 = .ok (.ifCond .lt 37, 3) := by decide +kernel
theorem dX7_append_7 : decode cX7_append 7 = .ok (.aload_n 0, 1) := by decide +kernel
theorem dX7_append_8 : decode cX7_append 8 = .ok (.getfield 9, 3) := by decide +kernel
theorem dX7_append_11 : decode cX7_append 11 = .ok (.aload_n 0, 1) := by decide +kernel
theorem dX7_append_12 : decode cX7_append 12 = .ok (.getfield 15, 3) := by decide +kernel
theorem dX7_append_15 : decode cX7_append 15 = .ok (.iload_n 1, 1) := by decide +kernel
theorem dX7_append_16 : decode cX7_append 16 = .ok (.iload_n 2, 1) := by decide +kernel
theorem dX7_append_17 : decode cX7_append 17 = .ok (.ishr, 1) := by decide +kernel
theorem dX7_append_18 : decode cX7_append 18 = .ok (.sipush 255, 3) := by decide +kernel
theorem dX7_append_21 : decode cX7_append 21 = .ok (.iand, 1) := by decide +kernel
theorem dX7_append_22 : decode cX7_append 22 = .ok (.invokestatic 19, 3) := by decide +kernel
theorem dX7_append_25 : decode cX7_append 25 = .ok (.aload_n 0, 1) := by decide +kernel
theorem dX7_append_26 : decode cX7_append 26 = .ok (.dup, 1) := by decide +kernel
theorem dX7_append_27 : decode cX7_append 27 = .ok (.getfield 15, 3) := by decide +kernel
theorem dX7_append_30 : decode cX7_append 30 = .ok (.iconst 1, 1) := by decide +kernel
theorem dX7_append_31 : decode cX7_append 31 = .ok (.iadd, 1) := by decide +kernel
theorem dX7_append_32 : decode cX7_append 32 = .ok (.putfield 15, 3) := by decide +kernel
theorem dX7_append_35 : decode cX7_append 35 = .ok (.iinc 2 (-8), 3) := by decide +kernel
theorem dX7_append_38 : decode cX7_append 38 = .ok (.goto (-35), 3) := by decide +kernel
theorem dX7_append_41 : decode cX7_append 41 = .ok (.return_, 1) := by decide +kernel
theorem dX8_init_0 : decode cX8_init 0 = .ok (.aload_n 0, 1) := by decide +kernel
theorem dX8_init_1 : decode cX8_init 1 = .ok (.invokespecial 1, 3) := by decide +kernel
theorem dX8_init_4 : decode cX8_init 4 = .ok (.aload_n 0, 1) := by decide +kernel
theorem dX8_init_5 : decode cX8_init 5 = .ok (.new 7, 3) := by decide +kernel
theorem dX8_init_8 : decode cX8_init 8 = .ok (.dup, 1) := by decide +kernel
theorem dX8_init_9 : decode cX8_init 9 = .ok (.invokespecial 9, 3) := by decide +kernel
theorem dX8_init_12 : decode cX8_init 12 = .ok (.putfield 10, 3) := by decide +kernel
theorem dX8_init_15 : decode cX8_init 15 = .ok (.aload_n 0, 1) := by decide +kernel
theorem dX8_init_16 : decode cX8_init 16 = .ok (.aload_n 0, 1) := by decide +kernel
theorem dX8_init_17 : decode cX8_init 17 = .ok (.getfield 10, 3) := by decide +kernel
theorem dX8_init_20 : decode cX8_init 20 = .ok (.getfield 16, 3) := by decide +kernel
theorem dX8_init_23 : decode cX8_init 23 = .ok (.putfield 20, 3) := by decide +kernel
theorem dX8_init_26 : decode cX8_init 26 = .ok (.aload_n 0, 1) := by decide +kernel
theorem dX8_init_27 : decode cX8_init 27 = .ok (.aload_n 0, 1) := by decide +kernel
theorem dX8_init_28 : decode cX8_init 28 = .ok (.getfield 10, 3) := by decide +kernel
theorem dX8_init_31 : decode cX8_init 31 = .ok (.getfield 21, 3) := by decide +kernel
theorem dX8_init_34 : decode cX8_init 34 = .ok (.putfield 25, 3) := by decide +kernel
theorem dX8_init_37 : decode cX8_init 37 = .ok (.aload_n 0, 1) := by decide +kernel
theorem dX8_init_38 : decode cX8_init 38 = .ok (.new 26, 3) := by decide +kernel
theorem dX8_init_41 : decode cX8_init 41 = .ok (.dup, 1) := by decide +kernel
theorem dX8_init_42 : decode cX8_init 42 = .ok (.invokespecial 28, 3) := by decide +kernel
theorem dX8_init_45 : decode cX8_init 45 = .ok (.putfield 29, 3) := by decide +kernel
theorem dX8_init_48 : decode cX8_init 48 = .ok (.aload_n 0, 1) := by decide +kernel
theorem dX8_init_49 : decode cX8_init 49 = .ok (.aload_n 0, 1) := by decide +kernel
theorem dX8_init_50 : decode cX8_init 50 = .ok (.getfield 29, 3) := by decide +kernel
theorem dX8_init_53 : decode cX8_init 53 = .ok (.getfield 33, 3) := by decide +kernel
theorem dX8_init_56 : decode cX8_init 56 = .ok (.putfield 36, 3) := by decide +kernel
theorem dX8_init_59 : decode cX8_init 59 = .ok (.aload_n 0, 1) := by decide +kernel
theorem dX8_init_60 : decode cX8_init 60 = .ok (.aload_n 0, 1) := by decide +kernel
theorem dX8_init_61 : decode cX8_init 61 = .ok (.getfield 29, 3) := by decide +kernel
theorem dX8_init_64 : decode cX8_init 64 = .ok (.getfield 37, 3) := by decide +kernel
theorem dX8_init_67 : decode cX8_init 67 = .ok (.putfield 41, 3) := by decide +kernel
theorem dX8_init_70 : decode cX8_init 70 = .ok (.aload_n 0, 1) := by decide +kernel
theorem dX8_init_71 : decode cX8_init 71 = .ok (.new 44, 3) := by decide +kernel
theorem dX8_init_74 : decode cX8_init 74 = .ok (.dup, 1) := by decide +kernel
theorem dX8_init_75 : decode cX8_init 75 = .ok (.invokespecial 46, 3) := by decide +kernel
theorem dX8_init_78 : decode cX8_init 78 = .ok (.putfield 47, 3) := by decide +kernel
theorem dX8_init_81 : decode cX8_init 81 = .ok (.aload_n 0, 1) := by decide +kernel
theorem dX8_init_82 : decode cX8_init 82 = .ok (.new 50, 3) := by decide +kernel
theorem dX8_init_85 : decode cX8_init 85 = .ok (.dup, 1) := by decide +kernel
theorem dX8_init_86 : decode cX8_init 86 = .ok (.invokespecial 52, 3) := by decide +kernel
theorem dX8_init_89 : decode cX8_init 89 = .ok (.putfield 53, 3) := by decide +kernel
theorem dX8_init_92 : decode cX8_init 92 = .ok (.aload_n 0, 1) := by decide +kernel
theorem dX8_init_93 : decode cX8_init 93 = .ok (.new 57, 3) := by decide +kernel
theorem dX8_init_96 : decode cX8_init 96 = .ok (.dup, 1) := by decide +kernel
theorem dX8_init_97 : decode cX8_init 97 = .ok (.invokespecial 59, 3) := by decide +kernel
theorem dX8_init_100 : decode cX8_init 100 = .ok (.putfield 60, 3) := by decide +kernel
theorem dX8_init_103 : decode cX8_init 103 = .ok (.return_, 1) := by decide +kernel
theorem dX8_feed_0 : decode cX8_feed 0 = .ok (.aload_n 0, 1) := by decide +kernel
theorem dX8_feed_1 : decode cX8_feed 1 = .ok (.getfield 20, 3) := by decide +kernel
theorem dX8_feed_4 : decode cX8_feed 4 = .ok (.getfield 64, 3) := by decide +kernel
theorem dX8_feed_7 : decode cX8_feed 7 = .ok (.bipush 20, 2) := by decide +kernel
theorem dX8_feed_9 : decode cX8_feed 9 = .ok (.iadd, 1) := by decide +kernel
theorem dX8_feed_10 : decode cX8_feed 10 = .ok (.sipush 500, 3) := by decide +kernel
theorem dX8_feed_13 : decode cX8_feed 13 = .ok (.if_icmp .le 5, 3) := by decide +kernel
theorem dX8_feed_16 : decode cX8_feed 16 = .ok (.iconst (-1), 1) := by decide +kernel
theorem dX8_feed_17 : decode cX8_feed 17 = .ok (.ireturn, 1) := by decide +kernel
theorem dX8_feed_18 : decode cX8_feed 18 = .ok (.aload_n 0, 1) := by decide +kernel
theorem dX8_feed_19 : decode cX8_feed 19 = .ok (.getfield 20, 3) := by decide +kernel
theorem dX8_feed_22 : decode cX8_feed 22 = .ok (.iload_n 1, 1) := by decide +kernel
theorem dX8_feed_23 : decode cX8_feed 23 = .ok (.invokevirtual 70, 3) := by decide +kernel
theorem dX8_feed_26 : decode cX8_feed 26 = .ok (.aload_n 0, 1) := by decide +kernel
theorem dX8_feed_27 : decode cX8_feed 27 = .ok (.getfield 20, 3) := by decide +kernel
theorem dX8_feed_30 : decode cX8_feed 30 = .ok (.iload_n 2, 1) := by decide +kernel
theorem dX8_feed_31 : decode cX8_feed 31 = .ok (.invokevirtual 70, 3) := by decide +kernel
theorem dX8_feed_34 : decode cX8_feed 34 = .ok (.aload_n 0, 1) := by decide +kernel
theorem dX8_feed_35 : decode cX8_feed 35 = .ok (.getfield 20, 3) := by decide +kernel
theorem dX8_feed_38 : decode cX8_feed 38 = .ok (.iload_n 3, 1) := by decide +kernel
theorem dX8_feed_39 : decode cX8_feed 39 = .ok (.invokevirtual 70, 3) := by decide +kernel
theorem dX8_feed_42 : decode cX8_feed 42 = .ok (.aload_n 0, 1) := by decide +kernel
theorem dX8_feed_43 : decode cX8_feed 43 = .ok (.getfield 20, 3) := by decide +kernel
theorem dX8_feed_46 : decode cX8_feed 46 = .ok (.iload 4, 2) := by decide +kernel
theorem dX8_feed_48 : decode cX8_feed 48 = .ok (.invokevirtual 70, 3) := by decide +kernel
theorem dX8_feed_51 : decode cX8_feed 51 = .ok (.aload_n 0, 1) := by decide +kernel
theorem dX8_feed_52 : decode cX8_feed 52 = .ok (.getfield 20, 3) := by decide +kernel
theorem dX8_feed_55 : decode cX8_feed 55 = .ok (.iload 5, 2) := by decide +kernel
theorem dX8_feed_57 : decode cX8_feed 57 = .ok (.invokevirtual 70, 3) := by decide +kernel
theorem dX8_feed_60 : decode cX8_feed 60 = .ok (.aload_n 0, 1) := by decide +kernel
theorem dX8_feed_61 : decode cX8_feed 61 = .ok (.getfield 20, 3) := by decide +kernel
theorem dX8_feed_64 : decode cX8_feed 64 = .ok (.getfield 64, 3) := by decide +kernel
theorem dX8_feed_67 : decode cX8_feed 67 = .ok (.ireturn, 1) := by decide +kernel
theorem dX8_end_0 : decode cX8_end 0 = .ok (.iload_n 1, 1) := by decide +kernel
theorem dX8_end_1 : decode cX8_end 1 = .ok (.ifCond .lt 14, 3) := by decide +kernel
theorem dX8_end_4 : decode cX8_end 4 = .ok (.iload_n 1, 1) := by decide +kernel
theorem dX8_end_5 : decode cX8_end 5 = .ok (.aload_n 0, 1) := by decide +kernel
theorem dX8_end_6 : decode cX8_end 6 = .ok (.getfield 20, 3) := by decide +kernel
theorem dX8_end_9 : decode cX8_end 9 = .ok (.getfield 64, 3) := by decide +kernel
theorem dX8_end_12 : decode cX8_end 12 = .ok (.if_icmp .le 5, 3) := by decide +kernel
theorem dX8_end_15 : decode cX8_end 15 = .ok (.iconst (-1), 1) := by decide +kernel
theorem dX8_end_16 : decode cX8_end 16 = .ok (.ireturn, 1) := by decide +kernel
theorem dX8_end_17 : decode cX8_end 17 = .ok (.aload_n 0, 1) := by decide +kernel
theorem dX8_end_18 : decode cX8_end 18 = .ok (.getfield 20, 3) := by decide +kernel
theorem dX8_end_21 : decode cX8_end 21 = .ok (.iload_n 1, 1) := by decide +kernel
theorem dX8_end_22 : decode cX8_end 22 = .ok (.putfield 64, 3) := by decide +kernel
theorem dX8_end_25 : decode cX8_end 25 = .ok (.iload_n 1, 1) := by decide +kernel
theorem dX8_end_26 : decode cX8_end 26 = .ok (.ireturn, 1) := by decide +kernel
theorem dX8_channel_0 : decode cX8_channel 0 = .ok (.aload_n 0, 1) := by decide +kernel
theorem dX8_channel_1 : decode cX8_channel 1 = .ok (.getfield 10, 3) := by decide +kernel
theorem dX8_channel_4 : decode cX8_channel 4 = .ok (.invokevirtual 74, 3) := by decide +kernel
theorem dX8_channel_7 : decode cX8_channel 7 = .ok (.istore_n 1, 1) := by decide +kernel
theorem dX8_channel_8 : decode cX8_channel 8 = .ok (.aload_n 0, 1) := by decide +kernel
theorem dX8_channel_9 : decode cX8_channel 9 = .ok (.getfield 20, 3) := by decide +kernel
theorem dX8_channel_12 : decode cX8_channel 12 = .ok (.iconst 0, 1) := by decide +kernel
theorem dX8_channel_13 : decode cX8_channel 13 = .ok (.putfield 64, 3) := by decide +kernel
theorem dX8_channel_16 : decode cX8_channel 16 = .ok (.iload_n 1, 1) := by decide +kernel
theorem dX8_channel_17 : decode cX8_channel 17 = .ok (.ifCond .ne 6, 3) := by decide +kernel
theorem dX8_channel_20 : decode cX8_channel 20 = .ok (.bipush (-4), 2) := by decide +kernel
theorem dX8_channel_22 : decode cX8_channel 22 = .ok (.ireturn, 1) := by decide +kernel
theorem dX8_channel_23 : decode cX8_channel 23 = .ok (.aload_n 0, 1) := by decide +kernel
theorem dX8_channel_24 : decode cX8_channel 24 = .ok (.getfield 36, 3) := by decide +kernel
theorem dX8_channel_27 : decode cX8_channel 27 = .ok (.aload_n 0, 1) := by decide +kernel
theorem dX8_channel_28 : decode cX8_channel 28 = .ok (.getfield 25, 3) := by decide +kernel
theorem dX8_channel_31 : decode cX8_channel 31 = .ok (.invokevirtual 78, 3) := by decide +kernel
theorem dX8_channel_34 : decode cX8_channel 34 = .ok (.aload_n 0, 1) := by decide +kernel
theorem dX8_channel_35 : decode cX8_channel 35 = .ok (.getfield 53, 3) := by decide +kernel
theorem dX8_channel_38 : decode cX8_channel 38 = .ok (.iconst 0, 1) := by decide +kernel
theorem dX8_channel_39 : decode cX8_channel 39 = .ok (.putfield 84, 3) := by decide +kernel
theorem dX8_channel_42 : decode cX8_channel 42 = .ok (.aload_n 0, 1) := by decide +kernel
theorem dX8_channel_43 : decode cX8_channel 43 = .ok (.getfield 29, 3) := by decide +kernel
theorem dX8_channel_46 : decode cX8_channel 46 = .ok (.aload_n 0, 1) := by decide +kernel
theorem dX8_channel_47 : decode cX8_channel 47 = .ok (.getfield 41, 3) := by decide +kernel
theorem dX8_channel_50 : decode cX8_channel 50 = .ok (.aload_n 0, 1) := by decide +kernel
theorem dX8_channel_51 : decode cX8_channel 51 = .ok (.getfield 36, 3) := by decide +kernel
theorem dX8_channel_54 : decode cX8_channel 54 = .ok (.getfield 87, 3) := by decide +kernel
theorem dX8_channel_57 : decode cX8_channel 57 = .ok (.iconst (-1), 1) := by decide +kernel
theorem dX8_channel_58 : decode cX8_channel 58 = .ok (.iconst (-1), 1) := by decide +kernel
theorem dX8_channel_59 : decode cX8_channel 59 = .ok (.invokevirtual 90, 3) := by decide +kernel
theorem dX8_channel_62 : decode cX8_channel 62 = .ok (.pop, 1) := by decide +kernel
theorem dX8_channel_63 : decode cX8_channel 63 = .ok (.aload_n 0, 1) := by decide +kernel
theorem dX8_channel_64 : decode cX8_channel 64 = .ok (.getfield 36, 3) := by decide +kernel
theorem dX8_channel_67 : decode cX8_channel 67 = .ok (.getfield 94, 3) := by decide +kernel
theorem dX8_channel_70 : decode cX8_channel 70 = .ok (.ireturn, 1) := by decide +kernel
theorem dX8_count_0 : decode cX8_count 0 = .ok (.iload_n 1, 1) := by decide +kernel
theorem dX8_count_1 : decode cX8_count 1 = .ok (.tableswitch 123 0 8 #[51, 59, 67, 75, 83, 91, 99, 107, 115], 51) := by decide +kernel
theorem dX8_count_52 : decode cX8_count 52 = .ok (.aload_n 0, 1) := by decide +kernel
theorem dX8_count_53 : decode cX8_count 53 = .ok (.getfield 36, 3) := by decide +kernel
theorem dX8_count_56 : decode cX8_count 56 = .ok (.getfield 87, 3) := by decide +kernel
theorem dX8_count_59 : decode cX8_count 59 = .ok (.ireturn, 1) := by decide +kernel
theorem dX8_count_60 : decode cX8_count 60 = .ok (.aload_n 0, 1) := by decide +kernel
theorem dX8_count_61 : decode cX8_count 61 = .ok (.getfield 36, 3) := by decide +kernel
theorem dX8_count_64 : decode cX8_count 64 = .ok (.getfield 103, 3) := by decide +kernel
theorem dX8_count_67 : decode cX8_count 67 = .ok (.ireturn, 1) := by decide +kernel
theorem dX8_count_68 : decode cX8_count 68 = .ok (.aload_n 0, 1) := by decide +kernel
theorem dX8_count_69 : decode cX8_count 69 = .ok (.getfield 36, 3) := by decide +kernel
theorem dX8_count_72 : decode cX8_count 72 = .ok (.getfield 106, 3) := by decide +kernel
theorem dX8_count_75 : decode cX8_count 75 = .ok (.ireturn, 1) := by decide +kernel
theorem dX8_count_76 : decode cX8_count 76 = .ok (.aload_n 0, 1) := by decide +kernel
theorem dX8_count_77 : decode cX8_count 77 = .ok (.getfield 36, 3) := by decide +kernel
theorem dX8_count_80 : decode cX8_count 80 = .ok (.getfield 109, 3) := by decide +kernel
theorem dX8_count_83 : decode cX8_count 83 = .ok (.ireturn, 1) := by decide +kernel
theorem dX8_count_84 : decode cX8_count 84 = .ok (.aload_n 0, 1) := by decide +kernel
theorem dX8_count_85 : decode cX8_count 85 = .ok (.getfield 36, 3) := by decide +kernel
theorem dX8_count_88 : decode cX8_count 88 = .ok (.getfield 112, 3) := by decide +kernel
theorem dX8_count_91 : decode cX8_count 91 = .ok (.ireturn, 1) := by decide +kernel
theorem dX8_count_92 : decode cX8_count 92 = .ok (.aload_n 0, 1) := by decide +kernel
theorem dX8_count_93 : decode cX8_count 93 = .ok (.getfield 36, 3) := by decide +kernel
theorem dX8_count_96 : decode cX8_count 96 = .ok (.getfield 115, 3) := by decide +kernel
theorem dX8_count_99 : decode cX8_count 99 = .ok (.ireturn, 1) := by decide +kernel
theorem dX8_count_100 : decode cX8_count 100 = .ok (.aload_n 0, 1) := by decide +kernel
theorem dX8_count_101 : decode cX8_count 101 = .ok (.getfield 53, 3) := by decide +kernel
theorem dX8_count_104 : decode cX8_count 104 = .ok (.getfield 84, 3) := by decide +kernel
theorem dX8_count_107 : decode cX8_count 107 = .ok (.ireturn, 1) := by decide +kernel
theorem dX8_count_108 : decode cX8_count 108 = .ok (.aload_n 0, 1) := by decide +kernel
theorem dX8_count_109 : decode cX8_count 109 = .ok (.getfield 36, 3) := by decide +kernel
theorem dX8_count_112 : decode cX8_count 112 = .ok (.getfield 94, 3) := by decide +kernel
theorem dX8_count_115 : decode cX8_count 115 = .ok (.ireturn, 1) := by decide +kernel
theorem dX8_count_116 : decode cX8_count 116 = .ok (.aload_n 0, 1) := by decide +kernel
theorem dX8_count_117 : decode cX8_count 117 = .ok (.getfield 20, 3) := by decide +kernel
theorem dX8_count_120 : decode cX8_count 120 = .ok (.getfield 64, 3) := by decide +kernel
theorem dX8_count_123 : decode cX8_count 123 = .ok (.ireturn, 1) := by decide +kernel
theorem dX8_count_124 : decode cX8_count 124 = .ok (.iconst (-1), 1) := by decide +kernel
theorem dX8_count_125 : decode cX8_count 125 = .ok (.ireturn, 1) := by decide +kernel
theorem dX8_slot_0 : decode cX8_slot 0 = .ok (.aload_n 0, 1) := by decide +kernel
theorem dX8_slot_1 : decode cX8_slot 1 = .ok (.getfield 36, 3) := by decide +kernel
theorem dX8_slot_4 : decode cX8_slot 4 = .ok (.iload_n 1, 1) := by decide +kernel
theorem dX8_slot_5 : decode cX8_slot 5 = .ok (.invokevirtual 137, 3) := by decide +kernel
theorem dX8_slot_8 : decode cX8_slot 8 = .ok (.ifCond .ne 6, 3) := by decide +kernel
theorem dX8_slot_11 : decode cX8_slot 11 = .ok (.bipush (-2), 2) := by decide +kernel
theorem dX8_slot_13 : decode cX8_slot 13 = .ok (.ireturn, 1) := by decide +kernel
theorem dX8_slot_14 : decode cX8_slot 14 = .ok (.iload_n 2, 1) := by decide +kernel
theorem dX8_slot_15 : decode cX8_slot 15 = .ok (.tableswitch 96 0 4 #[33, 48, 60, 72, 84], 33) := by decide +kernel
theorem dX8_slot_48 : decode cX8_slot 48 = .ok (.aload_n 0, 1) := by decide +kernel
theorem dX8_slot_49 : decode cX8_slot 49 = .ok (.getfield 41, 3) := by decide +kernel
theorem dX8_slot_52 : decode cX8_slot 52 = .ok (.getfield 140, 3) := by decide +kernel
theorem dX8_slot_55 : decode cX8_slot 55 = .ok (.iload_n 1, 1) := by decide +kernel
theorem dX8_slot_56 : decode cX8_slot 56 = .ok (.invokestatic 126, 3) := by decide +kernel
theorem dX8_slot_59 : decode cX8_slot 59 = .ok (.invokestatic 143, 3) := by decide +kernel
theorem dX8_slot_62 : decode cX8_slot 62 = .ok (.ireturn, 1) := by decide +kernel
theorem dX8_slot_63 : decode cX8_slot 63 = .ok (.aload_n 0, 1) := by decide +kernel
theorem dX8_slot_64 : decode cX8_slot 64 = .ok (.getfield 41, 3) := by decide +kernel
theorem dX8_slot_67 : decode cX8_slot 67 = .ok (.getfield 149, 3) := by decide +kernel
theorem dX8_slot_70 : decode cX8_slot 70 = .ok (.iload_n 1, 1) := by decide +kernel
theorem dX8_slot_71 : decode cX8_slot 71 = .ok (.invokestatic 126, 3) := by decide +kernel
theorem dX8_slot_74 : decode cX8_slot 74 = .ok (.ireturn, 1) := by decide +kernel
theorem dX8_slot_75 : decode cX8_slot 75 = .ok (.aload_n 0, 1) := by decide +kernel
theorem dX8_slot_76 : decode cX8_slot 76 = .ok (.getfield 41, 3) := by decide +kernel
theorem dX8_slot_79 : decode cX8_slot 79 = .ok (.getfield 152, 3) := by decide +kernel
theorem dX8_slot_82 : decode cX8_slot 82 = .ok (.iload_n 1, 1) := by decide +kernel
theorem dX8_slot_83 : decode cX8_slot 83 = .ok (.invokestatic 126, 3) := by decide +kernel
theorem dX8_slot_86 : decode cX8_slot 86 = .ok (.ireturn, 1) := by decide +kernel
theorem dX8_slot_87 : decode cX8_slot 87 = .ok (.aload_n 0, 1) := by decide +kernel
theorem dX8_slot_88 : decode cX8_slot 88 = .ok (.getfield 41, 3) := by decide +kernel
theorem dX8_slot_91 : decode cX8_slot 91 = .ok (.getfield 155, 3) := by decide +kernel
theorem dX8_slot_94 : decode cX8_slot 94 = .ok (.iload_n 1, 1) := by decide +kernel
theorem dX8_slot_95 : decode cX8_slot 95 = .ok (.invokestatic 126, 3) := by decide +kernel
theorem dX8_slot_98 : decode cX8_slot 98 = .ok (.ireturn, 1) := by decide +kernel
theorem dX8_slot_99 : decode cX8_slot 99 = .ok (.aload_n 0, 1) := by decide +kernel
theorem dX8_slot_100 : decode cX8_slot 100 = .ok (.getfield 41, 3) := by decide +kernel
theorem dX8_slot_103 : decode cX8_slot 103 = .ok (.getfield 158, 3) := by decide +kernel
theorem dX8_slot_106 : decode cX8_slot 106 = .ok (.iload_n 1, 1) := by decide +kernel
theorem dX8_slot_107 : decode cX8_slot 107 = .ok (.invokestatic 126, 3) := by decide +kernel
theorem dX8_slot_110 : decode cX8_slot 110 = .ok (.ireturn, 1) := by decide +kernel
theorem dX8_slot_111 : decode cX8_slot 111 = .ok (.bipush (-2), 2) := by decide +kernel
theorem dX8_slot_113 : decode cX8_slot 113 = .ok (.ireturn, 1) := by decide +kernel
theorem dX8_sends_0 : decode cX8_sends 0 = .ok (.aload_n 0, 1) := by decide +kernel
theorem dX8_sends_1 : decode cX8_sends 1 = .ok (.getfield 36, 3) := by decide +kernel
theorem dX8_sends_4 : decode cX8_sends 4 = .ok (.iload_n 1, 1) := by decide +kernel
theorem dX8_sends_5 : decode cX8_sends 5 = .ok (.invokevirtual 137, 3) := by decide +kernel
theorem dX8_sends_8 : decode cX8_sends 8 = .ok (.ifCond .eq 14, 3) := by decide +kernel
theorem dX8_sends_11 : decode cX8_sends 11 = .ok (.aload_n 0, 1) := by decide +kernel
theorem dX8_sends_12 : decode cX8_sends 12 = .ok (.getfield 36, 3) := by decide +kernel
theorem dX8_sends_15 : decode cX8_sends 15 = .ok (.iload_n 2, 1) := by decide +kernel
theorem dX8_sends_16 : decode cX8_sends 16 = .ok (.invokevirtual 118, 3) := by decide +kernel
theorem dX8_sends_19 : decode cX8_sends 19 = .ok (.ifCond .ne 6, 3) := by decide +kernel
theorem dX8_sends_22 : decode cX8_sends 22 = .ok (.bipush (-2), 2) := by decide +kernel
theorem dX8_sends_24 : decode cX8_sends 24 = .ok (.ireturn, 1) := by decide +kernel
theorem dX8_sends_25 : decode cX8_sends 25 = .ok (.aload_n 0, 1) := by decide +kernel
theorem dX8_sends_26 : decode cX8_sends 26 = .ok (.getfield 41, 3) := by decide +kernel
theorem dX8_sends_29 : decode cX8_sends 29 = .ok (.getfield 140, 3) := by decide +kernel
theorem dX8_sends_32 : decode cX8_sends 32 = .ok (.iload_n 1, 1) := by decide +kernel
theorem dX8_sends_33 : decode cX8_sends 33 = .ok (.invokestatic 126, 3) := by decide +kernel
theorem dX8_sends_36 : decode cX8_sends 36 = .ok (.iload_n 2, 1) := by decide +kernel
theorem dX8_sends_37 : decode cX8_sends 37 = .ok (.ishr, 1) := by decide +kernel
theorem dX8_sends_38 : decode cX8_sends 38 = .ok (.iconst 1, 1) := by decide +kernel
theorem dX8_sends_39 : decode cX8_sends 39 = .ok (.iand, 1) := by decide +kernel
theorem dX8_sends_40 : decode cX8_sends 40 = .ok (.ireturn, 1) := by decide +kernel
theorem dX8_delivered_0 : decode cX8_delivered 0 = .ok (.aload_n 0, 1) := by decide +kernel
theorem dX8_delivered_1 : decode cX8_delivered 1 = .ok (.getfield 36, 3) := by decide +kernel
theorem dX8_delivered_4 : decode cX8_delivered 4 = .ok (.iload_n 1, 1) := by decide +kernel
theorem dX8_delivered_5 : decode cX8_delivered 5 = .ok (.invokevirtual 118, 3) := by decide +kernel
theorem dX8_delivered_8 : decode cX8_delivered 8 = .ok (.ifCond .eq 17, 3) := by decide +kernel
theorem dX8_delivered_11 : decode cX8_delivered 11 = .ok (.aload_n 0, 1) := by decide +kernel
theorem dX8_delivered_12 : decode cX8_delivered 12 = .ok (.getfield 41, 3) := by decide +kernel
theorem dX8_delivered_15 : decode cX8_delivered 15 = .ok (.getfield 161, 3) := by decide +kernel
theorem dX8_delivered_18 : decode cX8_delivered 18 = .ok (.iload_n 1, 1) := by decide +kernel
theorem dX8_delivered_19 : decode cX8_delivered 19 = .ok (.invokestatic 126, 3) := by decide +kernel
theorem dX8_delivered_22 : decode cX8_delivered 22 = .ok (.goto 5, 3) := by decide +kernel
theorem dX8_delivered_25 : decode cX8_delivered 25 = .ok (.bipush (-2), 2) := by decide +kernel
theorem dX8_delivered_27 : decode cX8_delivered 27 = .ok (.ireturn, 1) := by decide +kernel
theorem dX8_tries_0 : decode cX8_tries 0 = .ok (.aload_n 0, 1) := by decide +kernel
theorem dX8_tries_1 : decode cX8_tries 1 = .ok (.getfield 36, 3) := by decide +kernel
theorem dX8_tries_4 : decode cX8_tries 4 = .ok (.iload_n 1, 1) := by decide +kernel
theorem dX8_tries_5 : decode cX8_tries 5 = .ok (.invokevirtual 118, 3) := by decide +kernel
theorem dX8_tries_8 : decode cX8_tries 8 = .ok (.ifCond .eq 17, 3) := by decide +kernel
theorem dX8_tries_11 : decode cX8_tries 11 = .ok (.aload_n 0, 1) := by decide +kernel
theorem dX8_tries_12 : decode cX8_tries 12 = .ok (.getfield 41, 3) := by decide +kernel
theorem dX8_tries_15 : decode cX8_tries 15 = .ok (.getfield 164, 3) := by decide +kernel
theorem dX8_tries_18 : decode cX8_tries 18 = .ok (.iload_n 1, 1) := by decide +kernel
theorem dX8_tries_19 : decode cX8_tries 19 = .ok (.invokestatic 126, 3) := by decide +kernel
theorem dX8_tries_22 : decode cX8_tries 22 = .ok (.goto 5, 3) := by decide +kernel
theorem dX8_tries_25 : decode cX8_tries 25 = .ok (.bipush (-2), 2) := by decide +kernel
theorem dX8_tries_27 : decode cX8_tries 27 = .ok (.ireturn, 1) := by decide +kernel
theorem dX8_taken_0 : decode cX8_taken 0 = .ok (.aload_n 0, 1) := by decide +kernel
theorem dX8_taken_1 : decode cX8_taken 1 = .ok (.getfield 36, 3) := by decide +kernel
theorem dX8_taken_4 : decode cX8_taken 4 = .ok (.iload_n 1, 1) := by decide +kernel
theorem dX8_taken_5 : decode cX8_taken 5 = .ok (.invokevirtual 118, 3) := by decide +kernel
theorem dX8_taken_8 : decode cX8_taken 8 = .ok (.ifCond .eq 17, 3) := by decide +kernel
theorem dX8_taken_11 : decode cX8_taken 11 = .ok (.aload_n 0, 1) := by decide +kernel
theorem dX8_taken_12 : decode cX8_taken 12 = .ok (.getfield 41, 3) := by decide +kernel
theorem dX8_taken_15 : decode cX8_taken 15 = .ok (.getfield 167, 3) := by decide +kernel
theorem dX8_taken_18 : decode cX8_taken 18 = .ok (.iload_n 1, 1) := by decide +kernel
theorem dX8_taken_19 : decode cX8_taken 19 = .ok (.invokestatic 126, 3) := by decide +kernel
theorem dX8_taken_22 : decode cX8_taken 22 = .ok (.goto 5, 3) := by decide +kernel
theorem dX8_taken_25 : decode cX8_taken 25 = .ok (.bipush (-2), 2) := by decide +kernel
theorem dX8_taken_27 : decode cX8_taken 27 = .ok (.ireturn, 1) := by decide +kernel
theorem dX8_order_0 : decode cX8_order 0 = .ok (.iload_n 1, 1) := by decide +kernel
theorem dX8_order_1 : decode cX8_order 1 = .ok (.ifCond .lt 13, 3) := by decide +kernel
theorem dX8_order_4 : decode cX8_order 4 = .ok (.aload_n 0, 1) := by decide +kernel
theorem dX8_order_5 : decode cX8_order 5 = .ok (.getfield 36, 3) := by decide +kernel
theorem dX8_order_8 : decode cX8_order 8 = .ok (.invokevirtual 170, 3) := by decide +kernel
theorem dX8_order_11 : decode cX8_order 11 = .ok (.ifCond .ne 6, 3) := by decide +kernel
theorem dX8_order_14 : decode cX8_order 14 = .ok (.bipush (-2), 2) := by decide +kernel
theorem dX8_order_16 : decode cX8_order 16 = .ok (.ireturn, 1) := by decide +kernel
theorem dX8_order_17 : decode cX8_order 17 = .ok (.iload_n 1, 1) := by decide +kernel
theorem dX8_order_18 : decode cX8_order 18 = .ok (.aload_n 0, 1) := by decide +kernel
theorem dX8_order_19 : decode cX8_order 19 = .ok (.getfield 41, 3) := by decide +kernel
theorem dX8_order_22 : decode cX8_order 22 = .ok (.getfield 173, 3) := by decide +kernel
theorem dX8_order_25 : decode cX8_order 25 = .ok (.if_icmp .ge 17, 3) := by decide +kernel
theorem dX8_order_28 : decode cX8_order 28 = .ok (.aload_n 0, 1) := by decide +kernel
theorem dX8_order_29 : decode cX8_order 29 = .ok (.getfield 41, 3) := by decide +kernel
theorem dX8_order_32 : decode cX8_order 32 = .ok (.getfield 176, 3) := by decide +kernel
theorem dX8_order_35 : decode cX8_order 35 = .ok (.iload_n 1, 1) := by decide +kernel
theorem dX8_order_36 : decode cX8_order 36 = .ok (.invokestatic 126, 3) := by decide +kernel
theorem dX8_order_39 : decode cX8_order 39 = .ok (.goto 4, 3) := by decide +kernel
theorem dX8_order_42 : decode cX8_order 42 = .ok (.iconst (-1), 1) := by decide +kernel
theorem dX8_order_43 : decode cX8_order 43 = .ok (.ireturn, 1) := by decide +kernel
theorem dX8_all_0 : decode cX8_all 0 = .ok (.aload_n 0, 1) := by decide +kernel
theorem dX8_all_1 : decode cX8_all 1 = .ok (.getfield 36, 3) := by decide +kernel
theorem dX8_all_4 : decode cX8_all 4 = .ok (.invokevirtual 170, 3) := by decide +kernel
theorem dX8_all_7 : decode cX8_all 7 = .ok (.ifCond .eq 13, 3) := by decide +kernel
theorem dX8_all_10 : decode cX8_all 10 = .ok (.aload_n 0, 1) := by decide +kernel
theorem dX8_all_11 : decode cX8_all 11 = .ok (.getfield 41, 3) := by decide +kernel
theorem dX8_all_14 : decode cX8_all 14 = .ok (.getfield 173, 3) := by decide +kernel
theorem dX8_all_17 : decode cX8_all 17 = .ok (.goto 5, 3) := by decide +kernel
theorem dX8_all_20 : decode cX8_all 20 = .ok (.bipush (-2), 2) := by decide +kernel
theorem dX8_all_22 : decode cX8_all 22 = .ok (.ireturn, 1) := by decide +kernel
theorem dX8_done_0 : decode cX8_done 0 = .ok (.aload_n 0, 1) := by decide +kernel
theorem dX8_done_1 : decode cX8_done 1 = .ok (.getfield 36, 3) := by decide +kernel
theorem dX8_done_4 : decode cX8_done 4 = .ok (.invokevirtual 170, 3) := by decide +kernel
theorem dX8_done_7 : decode cX8_done 7 = .ok (.ifCond .eq 20, 3) := by decide +kernel
theorem dX8_done_10 : decode cX8_done 10 = .ok (.aload_n 0, 1) := by decide +kernel
theorem dX8_done_11 : decode cX8_done 11 = .ok (.getfield 41, 3) := by decide +kernel
theorem dX8_done_14 : decode cX8_done 14 = .ok (.aload_n 0, 1) := by decide +kernel
theorem dX8_done_15 : decode cX8_done 15 = .ok (.getfield 36, 3) := by decide +kernel
theorem dX8_done_18 : decode cX8_done 18 = .ok (.getfield 112, 3) := by decide +kernel
theorem dX8_done_21 : decode cX8_done 21 = .ok (.invokevirtual 179, 3) := by decide +kernel
theorem dX8_done_24 : decode cX8_done 24 = .ok (.goto 5, 3) := by decide +kernel
theorem dX8_done_27 : decode cX8_done 27 = .ok (.bipush (-2), 2) := by decide +kernel
theorem dX8_done_29 : decode cX8_done 29 = .ok (.ireturn, 1) := by decide +kernel
theorem dX8_heard_0 : decode cX8_heard 0 = .ok (.iload_n 1, 1) := by decide +kernel
theorem dX8_heard_1 : decode cX8_heard 1 = .ok (.ifCond .lt 18, 3) := by decide +kernel
theorem dX8_heard_4 : decode cX8_heard 4 = .ok (.iload_n 1, 1) := by decide +kernel
theorem dX8_heard_5 : decode cX8_heard 5 = .ok (.iconst 2, 1) := by decide +kernel
theorem dX8_heard_6 : decode cX8_heard 6 = .ok (.if_icmp .gt 13, 3) := by decide +kernel
theorem dX8_heard_9 : decode cX8_heard 9 = .ok (.aload_n 0, 1) := by decide +kernel
theorem dX8_heard_10 : decode cX8_heard 10 = .ok (.getfield 36, 3) := by decide +kernel
theorem dX8_heard_13 : decode cX8_heard 13 = .ok (.invokevirtual 170, 3) := by decide +kernel
theorem dX8_heard_16 : decode cX8_heard 16 = .ok (.ifCond .ne 6, 3) := by decide +kernel
theorem dX8_heard_19 : decode cX8_heard 19 = .ok (.bipush (-2), 2) := by decide +kernel
theorem dX8_heard_21 : decode cX8_heard 21 = .ok (.ireturn, 1) := by decide +kernel
theorem dX8_heard_22 : decode cX8_heard 22 = .ok (.aload_n 0, 1) := by decide +kernel
theorem dX8_heard_23 : decode cX8_heard 23 = .ok (.getfield 41, 3) := by decide +kernel
theorem dX8_heard_26 : decode cX8_heard 26 = .ok (.iload_n 1, 1) := by decide +kernel
theorem dX8_heard_27 : decode cX8_heard 27 = .ok (.aload_n 0, 1) := by decide +kernel
theorem dX8_heard_28 : decode cX8_heard 28 = .ok (.getfield 36, 3) := by decide +kernel
theorem dX8_heard_31 : decode cX8_heard 31 = .ok (.getfield 103, 3) := by decide +kernel
theorem dX8_heard_34 : decode cX8_heard 34 = .ok (.invokevirtual 182, 3) := by decide +kernel
theorem dX8_heard_37 : decode cX8_heard 37 = .ok (.ireturn, 1) := by decide +kernel
theorem dX8_collided_0 : decode cX8_collided 0 = .ok (.aload_n 0, 1) := by decide +kernel
theorem dX8_collided_1 : decode cX8_collided 1 = .ok (.getfield 36, 3) := by decide +kernel
theorem dX8_collided_4 : decode cX8_collided 4 = .ok (.invokevirtual 170, 3) := by decide +kernel
theorem dX8_collided_7 : decode cX8_collided 7 = .ok (.ifCond .eq 20, 3) := by decide +kernel
theorem dX8_collided_10 : decode cX8_collided 10 = .ok (.aload_n 0, 1) := by decide +kernel
theorem dX8_collided_11 : decode cX8_collided 11 = .ok (.getfield 41, 3) := by decide +kernel
theorem dX8_collided_14 : decode cX8_collided 14 = .ok (.aload_n 0, 1) := by decide +kernel
theorem dX8_collided_15 : decode cX8_collided 15 = .ok (.getfield 36, 3) := by decide +kernel
theorem dX8_collided_18 : decode cX8_collided 18 = .ok (.getfield 103, 3) := by decide +kernel
theorem dX8_collided_21 : decode cX8_collided 21 = .ok (.invokevirtual 185, 3) := by decide +kernel
theorem dX8_collided_24 : decode cX8_collided 24 = .ok (.goto 5, 3) := by decide +kernel
theorem dX8_collided_27 : decode cX8_collided 27 = .ok (.bipush (-2), 2) := by decide +kernel
theorem dX8_collided_29 : decode cX8_collided 29 = .ok (.ireturn, 1) := by decide +kernel
theorem dX8_skips_0 : decode cX8_skips 0 = .ok (.aload_n 0, 1) := by decide +kernel
theorem dX8_skips_1 : decode cX8_skips 1 = .ok (.getfield 36, 3) := by decide +kernel
theorem dX8_skips_4 : decode cX8_skips 4 = .ok (.invokevirtual 170, 3) := by decide +kernel
theorem dX8_skips_7 : decode cX8_skips 7 = .ok (.ifCond .eq 20, 3) := by decide +kernel
theorem dX8_skips_10 : decode cX8_skips 10 = .ok (.aload_n 0, 1) := by decide +kernel
theorem dX8_skips_11 : decode cX8_skips 11 = .ok (.getfield 41, 3) := by decide +kernel
theorem dX8_skips_14 : decode cX8_skips 14 = .ok (.aload_n 0, 1) := by decide +kernel
theorem dX8_skips_15 : decode cX8_skips 15 = .ok (.getfield 36, 3) := by decide +kernel
theorem dX8_skips_18 : decode cX8_skips 18 = .ok (.getfield 103, 3) := by decide +kernel
theorem dX8_skips_21 : decode cX8_skips 21 = .ok (.invokevirtual 188, 3) := by decide +kernel
theorem dX8_skips_24 : decode cX8_skips 24 = .ok (.goto 5, 3) := by decide +kernel
theorem dX8_skips_27 : decode cX8_skips 27 = .ok (.bipush (-2), 2) := by decide +kernel
theorem dX8_skips_29 : decode cX8_skips 29 = .ok (.ireturn, 1) := by decide +kernel
theorem dX8_deepest_0 : decode cX8_deepest 0 = .ok (.aload_n 0, 1) := by decide +kernel
theorem dX8_deepest_1 : decode cX8_deepest 1 = .ok (.getfield 36, 3) := by decide +kernel
theorem dX8_deepest_4 : decode cX8_deepest 4 = .ok (.invokevirtual 170, 3) := by decide +kernel
theorem dX8_deepest_7 : decode cX8_deepest 7 = .ok (.ifCond .eq 20, 3) := by decide +kernel
theorem dX8_deepest_10 : decode cX8_deepest 10 = .ok (.aload_n 0, 1) := by decide +kernel
theorem dX8_deepest_11 : decode cX8_deepest 11 = .ok (.getfield 41, 3) := by decide +kernel
theorem dX8_deepest_14 : decode cX8_deepest 14 = .ok (.aload_n 0, 1) := by decide +kernel
theorem dX8_deepest_15 : decode cX8_deepest 15 = .ok (.getfield 36, 3) := by decide +kernel
theorem dX8_deepest_18 : decode cX8_deepest 18 = .ok (.getfield 103, 3) := by decide +kernel
theorem dX8_deepest_21 : decode cX8_deepest 21 = .ok (.invokevirtual 191, 3) := by decide +kernel
theorem dX8_deepest_24 : decode cX8_deepest 24 = .ok (.goto 5, 3) := by decide +kernel
theorem dX8_deepest_27 : decode cX8_deepest 27 = .ok (.bipush (-2), 2) := by decide +kernel
theorem dX8_deepest_29 : decode cX8_deepest 29 = .ok (.ireturn, 1) := by decide +kernel
theorem dX8_epochs_0 : decode cX8_epochs 0 = .ok (.aload_n 0, 1) := by decide +kernel
theorem dX8_epochs_1 : decode cX8_epochs 1 = .ok (.getfield 36, 3) := by decide +kernel
theorem dX8_epochs_4 : decode cX8_epochs 4 = .ok (.invokevirtual 170, 3) := by decide +kernel
theorem dX8_epochs_7 : decode cX8_epochs 7 = .ok (.ifCond .eq 13, 3) := by decide +kernel
theorem dX8_epochs_10 : decode cX8_epochs 10 = .ok (.aload_n 0, 1) := by decide +kernel
theorem dX8_epochs_11 : decode cX8_epochs 11 = .ok (.getfield 41, 3) := by decide +kernel
theorem dX8_epochs_14 : decode cX8_epochs 14 = .ok (.getfield 194, 3) := by decide +kernel
theorem dX8_epochs_17 : decode cX8_epochs 17 = .ok (.goto 5, 3) := by decide +kernel
theorem dX8_epochs_20 : decode cX8_epochs 20 = .ok (.bipush (-2), 2) := by decide +kernel
theorem dX8_epochs_22 : decode cX8_epochs 22 = .ok (.ireturn, 1) := by decide +kernel
theorem dX8_by_0 : decode cX8_by 0 = .ok (.iload_n 1, 1) := by decide +kernel
theorem dX8_by_1 : decode cX8_by 1 = .ok (.invokestatic 206, 3) := by decide +kernel
theorem dX8_by_4 : decode cX8_by 4 = .ok (.ifCond .eq 22, 3) := by decide +kernel
theorem dX8_by_7 : decode cX8_by 7 = .ok (.iload_n 2, 1) := by decide +kernel
theorem dX8_by_8 : decode cX8_by 8 = .ok (.ifCond .lt 18, 3) := by decide +kernel
theorem dX8_by_11 : decode cX8_by 11 = .ok (.iload_n 2, 1) := by decide +kernel
theorem dX8_by_12 : decode cX8_by 12 = .ok (.iconst 3, 1) := by decide +kernel
theorem dX8_by_13 : decode cX8_by 13 = .ok (.if_icmp .gt 13, 3) := by decide +kernel
theorem dX8_by_16 : decode cX8_by 16 = .ok (.aload_n 0, 1) := by decide +kernel
theorem dX8_by_17 : decode cX8_by 17 = .ok (.getfield 36, 3) := by decide +kernel
theorem dX8_by_20 : decode cX8_by 20 = .ok (.invokevirtual 170, 3) := by decide +kernel
theorem dX8_by_23 : decode cX8_by 23 = .ok (.ifCond .ne 6, 3) := by decide +kernel
theorem dX8_by_26 : decode cX8_by 26 = .ok (.bipush (-2), 2) := by decide +kernel
theorem dX8_by_28 : decode cX8_by 28 = .ok (.ireturn, 1) := by decide +kernel
theorem dX8_by_29 : decode cX8_by 29 = .ok (.aload_n 0, 1) := by decide +kernel
theorem dX8_by_30 : decode cX8_by 30 = .ok (.getfield 29, 3) := by decide +kernel
theorem dX8_by_33 : decode cX8_by 33 = .ok (.aload_n 0, 1) := by decide +kernel
theorem dX8_by_34 : decode cX8_by 34 = .ok (.getfield 47, 3) := by decide +kernel
theorem dX8_by_37 : decode cX8_by 37 = .ok (.iload_n 1, 1) := by decide +kernel
theorem dX8_by_38 : decode cX8_by 38 = .ok (.iconst (-1), 1) := by decide +kernel
theorem dX8_by_39 : decode cX8_by 39 = .ok (.iconst (-1), 1) := by decide +kernel
theorem dX8_by_40 : decode cX8_by 40 = .ok (.invokevirtual 90, 3) := by decide +kernel
theorem dX8_by_43 : decode cX8_by 43 = .ok (.pop, 1) := by decide +kernel
theorem dX8_by_44 : decode cX8_by 44 = .ok (.iload_n 2, 1) := by decide +kernel
theorem dX8_by_45 : decode cX8_by 45 = .ok (.tableswitch 65 0 2 #[27, 42, 50], 27) := by decide +kernel
theorem dX8_by_72 : decode cX8_by 72 = .ok (.aload_n 0, 1) := by decide +kernel
theorem dX8_by_73 : decode cX8_by 73 = .ok (.getfield 47, 3) := by decide +kernel
theorem dX8_by_76 : decode cX8_by 76 = .ok (.aload_n 0, 1) := by decide +kernel
theorem dX8_by_77 : decode cX8_by 77 = .ok (.getfield 36, 3) := by decide +kernel
theorem dX8_by_80 : decode cX8_by 80 = .ok (.getfield 112, 3) := by decide +kernel
theorem dX8_by_83 : decode cX8_by 83 = .ok (.invokevirtual 179, 3) := by decide +kernel
theorem dX8_by_86 : decode cX8_by 86 = .ok (.ireturn, 1) := by decide +kernel
theorem dX8_by_87 : decode cX8_by 87 = .ok (.aload_n 0, 1) := by decide +kernel
theorem dX8_by_88 : decode cX8_by 88 = .ok (.getfield 47, 3) := by decide +kernel
theorem dX8_by_91 : decode cX8_by 91 = .ok (.getfield 173, 3) := by decide +kernel
theorem dX8_by_94 : decode cX8_by 94 = .ok (.ireturn, 1) := by decide +kernel
theorem dX8_by_95 : decode cX8_by 95 = .ok (.aload_n 0, 1) := by decide +kernel
theorem dX8_by_96 : decode cX8_by 96 = .ok (.getfield 47, 3) := by decide +kernel
theorem dX8_by_99 : decode cX8_by 99 = .ok (.aload_n 0, 1) := by decide +kernel
theorem dX8_by_100 : decode cX8_by 100 = .ok (.getfield 36, 3) := by decide +kernel
theorem dX8_by_103 : decode cX8_by 103 = .ok (.getfield 103, 3) := by decide +kernel
theorem dX8_by_106 : decode cX8_by 106 = .ok (.invokevirtual 185, 3) := by decide +kernel
theorem dX8_by_109 : decode cX8_by 109 = .ok (.ireturn, 1) := by decide +kernel
theorem dX8_by_110 : decode cX8_by 110 = .ok (.aload_n 0, 1) := by decide +kernel
theorem dX8_by_111 : decode cX8_by 111 = .ok (.getfield 47, 3) := by decide +kernel
theorem dX8_by_114 : decode cX8_by 114 = .ok (.aload_n 0, 1) := by decide +kernel
theorem dX8_by_115 : decode cX8_by 115 = .ok (.getfield 36, 3) := by decide +kernel
theorem dX8_by_118 : decode cX8_by 118 = .ok (.getfield 103, 3) := by decide +kernel
theorem dX8_by_121 : decode cX8_by 121 = .ok (.invokevirtual 188, 3) := by decide +kernel
theorem dX8_by_124 : decode cX8_by 124 = .ok (.ireturn, 1) := by decide +kernel
theorem dX8_rule_0 : decode cX8_rule 0 = .ok (.aload_n 0, 1) := by decide +kernel
theorem dX8_rule_1 : decode cX8_rule 1 = .ok (.getfield 36, 3) := by decide +kernel
theorem dX8_rule_4 : decode cX8_rule 4 = .ok (.invokevirtual 170, 3) := by decide +kernel
theorem dX8_rule_7 : decode cX8_rule 7 = .ok (.ifCond .eq 10, 3) := by decide +kernel
theorem dX8_rule_10 : decode cX8_rule 10 = .ok (.iload_n 1, 1) := by decide +kernel
theorem dX8_rule_11 : decode cX8_rule 11 = .ok (.invokestatic 206, 3) := by decide +kernel
theorem dX8_rule_14 : decode cX8_rule 14 = .ok (.ifCond .ne 6, 3) := by decide +kernel
theorem dX8_rule_17 : decode cX8_rule 17 = .ok (.bipush (-2), 2) := by decide +kernel
theorem dX8_rule_19 : decode cX8_rule 19 = .ok (.ireturn, 1) := by decide +kernel
theorem dX8_rule_20 : decode cX8_rule 20 = .ok (.aload_n 0, 1) := by decide +kernel
theorem dX8_rule_21 : decode cX8_rule 21 = .ok (.getfield 36, 3) := by decide +kernel
theorem dX8_rule_24 : decode cX8_rule 24 = .ok (.getfield 87, 3) := by decide +kernel
theorem dX8_rule_27 : decode cX8_rule 27 = .ok (.iload_n 1, 1) := by decide +kernel
theorem dX8_rule_28 : decode cX8_rule 28 = .ok (.if_icmp .eq 15, 3) := by decide +kernel
theorem dX8_rule_31 : decode cX8_rule 31 = .ok (.aload_n 0, 1) := by decide +kernel
theorem dX8_rule_32 : decode cX8_rule 32 = .ok (.getfield 53, 3) := by decide +kernel
theorem dX8_rule_35 : decode cX8_rule 35 = .ok (.getfield 84, 3) := by decide +kernel
theorem dX8_rule_38 : decode cX8_rule 38 = .ok (.bipush 20, 2) := by decide +kernel
theorem dX8_rule_40 : decode cX8_rule 40 = .ok (.if_icmp .lt 6, 3) := by decide +kernel
theorem dX8_rule_43 : decode cX8_rule 43 = .ok (.bipush (-5), 2) := by decide +kernel
theorem dX8_rule_45 : decode cX8_rule 45 = .ok (.ireturn, 1) := by decide +kernel
theorem dX8_rule_46 : decode cX8_rule 46 = .ok (.aload_n 0, 1) := by decide +kernel
theorem dX8_rule_47 : decode cX8_rule 47 = .ok (.getfield 53, 3) := by decide +kernel
theorem dX8_rule_50 : decode cX8_rule 50 = .ok (.iconst 2, 1) := by decide +kernel
theorem dX8_rule_51 : decode cX8_rule 51 = .ok (.aload_n 0, 1) := by decide +kernel
theorem dX8_rule_52 : decode cX8_rule 52 = .ok (.getfield 36, 3) := by decide +kernel
theorem dX8_rule_55 : decode cX8_rule 55 = .ok (.getfield 87, 3) := by decide +kernel
theorem dX8_rule_58 : decode cX8_rule 58 = .ok (.invokevirtual 257, 3) := by decide +kernel
theorem dX8_rule_61 : decode cX8_rule 61 = .ok (.aload_n 0, 1) := by decide +kernel
theorem dX8_rule_62 : decode cX8_rule 62 = .ok (.getfield 36, 3) := by decide +kernel
theorem dX8_rule_65 : decode cX8_rule 65 = .ok (.iload_n 1, 1) := by decide +kernel
theorem dX8_rule_66 : decode cX8_rule 66 = .ok (.putfield 87, 3) := by decide +kernel
theorem dX8_rule_69 : decode cX8_rule 69 = .ok (.aload_n 0, 1) := by decide +kernel
theorem dX8_rule_70 : decode cX8_rule 70 = .ok (.getfield 29, 3) := by decide +kernel
theorem dX8_rule_73 : decode cX8_rule 73 = .ok (.aload_n 0, 1) := by decide +kernel
theorem dX8_rule_74 : decode cX8_rule 74 = .ok (.getfield 41, 3) := by decide +kernel
theorem dX8_rule_77 : decode cX8_rule 77 = .ok (.aload_n 0, 1) := by decide +kernel
theorem dX8_rule_78 : decode cX8_rule 78 = .ok (.getfield 36, 3) := by decide +kernel
theorem dX8_rule_81 : decode cX8_rule 81 = .ok (.getfield 87, 3) := by decide +kernel
theorem dX8_rule_84 : decode cX8_rule 84 = .ok (.iconst (-1), 1) := by decide +kernel
theorem dX8_rule_85 : decode cX8_rule 85 = .ok (.iconst (-1), 1) := by decide +kernel
theorem dX8_rule_86 : decode cX8_rule 86 = .ok (.invokevirtual 90, 3) := by decide +kernel
theorem dX8_rule_89 : decode cX8_rule 89 = .ok (.ireturn, 1) := by decide +kernel
theorem dX8_undo_0 : decode cX8_undo 0 = .ok (.aload_n 0, 1) := by decide +kernel
theorem dX8_undo_1 : decode cX8_undo 1 = .ok (.getfield 36, 3) := by decide +kernel
theorem dX8_undo_4 : decode cX8_undo 4 = .ok (.invokevirtual 170, 3) := by decide +kernel
theorem dX8_undo_7 : decode cX8_undo 7 = .ok (.ifCond .ne 6, 3) := by decide +kernel
theorem dX8_undo_10 : decode cX8_undo 10 = .ok (.bipush (-2), 2) := by decide +kernel
theorem dX8_undo_12 : decode cX8_undo 12 = .ok (.ireturn, 1) := by decide +kernel
theorem dX8_undo_13 : decode cX8_undo 13 = .ok (.aload_n 0, 1) := by decide +kernel
theorem dX8_undo_14 : decode cX8_undo 14 = .ok (.getfield 53, 3) := by decide +kernel
theorem dX8_undo_17 : decode cX8_undo 17 = .ok (.getfield 84, 3) := by decide +kernel
theorem dX8_undo_20 : decode cX8_undo 20 = .ok (.ifCond .ne 6, 3) := by decide +kernel
theorem dX8_undo_23 : decode cX8_undo 23 = .ok (.bipush (-5), 2) := by decide +kernel
theorem dX8_undo_25 : decode cX8_undo 25 = .ok (.ireturn, 1) := by decide +kernel
theorem dX8_undo_26 : decode cX8_undo 26 = .ok (.aload_n 0, 1) := by decide +kernel
theorem dX8_undo_27 : decode cX8_undo 27 = .ok (.getfield 53, 3) := by decide +kernel
theorem dX8_undo_30 : decode cX8_undo 30 = .ok (.aload_n 0, 1) := by decide +kernel
theorem dX8_undo_31 : decode cX8_undo 31 = .ok (.getfield 36, 3) := by decide +kernel
theorem dX8_undo_34 : decode cX8_undo 34 = .ok (.invokevirtual 267, 3) := by decide +kernel
theorem dX8_undo_37 : decode cX8_undo 37 = .ok (.aload_n 0, 1) := by decide +kernel
theorem dX8_undo_38 : decode cX8_undo 38 = .ok (.getfield 29, 3) := by decide +kernel
theorem dX8_undo_41 : decode cX8_undo 41 = .ok (.aload_n 0, 1) := by decide +kernel
theorem dX8_undo_42 : decode cX8_undo 42 = .ok (.getfield 41, 3) := by decide +kernel
theorem dX8_undo_45 : decode cX8_undo 45 = .ok (.aload_n 0, 1) := by decide +kernel
theorem dX8_undo_46 : decode cX8_undo 46 = .ok (.getfield 36, 3) := by decide +kernel
theorem dX8_undo_49 : decode cX8_undo 49 = .ok (.getfield 87, 3) := by decide +kernel
theorem dX8_undo_52 : decode cX8_undo 52 = .ok (.iconst (-1), 1) := by decide +kernel
theorem dX8_undo_53 : decode cX8_undo 53 = .ok (.iconst (-1), 1) := by decide +kernel
theorem dX8_undo_54 : decode cX8_undo 54 = .ok (.invokevirtual 90, 3) := by decide +kernel
theorem dX8_undo_57 : decode cX8_undo 57 = .ok (.pop, 1) := by decide +kernel
theorem dX8_undo_58 : decode cX8_undo 58 = .ok (.aload_n 0, 1) := by decide +kernel
theorem dX8_undo_59 : decode cX8_undo 59 = .ok (.getfield 53, 3) := by decide +kernel
theorem dX8_undo_62 : decode cX8_undo 62 = .ok (.getfield 84, 3) := by decide +kernel
theorem dX8_undo_65 : decode cX8_undo 65 = .ok (.ireturn, 1) := by decide +kernel
theorem dX8_isLaw_0 : decode cX8_isLaw 0 = .ok (.iload_n 0, 1) := by decide +kernel
theorem dX8_isLaw_1 : decode cX8_isLaw 1 = .ok (.ifCond .lt 12, 3) := by decide +kernel
theorem dX8_isLaw_4 : decode cX8_isLaw 4 = .ok (.iload_n 0, 1) := by decide +kernel
theorem dX8_isLaw_5 : decode cX8_isLaw 5 = .ok (.iconst 3, 1) := by decide +kernel
theorem dX8_isLaw_6 : decode cX8_isLaw 6 = .ok (.if_icmp .gt 7, 3) := by decide +kernel
theorem dX8_isLaw_9 : decode cX8_isLaw 9 = .ok (.iconst 1, 1) := by decide +kernel
theorem dX8_isLaw_10 : decode cX8_isLaw 10 = .ok (.goto 4, 3) := by decide +kernel
theorem dX8_isLaw_13 : decode cX8_isLaw 13 = .ok (.iconst 0, 1) := by decide +kernel
theorem dX8_isLaw_14 : decode cX8_isLaw 14 = .ok (.ireturn, 1) := by decide +kernel
theorem dX8_at_0 : decode cX8_at 0 = .ok (.iload_n 1, 1) := by decide +kernel
theorem dX8_at_1 : decode cX8_at 1 = .ok (.ifCond .lt 15, 3) := by decide +kernel
theorem dX8_at_4 : decode cX8_at 4 = .ok (.iload_n 1, 1) := by decide +kernel
theorem dX8_at_5 : decode cX8_at 5 = .ok (.aload_n 0, 1) := by decide +kernel
theorem dX8_at_6 : decode cX8_at 6 = .ok (.arraylength, 1) := by decide +kernel
theorem dX8_at_7 : decode cX8_at 7 = .ok (.if_icmp .ge 9, 3) := by decide +kernel
theorem dX8_at_10 : decode cX8_at 10 = .ok (.aload_n 0, 1) := by decide +kernel
theorem dX8_at_11 : decode cX8_at 11 = .ok (.iload_n 1, 1) := by decide +kernel
theorem dX8_at_12 : decode cX8_at 12 = .ok (.iaload, 1) := by decide +kernel
theorem dX8_at_13 : decode cX8_at 13 = .ok (.goto 4, 3) := by decide +kernel
theorem dX8_at_16 : decode cX8_at 16 = .ok (.iconst 0, 1) := by decide +kernel
theorem dX8_at_17 : decode cX8_at 17 = .ok (.ireturn, 1) := by decide +kernel
theorem dX8_put_0 : decode cX8_put 0 = .ok (.iload_n 1, 1) := by decide +kernel
theorem dX8_put_1 : decode cX8_put 1 = .ok (.ifCond .lt 13, 3) := by decide +kernel
theorem dX8_put_4 : decode cX8_put 4 = .ok (.iload_n 1, 1) := by decide +kernel
theorem dX8_put_5 : decode cX8_put 5 = .ok (.aload_n 0, 1) := by decide +kernel
theorem dX8_put_6 : decode cX8_put 6 = .ok (.arraylength, 1) := by decide +kernel
theorem dX8_put_7 : decode cX8_put 7 = .ok (.if_icmp .ge 7, 3) := by decide +kernel
theorem dX8_put_10 : decode cX8_put 10 = .ok (.aload_n 0, 1) := by decide +kernel
theorem dX8_put_11 : decode cX8_put 11 = .ok (.iload_n 1, 1) := by decide +kernel
theorem dX8_put_12 : decode cX8_put 12 = .ok (.iload_n 2, 1) := by decide +kernel
theorem dX8_put_13 : decode cX8_put 13 = .ok (.iastore, 1) := by decide +kernel
theorem dX8_put_14 : decode cX8_put 14 = .ok (.return_, 1) := by decide +kernel
theorem dX9_init_0 : decode cX9_init 0 = .ok (.aload_n 0, 1) := by decide +kernel
theorem dX9_init_1 : decode cX9_init 1 = .ok (.invokespecial 1, 3) := by decide +kernel
theorem dX9_init_4 : decode cX9_init 4 = .ok (.aload_n 0, 1) := by decide +kernel
theorem dX9_init_5 : decode cX9_init 5 = .ok (.aload_n 1, 1) := by decide +kernel
theorem dX9_init_6 : decode cX9_init 6 = .ok (.iconst 0, 1) := by decide +kernel
theorem dX9_init_7 : decode cX9_init 7 = .ok (.invokestatic 7, 3) := by decide +kernel
theorem dX9_init_10 : decode cX9_init 10 = .ok (.iconst 4, 1) := by decide +kernel
theorem dX9_init_11 : decode cX9_init 11 = .ok (.irem, 1) := by decide +kernel
theorem dX9_init_12 : decode cX9_init 12 = .ok (.putfield 13, 3) := by decide +kernel
theorem dX9_init_15 : decode cX9_init 15 = .ok (.aload_n 0, 1) := by decide +kernel
theorem dX9_init_16 : decode cX9_init 16 = .ok (.bipush 20, 2) := by decide +kernel
theorem dX9_init_18 : decode cX9_init 18 = .ok (.aload_n 1, 1) := by decide +kernel
theorem dX9_init_19 : decode cX9_init 19 = .ok (.iconst 1, 1) := by decide +kernel
theorem dX9_init_20 : decode cX9_init 20 = .ok (.invokestatic 7, 3) := by decide +kernel
theorem dX9_init_23 : decode cX9_init 23 = .ok (.bipush 100, 2) := by decide +kernel
theorem dX9_init_25 : decode cX9_init 25 = .ok (.irem, 1) := by decide +kernel
theorem dX9_init_26 : decode cX9_init 26 = .ok (.iadd, 1) := by decide +kernel
theorem dX9_init_27 : decode cX9_init 27 = .ok (.putfield 19, 3) := by decide +kernel
theorem dX9_init_30 : decode cX9_init 30 = .ok (.aload_n 0, 1) := by decide +kernel
theorem dX9_init_31 : decode cX9_init 31 = .ok (.aload_n 1, 1) := by decide +kernel
theorem dX9_init_32 : decode cX9_init 32 = .ok (.iconst 2, 1) := by decide +kernel
theorem dX9_init_33 : decode cX9_init 33 = .ok (.invokestatic 7, 3) := by decide +kernel
theorem dX9_init_36 : decode cX9_init 36 = .ok (.bipush 9, 2) := by decide +kernel
theorem dX9_init_38 : decode cX9_init 38 = .ok (.irem, 1) := by decide +kernel
theorem dX9_init_39 : decode cX9_init 39 = .ok (.putfield 22, 3) := by decide +kernel
theorem dX9_init_42 : decode cX9_init 42 = .ok (.aload_n 0, 1) := by decide +kernel
theorem dX9_init_43 : decode cX9_init 43 = .ok (.iload_n 2, 1) := by decide +kernel
theorem dX9_init_44 : decode cX9_init 44 = .ok (.ifCond .eq 13, 3) := by decide +kernel
theorem dX9_init_47 : decode cX9_init 47 = .ok (.aload_n 1, 1) := by decide +kernel
theorem dX9_init_48 : decode cX9_init 48 = .ok (.iconst 3, 1) := by decide +kernel
theorem dX9_init_49 : decode cX9_init 49 = .ok (.invokestatic 7, 3) := by decide +kernel
theorem dX9_init_52 : decode cX9_init 52 = .ok (.iconst 5, 1) := by decide +kernel
theorem dX9_init_53 : decode cX9_init 53 = .ok (.irem, 1) := by decide +kernel
theorem dX9_init_54 : decode cX9_init 54 = .ok (.goto 4, 3) := by decide +kernel
theorem dX9_init_57 : decode cX9_init 57 = .ok (.iconst 0, 1) := by decide +kernel
theorem dX9_init_58 : decode cX9_init 58 = .ok (.putfield 25, 3) := by decide +kernel
theorem dX9_init_61 : decode cX9_init 61 = .ok (.aload_n 0, 1) := by decide +kernel
theorem dX9_init_62 : decode cX9_init 62 = .ok (.aload_n 0, 1) := by decide +kernel
theorem dX9_init_63 : decode cX9_init 63 = .ok (.getfield 22, 3) := by decide +kernel
theorem dX9_init_66 : decode cX9_init 66 = .ok (.newarray .int, 2) := by decide +kernel
theorem dX9_init_68 : decode cX9_init 68 = .ok (.putfield 28, 3) := by decide +kernel
theorem dX9_init_71 : decode cX9_init 71 = .ok (.aload_n 0, 1) := by decide +kernel
theorem dX9_init_72 : decode cX9_init 72 = .ok (.aload_n 0, 1) := by decide +kernel
theorem dX9_init_73 : decode cX9_init 73 = .ok (.getfield 22, 3) := by decide +kernel
theorem dX9_init_76 : decode cX9_init 76 = .ok (.anewarray 32, 3) := by decide +kernel
theorem dX9_init_79 : decode cX9_init 79 = .ok (.putfield 34, 3) := by decide +kernel
theorem dX9_init_82 : decode cX9_init 82 = .ok (.aload_n 0, 1) := by decide +kernel
theorem dX9_init_83 : decode cX9_init 83 = .ok (.aload_n 0, 1) := by decide +kernel
theorem dX9_init_84 : decode cX9_init 84 = .ok (.getfield 25, 3) := by decide +kernel
theorem dX9_init_87 : decode cX9_init 87 = .ok (.newarray .int, 2) := by decide +kernel
theorem dX9_init_89 : decode cX9_init 89 = .ok (.putfield 38, 3) := by decide +kernel
theorem dX9_init_92 : decode cX9_init 92 = .ok (.aload_n 0, 1) := by decide +kernel
theorem dX9_init_93 : decode cX9_init 93 = .ok (.aload_n 0, 1) := by decide +kernel
theorem dX9_init_94 : decode cX9_init 94 = .ok (.getfield 25, 3) := by decide +kernel
theorem dX9_init_97 : decode cX9_init 97 = .ok (.newarray .int, 2) := by decide +kernel
theorem dX9_init_99 : decode cX9_init 99 = .ok (.putfield 41, 3) := by decide +kernel
theorem dX9_init_102 : decode cX9_init 102 = .ok (.aload_n 0, 1) := by decide +kernel
theorem dX9_init_103 : decode cX9_init 103 = .ok (.new 44, 3) := by decide +kernel
theorem dX9_init_106 : decode cX9_init 106 = .ok (.dup, 1) := by decide +kernel
theorem dX9_init_107 : decode cX9_init 107 = .ok (.invokespecial 46, 3) := by decide +kernel
theorem dX9_init_110 : decode cX9_init 110 = .ok (.ldc 47, 2) := by decide +kernel
theorem dX9_init_112 : decode cX9_init 112 = .ok (.invokevirtual 49, 3) := by decide +kernel
theorem dX9_init_115 : decode cX9_init 115 = .ok (.aload_n 0, 1) := by decide +kernel
theorem dX9_init_116 : decode cX9_init 116 = .ok (.getfield 13, 3) := by decide +kernel
theorem dX9_init_119 : decode cX9_init 119 = .ok (.invokevirtual 53, 3) := by decide +kernel
theorem dX9_init_122 : decode cX9_init 122 = .ok (.ldc 56, 2) := by decide +kernel
theorem dX9_init_124 : decode cX9_init 124 = .ok (.invokevirtual 49, 3) := by decide +kernel
theorem dX9_init_127 : decode cX9_init 127 = .ok (.aload_n 0, 1) := by decide +kernel
theorem dX9_init_128 : decode cX9_init 128 = .ok (.getfield 19, 3) := by decide +kernel
theorem dX9_init_131 : decode cX9_init 131 = .ok (.invokevirtual 53, 3) := by decide +kernel
theorem dX9_init_134 : decode cX9_init 134 = .ok (.ldc 58, 2) := by decide +kernel
theorem dX9_init_136 : decode cX9_init 136 = .ok (.invokevirtual 49, 3) := by decide +kernel
theorem dX9_init_139 : decode cX9_init 139 = .ok (.aload_n 1, 1) := by decide +kernel
theorem dX9_init_140 : decode cX9_init 140 = .ok (.iconst 4, 1) := by decide +kernel
theorem dX9_init_141 : decode cX9_init 141 = .ok (.invokestatic 7, 3) := by decide +kernel
theorem dX9_init_144 : decode cX9_init 144 = .ok (.bipush 10, 2) := by decide +kernel
theorem dX9_init_146 : decode cX9_init 146 = .ok (.irem, 1) := by decide +kernel
theorem dX9_init_147 : decode cX9_init 147 = .ok (.invokevirtual 53, 3) := by decide +kernel
theorem dX9_init_150 : decode cX9_init 150 = .ok (.ldc 60, 2) := by decide +kernel
theorem dX9_init_152 : decode cX9_init 152 = .ok (.invokevirtual 49, 3) := by decide +kernel
theorem dX9_init_155 : decode cX9_init 155 = .ok (.iconst 1, 1) := by decide +kernel
theorem dX9_init_156 : decode cX9_init 156 = .ok (.aload_n 1, 1) := by decide +kernel
theorem dX9_init_157 : decode cX9_init 157 = .ok (.iconst 5, 1) := by decide +kernel
theorem dX9_init_158 : decode cX9_init 158 = .ok (.invokestatic 7, 3) := by decide +kernel
theorem dX9_init_161 : decode cX9_init 161 = .ok (.bipush 6, 2) := by decide +kernel
theorem dX9_init_163 : decode cX9_init 163 = .ok (.irem, 1) := by decide +kernel
theorem dX9_init_164 : decode cX9_init 164 = .ok (.iadd, 1) := by decide +kernel
theorem dX9_init_165 : decode cX9_init 165 = .ok (.invokevirtual 53, 3) := by decide +kernel
theorem dX9_init_168 : decode cX9_init 168 = .ok (.ldc 62, 2) := by decide +kernel
theorem dX9_init_170 : decode cX9_init 170 = .ok (.invokevirtual 49, 3) := by decide +kernel
theorem dX9_init_173 : decode cX9_init 173 = .ok (.invokevirtual 64, 3) := by decide +kernel
theorem dX9_init_176 : decode cX9_init 176 = .ok (.putfield 68, 3) := by decide +kernel
theorem dX9_init_179 : decode cX9_init 179 = .ok (.iconst 0, 1) := by decide +kernel
theorem dX9_init_180 : decode cX9_init 180 = .ok (.istore_n 3, 1) := by decide +kernel
theorem dX9_init_181 : decode cX9_init 181 = .ok (.iload_n 3, 1) := by decide +kernel
theorem dX9_init_182 : decode cX9_init 182 = .ok (.aload_n 0, 1) := by decide +kernel
theorem dX9_init_183 : decode cX9_init 183 = .ok (.getfield 22, 3) := by decide +kernel
theorem dX9_init_186 : decode cX9_init 186 = .ok (.if_icmp .ge 155, 3) := by decide +kernel
theorem dX9_init_189 : decode cX9_init 189 = .ok (.aload_n 1, 1) := by decide +kernel
theorem dX9_init_190 : decode cX9_init 190 = .ok (.bipush 6, 2) := by decide +kernel
theorem dX9_init_192 : decode cX9_init 192 = .ok (.iload_n 3, 1) := by decide +kernel
theorem dX9_init_193 : decode cX9_init 193 = .ok (.iadd, 1) := by decide +kernel
theorem dX9_init_194 : decode cX9_init 194 = .ok (.invokestatic 7, 3) := by decide +kernel
theorem dX9_init_197 : decode cX9_init 197 = .ok (.istore 4, 2) := by decide +kernel
theorem dX9_init_199 : decode cX9_init 199 = .ok (.aload_n 0, 1) := by decide +kernel
theorem dX9_init_200 : decode cX9_init 200 = .ok (.getfield 28, 3) := by decide +kernel
theorem dX9_init_203 : decode cX9_init 203 = .ok (.iload_n 3, 1) := by decide +kernel
theorem dX9_init_204 : decode cX9_init 204 = .ok (.iload 4, 2) := by decide +kernel
theorem dX9_init_206 : decode cX9_init 206 = .ok (.bipush 12, 2) := by decide +kernel
theorem dX9_init_208 : decode cX9_init 208 = .ok (.irem, 1) := by decide +kernel
theorem dX9_init_209 : decode cX9_init 209 = .ok (.iastore, 1) := by decide +kernel
theorem dX9_init_210 : decode cX9_init 210 = .ok (.iconst 1, 1) := by decide +kernel
theorem dX9_init_211 : decode cX9_init 211 = .ok (.iload 4, 2) := by decide +kernel
theorem dX9_init_213 : decode cX9_init 213 = .ok (.bipush 16, 2) := by decide +kernel
theorem dX9_init_215 : decode cX9_init 215 = .ok (.idiv, 1) := by decide +kernel
theorem dX9_init_216 : decode cX9_init 216 = .ok (.bipush 12, 2) := by decide +kernel
theorem dX9_init_218 : decode cX9_init 218 = .ok (.irem, 1) := by decide +kernel
theorem dX9_init_219 : decode cX9_init 219 = .ok (.iadd, 1) := by decide +kernel
theorem dX9_init_220 : decode cX9_init 220 = .ok (.istore 5, 2) := by decide +kernel
theorem dX9_init_222 : decode cX9_init 222 = .ok (.aload_n 0, 1) := by decide +kernel
theorem dX9_init_223 : decode cX9_init 223 = .ok (.getfield 34, 3) := by decide +kernel
theorem dX9_init_226 : decode cX9_init 226 = .ok (.iload_n 3, 1) := by decide +kernel
theorem dX9_init_227 : decode cX9_init 227 = .ok (.ldc 72, 2) := by decide +kernel
theorem dX9_init_229 : decode cX9_init 229 = .ok (.aastore, 1) := by decide +kernel
theorem dX9_init_230 : decode cX9_init 230 = .ok (.iconst 0, 1) := by decide +kernel
theorem dX9_init_231 : decode cX9_init 231 = .ok (.istore 6, 2) := by decide +kernel
theorem dX9_init_233 : decode cX9_init 233 = .ok (.iload 6, 2) := by decide +kernel
theorem dX9_init_235 : decode cX9_init 235 = .ok (.iload 5, 2) := by decide +kernel
theorem dX9_init_237 : decode cX9_init 237 = .ok (.if_icmp .ge 44, 3) := by decide +kernel
theorem dX9_init_240 : decode cX9_init 240 = .ok (.new 44, 3) := by decide +kernel
theorem dX9_init_243 : decode cX9_init 243 = .ok (.dup, 1) := by decide +kernel
theorem dX9_init_244 : decode cX9_init 244 = .ok (.invokespecial 46, 3) := by decide +kernel
theorem dX9_init_247 : decode cX9_init 247 = .ok (.aload_n 0, 1) := by decide +kernel
theorem dX9_init_248 : decode cX9_init 248 = .ok (.getfield 34, 3) := by decide +kernel
theorem dX9_init_251 : decode cX9_init 251 = .ok (.iload_n 3, 1) := by decide +kernel
theorem dX9_init_252 : decode cX9_init 252 = .ok (.dup2_x1, 1) := by decide +kernel
theorem dX9_init_253 : decode cX9_init 253 = .ok (.aaload, 1) := by decide +kernel
theorem dX9_init_254 : decode cX9_init 254 = .ok (.invokevirtual 49, 3) := by decide +kernel
theorem dX9_init_257 : decode cX9_init 257 = .ok (.iload 4, 2) := by decide +kernel
theorem dX9_init_259 : decode cX9_init 259 = .ok (.sipush 256, 3) := by decide +kernel
theorem dX9_init_262 : decode cX9_init 262 = .ok (.idiv, 1) := by decide +kernel
theorem dX9_init_263 : decode cX9_init 263 = .ok (.iload 6, 2) := by decide +kernel
theorem dX9_init_265 : decode cX9_init 265 = .ok (.ishr, 1) := by decide +kernel
theorem dX9_init_266 : decode cX9_init 266 = .ok (.iconst 1, 1) := by decide +kernel
theorem dX9_init_267 : decode cX9_init 267 = .ok (.iand, 1) := by decide +kernel
theorem dX9_init_268 : decode cX9_init 268 = .ok (.invokevirtual 53, 3) := by decide +kernel
theorem dX9_init_271 : decode cX9_init 271 = .ok (.invokevirtual 64, 3) := by decide +kernel
theorem dX9_init_274 : decode cX9_init 274 = .ok (.aastore, 1) := by decide +kernel
theorem dX9_init_275 : decode cX9_init 275 = .ok (.iinc 6 1, 3) := by decide +kernel
theorem dX9_init_278 : decode cX9_init 278 = .ok (.goto (-45), 3) := by decide +kernel
theorem dX9_init_281 : decode cX9_init 281 = .ok (.new 44, 3) := by decide +kernel
theorem dX9_init_284 : decode cX9_init 284 = .ok (.dup, 1) := by decide +kernel
theorem dX9_init_285 : decode cX9_init 285 = .ok (.invokespecial 46, 3) := by decide +kernel
theorem dX9_init_288 : decode cX9_init 288 = .ok (.aload_n 0, 1) := by decide +kernel
theorem dX9_init_289 : decode cX9_init 289 = .ok (.dup_x1, 1) := by decide +kernel
theorem dX9_init_290 : decode cX9_init 290 = .ok (.getfield 68, 3) := by decide +kernel
theorem dX9_init_293 : decode cX9_init 293 = .ok (.invokevirtual 49, 3) := by decide +kernel
theorem dX9_init_296 : decode cX9_init 296 = .ok (.ldc 74, 2) := by decide +kernel
theorem dX9_init_298 : decode cX9_init 298 = .ok (.invokevirtual 49, 3) := by decide +kernel
theorem dX9_init_301 : decode cX9_init 301 = .ok (.aload_n 0, 1) := by decide +kernel
theorem dX9_init_302 : decode cX9_init 302 = .ok (.getfield 28, 3) := by decide +kernel
theorem dX9_init_305 : decode cX9_init 305 = .ok (.iload_n 3, 1) := by decide +kernel
theorem dX9_init_306 : decode cX9_init 306 = .ok (.iaload, 1) := by decide +kernel
theorem dX9_init_307 : decode cX9_init 307 = .ok (.invokevirtual 53, 3) := by decide +kernel
theorem dX9_init_310 : decode cX9_init 310 = .ok (.ldc 76, 2) := by decide +kernel
theorem dX9_init_312 : decode cX9_init 312 = .ok (.invokevirtual 49, 3) := by decide +kernel
theorem dX9_init_315 : decode cX9_init 315 = .ok (.aload_n 0, 1) := by decide +kernel
theorem dX9_init_316 : decode cX9_init 316 = .ok (.getfield 34, 3) := by decide +kernel
theorem dX9_init_319 : decode cX9_init 319 = .ok (.iload_n 3, 1) := by decide +kernel
theorem dX9_init_320 : decode cX9_init 320 = .ok (.aaload, 1) := by decide +kernel
theorem dX9_init_321 : decode cX9_init 321 = .ok (.invokevirtual 49, 3) := by decide +kernel
theorem dX9_init_324 : decode cX9_init 324 = .ok (.ldc 62, 2) := by decide +kernel
theorem dX9_init_326 : decode cX9_init 326 = .ok (.invokevirtual 49, 3) := by decide +kernel
theorem dX9_init_329 : decode cX9_init 329 = .ok (.invokevirtual 64, 3) := by decide +kernel
theorem dX9_init_332 : decode cX9_init 332 = .ok (.putfield 68, 3) := by decide +kernel
theorem dX9_init_335 : decode cX9_init 335 = .ok (.iinc 3 1, 3) := by decide +kernel
theorem dX9_init_338 : decode cX9_init 338 = .ok (.goto (-157), 3) := by decide +kernel
theorem dX9_init_341 : decode cX9_init 341 = .ok (.iconst 0, 1) := by decide +kernel
theorem dX9_init_342 : decode cX9_init 342 = .ok (.istore_n 3, 1) := by decide +kernel
theorem dX9_init_343 : decode cX9_init 343 = .ok (.iload_n 3, 1) := by decide +kernel
theorem dX9_init_344 : decode cX9_init 344 = .ok (.aload_n 0, 1) := by decide +kernel
theorem dX9_init_345 : decode cX9_init 345 = .ok (.getfield 25, 3) := by decide +kernel
theorem dX9_init_348 : decode cX9_init 348 = .ok (.if_icmp .ge 124, 3) := by decide +kernel
theorem dX9_init_351 : decode cX9_init 351 = .ok (.aload_n 1, 1) := by decide +kernel
theorem dX9_init_352 : decode cX9_init 352 = .ok (.bipush 15, 2) := by decide +kernel
theorem dX9_init_354 : decode cX9_init 354 = .ok (.iload_n 3, 1) := by decide +kernel
theorem dX9_init_355 : decode cX9_init 355 = .ok (.iadd, 1) := by decide +kernel
theorem dX9_init_356 : decode cX9_init 356 = .ok (.invokestatic 7, 3) := by decide +kernel
theorem dX9_init_359 : decode cX9_init 359 = .ok (.istore 4, 2) := by decide +kernel
theorem dX9_init_361 : decode cX9_init 361 = .ok (.aload_n 0, 1) := by decide +kernel
theorem dX9_init_362 : decode cX9_init 362 = .ok (.getfield 38, 3) := by decide +kernel
theorem dX9_init_365 : decode cX9_init 365 = .ok (.iload_n 3, 1) := by decide +kernel
theorem dX9_init_366 : decode cX9_init 366 = .ok (.iconst 4, 1) := by decide +kernel
theorem dX9_init_367 : decode cX9_init 367 = .ok (.iload_n 3, 1) := by decide +kernel
theorem dX9_init_368 : decode cX9_init 368 = .ok (.imul, 1) := by decide +kernel
theorem dX9_init_369 : decode cX9_init 369 = .ok (.iload 4, 2) := by decide +kernel
theorem dX9_init_371 : decode cX9_init 371 = .ok (.iconst 4, 1) := by decide +kernel
theorem dX9_init_372 : decode cX9_init 372 = .ok (.irem, 1) := by decide +kernel
theorem dX9_init_373 : decode cX9_init 373 = .ok (.iadd, 1) := by decide +kernel
theorem dX9_init_374 : decode cX9_init 374 = .ok (.iastore, 1) := by decide +kernel
theorem dX9_init_375 : decode cX9_init 375 = .ok (.aload_n 0, 1) := by decide +kernel
theorem dX9_init_376 : decode cX9_init 376 = .ok (.getfield 41, 3) := by decide +kernel
theorem dX9_init_379 : decode cX9_init 379 = .ok (.iload_n 3, 1) := by decide +kernel
theorem dX9_init_380 : decode cX9_init 380 = .ok (.iload 4, 2) := by decide +kernel
theorem dX9_init_382 : decode cX9_init 382 = .ok (.iconst 4, 1) := by decide +kernel
theorem dX9_init_383 : decode cX9_init 383 = .ok (.idiv, 1) := by decide +kernel
theorem dX9_init_384 : decode cX9_init 384 = .ok (.iconst 3, 1) := by decide +kernel
theorem dX9_init_385 : decode cX9_init 385 = .ok (.irem, 1) := by decide +kernel
theorem dX9_init_386 : decode cX9_init 386 = .ok (.iastore, 1) := by decide +kernel
theorem dX9_init_387 : decode cX9_init 387 = .ok (.new 44, 3) := by decide +kernel
theorem dX9_init_390 : decode cX9_init 390 = .ok (.dup, 1) := by decide +kernel
theorem dX9_init_391 : decode cX9_init 391 = .ok (.invokespecial 46, 3) := by decide +kernel
theorem dX9_init_394 : decode cX9_init 394 = .ok (.aload_n 0, 1) := by decide +kernel
theorem dX9_init_395 : decode cX9_init 395 = .ok (.dup_x1, 1) := by decide +kernel
theorem dX9_init_396 : decode cX9_init 396 = .ok (.getfield 68, 3) := by decide +kernel
theorem dX9_init_399 : decode cX9_init 399 = .ok (.invokevirtual 49, 3) := by decide +kernel
theorem dX9_init_402 : decode cX9_init 402 = .ok (.ldc 78, 2) := by decide +kernel
theorem dX9_init_404 : decode cX9_init 404 = .ok (.invokevirtual 49, 3) := by decide +kernel
theorem dX9_init_407 : decode cX9_init 407 = .ok (.aload_n 0, 1) := by decide +kernel
theorem dX9_init_408 : decode cX9_init 408 = .ok (.getfield 38, 3) := by decide +kernel
theorem dX9_init_411 : decode cX9_init 411 = .ok (.iload_n 3, 1) := by decide +kernel
theorem dX9_init_412 : decode cX9_init 412 = .ok (.iaload, 1) := by decide +kernel
theorem dX9_init_413 : decode cX9_init 413 = .ok (.invokevirtual 53, 3) := by decide +kernel
theorem dX9_init_416 : decode cX9_init 416 = .ok (.ldc 80, 2) := by decide +kernel
theorem dX9_init_418 : decode cX9_init 418 = .ok (.invokevirtual 49, 3) := by decide +kernel
theorem dX9_init_421 : decode cX9_init 421 = .ok (.aload_n 0, 1) := by decide +kernel
theorem dX9_init_422 : decode cX9_init 422 = .ok (.getfield 41, 3) := by decide +kernel
theorem dX9_init_425 : decode cX9_init 425 = .ok (.iload_n 3, 1) := by decide +kernel
theorem dX9_init_426 : decode cX9_init 426 = .ok (.iaload, 1) := by decide +kernel
theorem dX9_init_427 : decode cX9_init 427 = .ok (.ifCond .ne 8, 3) := by decide +kernel
theorem dX9_init_430 : decode cX9_init 430 = .ok (.ldc 82, 2) := by decide +kernel
theorem dX9_init_432 : decode cX9_init 432 = .ok (.goto 20, 3) := by decide +kernel
theorem dX9_init_435 : decode cX9_init 435 = .ok (.aload_n 0, 1) := by decide +kernel
theorem dX9_init_436 : decode cX9_init 436 = .ok (.getfield 41, 3) := by decide +kernel
theorem dX9_init_439 : decode cX9_init 439 = .ok (.iload_n 3, 1) := by decide +kernel
theorem dX9_init_440 : decode cX9_init 440 = .ok (.iaload, 1) := by decide +kernel
theorem dX9_init_441 : decode cX9_init 441 = .ok (.iconst 1, 1) := by decide +kernel
theorem dX9_init_442 : decode cX9_init 442 = .ok (.if_icmp .ne 8, 3) := by decide +kernel
theorem dX9_init_445 : decode cX9_init 445 = .ok (.ldc 84, 2) := by decide +kernel
theorem dX9_init_447 : decode cX9_init 447 = .ok (.goto 5, 3) := by decide +kernel
theorem dX9_init_450 : decode cX9_init 450 = .ok (.ldc 86, 2) := by decide +kernel
theorem dX9_init_452 : decode cX9_init 452 = .ok (.invokevirtual 49, 3) := by decide +kernel
theorem dX9_init_455 : decode cX9_init 455 = .ok (.ldc 62, 2) := by decide +kernel
theorem dX9_init_457 : decode cX9_init 457 = .ok (.invokevirtual 49, 3) := by decide +kernel
theorem dX9_init_460 : decode cX9_init 460 = .ok (.invokevirtual 64, 3) := by decide +kernel
theorem dX9_init_463 : decode cX9_init 463 = .ok (.putfield 68, 3) := by decide +kernel
theorem dX9_init_466 : decode cX9_init 466 = .ok (.iinc 3 1, 3) := by decide +kernel
theorem dX9_init_469 : decode cX9_init 469 = .ok (.goto (-126), 3) := by decide +kernel
theorem dX9_init_472 : decode cX9_init 472 = .ok (.return_, 1) := by decide +kernel
theorem dX9_heard_0 : decode cX9_heard 0 = .ok (.iconst 0, 1) := by decide +kernel
theorem dX9_heard_1 : decode cX9_heard 1 = .ok (.istore_n 3, 1) := by decide +kernel
theorem dX9_heard_2 : decode cX9_heard 2 = .ok (.iload_n 3, 1) := by decide +kernel
theorem dX9_heard_3 : decode cX9_heard 3 = .ok (.aload_n 0, 1) := by decide +kernel
theorem dX9_heard_4 : decode cX9_heard 4 = .ok (.getfield 25, 3) := by decide +kernel
theorem dX9_heard_7 : decode cX9_heard 7 = .ok (.if_icmp .ge 26, 3) := by decide +kernel
theorem dX9_heard_10 : decode cX9_heard 10 = .ok (.aload_n 0, 1) := by decide +kernel
theorem dX9_heard_11 : decode cX9_heard 11 = .ok (.getfield 38, 3) := by decide +kernel
theorem dX9_heard_14 : decode cX9_heard 14 = .ok (.iload_n 3, 1) := by decide +kernel
theorem dX9_heard_15 : decode cX9_heard 15 = .ok (.iaload, 1) := by decide +kernel
theorem dX9_heard_16 : decode cX9_heard 16 = .ok (.iload_n 1, 1) := by decide +kernel
theorem dX9_heard_17 : decode cX9_heard 17 = .ok (.if_icmp .ne 10, 3) := by decide +kernel
theorem dX9_heard_20 : decode cX9_heard 20 = .ok (.aload_n 0, 1) := by decide +kernel
theorem dX9_heard_21 : decode cX9_heard 21 = .ok (.getfield 41, 3) := by decide +kernel
theorem dX9_heard_24 : decode cX9_heard 24 = .ok (.iload_n 3, 1) := by decide +kernel
theorem dX9_heard_25 : decode cX9_heard 25 = .ok (.iaload, 1) := by decide +kernel
theorem dX9_heard_26 : decode cX9_heard 26 = .ok (.ireturn, 1) := by decide +kernel
theorem dX9_heard_27 : decode cX9_heard 27 = .ok (.iinc 3 1, 3) := by decide +kernel
theorem dX9_heard_30 : decode cX9_heard 30 = .ok (.goto (-28), 3) := by decide +kernel
theorem dX9_heard_33 : decode cX9_heard 33 = .ok (.iconst 2, 1) := by decide +kernel
theorem dX9_heard_34 : decode cX9_heard 34 = .ok (.iload_n 2, 1) := by decide +kernel
theorem dX9_heard_35 : decode cX9_heard 35 = .ok (.invokestatic 88, 3) := by decide +kernel
theorem dX9_heard_38 : decode cX9_heard 38 = .ok (.ireturn, 1) := by decide +kernel
theorem dJ5_init_d00df_0 : decode cJ5_init_d00df 0 = .ok (.aload_n 0, 1) := by decide +kernel
theorem dJ5_init_d00df_1 : decode cJ5_init_d00df 1 = .ok (.invokespecial 3, 3) := by decide +kernel
theorem dJ5_init_d00df_4 : decode cJ5_init_d00df 4 = .ok (.getstatic 18, 3) := by decide +kernel
theorem dJ5_init_d00df_7 : decode cJ5_init_d00df 7 = .ok (.ifCond .eq 18, 3) := by decide +kernel
theorem dJ5_init_d00df_10 : decode cJ5_init_d00df 10 = .ok (.aload_n 0, 1) := by decide +kernel
theorem dJ5_init_d00df_11 : decode cJ5_init_d00df 11 = .ok (.iload_n 1, 1) := by decide +kernel
theorem dJ5_init_d00df_12 : decode cJ5_init_d00df 12 = .ok (.newarray .byte, 2) := by decide +kernel
theorem dJ5_init_d00df_14 : decode cJ5_init_d00df 14 = .ok (.putfield 15, 3) := by decide +kernel
theorem dJ5_init_d00df_17 : decode cJ5_init_d00df 17 = .ok (.aload_n 0, 1) := by decide +kernel
theorem dJ5_init_d00df_18 : decode cJ5_init_d00df 18 = .ok (.iconst 0, 1) := by decide +kernel
theorem dJ5_init_d00df_19 : decode cJ5_init_d00df 19 = .ok (.putfield 22, 3) := by decide +kernel
theorem dJ5_init_d00df_22 : decode cJ5_init_d00df 22 = .ok (.goto 16, 3) := by decide +kernel
theorem dJ5_init_d00df_25 : decode cJ5_init_d00df 25 = .ok (.aload_n 0, 1) := by decide +kernel
theorem dJ5_init_d00df_26 : decode cJ5_init_d00df 26 = .ok (.iload_n 1, 1) := by decide +kernel
theorem dJ5_init_d00df_27 : decode cJ5_init_d00df 27 = .ok (.invokestatic 26, 3) := by decide +kernel
theorem dJ5_init_d00df_30 : decode cJ5_init_d00df 30 = .ok (.putfield 15, 3) := by decide +kernel
theorem dJ5_init_d00df_33 : decode cJ5_init_d00df 33 = .ok (.aload_n 0, 1) := by decide +kernel
theorem dJ5_init_d00df_34 : decode cJ5_init_d00df 34 = .ok (.iconst 1, 1) := by decide +kernel
theorem dJ5_init_d00df_35 : decode cJ5_init_d00df 35 = .ok (.putfield 22, 3) := by decide +kernel
theorem dJ5_init_d00df_38 : decode cJ5_init_d00df 38 = .ok (.return_, 1) := by decide +kernel
theorem dJ5_length_8abf5_0 : decode cJ5_length_8abf5 0 = .ok (.aload_n 0, 1) := by decide +kernel
theorem dJ5_length_8abf5_1 : decode cJ5_length_8abf5 1 = .ok (.getfield 79, 3) := by decide +kernel
theorem dJ5_length_8abf5_4 : decode cJ5_length_8abf5 4 = .ok (.ireturn, 1) := by decide +kernel
theorem dJ5_ensureCapacityInternal_d00df_0 : decode cJ5_ensureCapacityInternal_d00df 0 = .ok (.aload_n 0, 1) := by decide +kernel
theorem dJ5_ensureCapacityInternal_d00df_1 : decode cJ5_ensureCapacityInternal_d00df 1 = .ok (.getfield 15, 3) := by decide +kernel
theorem dJ5_ensureCapacityInternal_d00df_4 : decode cJ5_ensureCapacityInternal_d00df 4 = .ok (.arraylength, 1) := by decide +kernel
theorem dJ5_ensureCapacityInternal_d00df_5 : decode cJ5_ensureCapacityInternal_d00df 5 = .ok (.aload_n 0, 1) := by decide +kernel
theorem dJ5_ensureCapacityInternal_d00df_6 : decode cJ5_ensureCapacityInternal_d00df 6 = .ok (.getfield 22, 3) := by decide +kernel
theorem dJ5_ensureCapacityInternal_d00df_9 : decode cJ5_ensureCapacityInternal_d00df 9 = .ok (.ishr, 1) := by decide +kernel
theorem dJ5_ensureCapacityInternal_d00df_10 : decode cJ5_ensureCapacityInternal_d00df 10 = .ok (.istore_n 2, 1) := by decide +kernel
theorem dJ5_ensureCapacityInternal_d00df_11 : decode cJ5_ensureCapacityInternal_d00df 11 = .ok (.iload_n 1, 1) := by decide +kernel
theorem dJ5_ensureCapacityInternal_d00df_12 : decode cJ5_ensureCapacityInternal_d00df 12 = .ok (.iload_n 2, 1) := by decide +kernel
theorem dJ5_ensureCapacityInternal_d00df_13 : decode cJ5_ensureCapacityInternal_d00df 13 = .ok (.isub, 1) := by decide +kernel
theorem dJ5_ensureCapacityInternal_d00df_14 : decode cJ5_ensureCapacityInternal_d00df 14 = .ok (.ifCond .le 24, 3) := by decide +kernel
theorem dJ5_ensureCapacityInternal_d00df_17 : decode cJ5_ensureCapacityInternal_d00df 17 = .ok (.aload_n 0, 1) := by decide +kernel
theorem dJ5_ensureCapacityInternal_d00df_18 : decode cJ5_ensureCapacityInternal_d00df 18 = .ok (.aload_n 0, 1) := by decide +kernel
theorem dJ5_ensureCapacityInternal_d00df_19 : decode cJ5_ensureCapacityInternal_d00df 19 = .ok (.getfield 15, 3) := by decide +kernel
theorem dJ5_ensureCapacityInternal_d00df_22 : decode cJ5_ensureCapacityInternal_d00df 22 = .ok (.aload_n 0, 1) := by decide +kernel
theorem dJ5_ensureCapacityInternal_d00df_23 : decode cJ5_ensureCapacityInternal_d00df 23 = .ok (.iload_n 1, 1) := by decide +kernel
theorem dJ5_ensureCapacityInternal_d00df_24 : decode cJ5_ensureCapacityInternal_d00df 24 = .ok (.invokevirtual 104, 3) := by decide +kernel
theorem dJ5_ensureCapacityInternal_d00df_27 : decode cJ5_ensureCapacityInternal_d00df 27 = .ok (.aload_n 0, 1) := by decide +kernel
theorem dJ5_ensureCapacityInternal_d00df_28 : decode cJ5_ensureCapacityInternal_d00df 28 = .ok (.getfield 22, 3) := by decide +kernel
theorem dJ5_ensureCapacityInternal_d00df_31 : decode cJ5_ensureCapacityInternal_d00df 31 = .ok (.ishl, 1) := by decide +kernel
theorem dJ5_ensureCapacityInternal_d00df_32 : decode cJ5_ensureCapacityInternal_d00df 32 = .ok (.invokestatic 108, 3) := by decide +kernel
theorem dJ5_ensureCapacityInternal_d00df_35 : decode cJ5_ensureCapacityInternal_d00df 35 = .ok (.putfield 15, 3) := by decide +kernel
theorem dJ5_ensureCapacityInternal_d00df_38 : decode cJ5_ensureCapacityInternal_d00df 38 = .ok (.return_, 1) := by decide +kernel
theorem dJ5_newCapacity_0f7a4_0 : decode cJ5_newCapacity_0f7a4 0 = .ok (.aload_n 0, 1) := by decide +kernel
theorem dJ5_newCapacity_0f7a4_1 : decode cJ5_newCapacity_0f7a4 1 = .ok (.getfield 15, 3) := by decide +kernel
theorem dJ5_newCapacity_0f7a4_4 : decode cJ5_newCapacity_0f7a4 4 = .ok (.arraylength, 1) := by decide +kernel
theorem dJ5_newCapacity_0f7a4_5 : decode cJ5_newCapacity_0f7a4 5 = .ok (.istore_n 2, 1) := by decide +kernel
theorem dJ5_newCapacity_0f7a4_6 : decode cJ5_newCapacity_0f7a4 6 = .ok (.iload_n 1, 1) := by decide +kernel
theorem dJ5_newCapacity_0f7a4_7 : decode cJ5_newCapacity_0f7a4 7 = .ok (.aload_n 0, 1) := by decide +kernel
theorem dJ5_newCapacity_0f7a4_8 : decode cJ5_newCapacity_0f7a4 8 = .ok (.getfield 22, 3) := by decide +kernel
theorem dJ5_newCapacity_0f7a4_11 : decode cJ5_newCapacity_0f7a4 11 = .ok (.ishl, 1) := by decide +kernel
theorem dJ5_newCapacity_0f7a4_12 : decode cJ5_newCapacity_0f7a4 12 = .ok (.istore_n 3, 1) := by decide +kernel
theorem dJ5_newCapacity_0f7a4_13 : decode cJ5_newCapacity_0f7a4 13 = .ok (.iload_n 3, 1) := by decide +kernel
theorem dJ5_newCapacity_0f7a4_14 : decode cJ5_newCapacity_0f7a4 14 = .ok (.iload_n 2, 1) := by decide +kernel
theorem dJ5_newCapacity_0f7a4_15 : decode cJ5_newCapacity_0f7a4 15 = .ok (.isub, 1) := by decide +kernel
theorem dJ5_newCapacity_0f7a4_16 : decode cJ5_newCapacity_0f7a4 16 = .ok (.istore 4, 2) := by decide +kernel
theorem dJ5_newCapacity_0f7a4_18 : decode cJ5_newCapacity_0f7a4 18 = .ok (.iload_n 2, 1) := by decide +kernel
theorem dJ5_newCapacity_0f7a4_19 : decode cJ5_newCapacity_0f7a4 19 = .ok (.iload 4, 2) := by decide +kernel
theorem dJ5_newCapacity_0f7a4_21 : decode cJ5_newCapacity_0f7a4 21 = .ok (.iload_n 2, 1) := by decide +kernel
theorem dJ5_newCapacity_0f7a4_22 : decode cJ5_newCapacity_0f7a4 22 = .ok (.iconst 2, 1) := by decide +kernel
theorem dJ5_newCapacity_0f7a4_23 : decode cJ5_newCapacity_0f7a4 23 = .ok (.aload_n 0, 1) := by decide +kernel
theorem dJ5_newCapacity_0f7a4_24 : decode cJ5_newCapacity_0f7a4 24 = .ok (.getfield 22, 3) := by decide +kernel
theorem dJ5_newCapacity_0f7a4_27 : decode cJ5_newCapacity_0f7a4 27 = .ok (.ishl, 1) := by decide +kernel
theorem dJ5_newCapacity_0f7a4_28 : decode cJ5_newCapacity_0f7a4 28 = .ok (.iadd, 1) := by decide +kernel
theorem dJ5_newCapacity_0f7a4_29 : decode cJ5_newCapacity_0f7a4 29 = .ok (.invokestatic 114, 3) := by decide +kernel
theorem dJ5_newCapacity_0f7a4_32 : decode cJ5_newCapacity_0f7a4 32 = .ok (.istore 5, 2) := by decide +kernel
theorem dJ5_newCapacity_0f7a4_34 : decode cJ5_newCapacity_0f7a4 34 = .ok (.iload 5, 2) := by decide +kernel
theorem dJ5_newCapacity_0f7a4_36 : decode cJ5_newCapacity_0f7a4 36 = .ok (.ldc 39, 2) := by decide +kernel
theorem dJ5_newCapacity_0f7a4_38 : decode cJ5_newCapacity_0f7a4 38 = .ok (.if_icmp .ne 13, 3) := by decide +kernel
theorem dJ5_newCapacity_0f7a4_41 : decode cJ5_newCapacity_0f7a4 41 = .ok (.new 120, 3) := by decide +kernel
theorem dJ5_newCapacity_0f7a4_44 : decode cJ5_newCapacity_0f7a4 44 = .ok (.dup, 1) := by decide +kernel
theorem dJ5_newCapacity_0f7a4_45 : decode cJ5_newCapacity_0f7a4 45 = .ok (.ldc 122, 2) := by decide +kernel
theorem dJ5_newCapacity_0f7a4_47 : decode cJ5_newCapacity_0f7a4 47 = .ok (.invokespecial 124, 3) := by decide +kernel
theorem dJ5_newCapacity_0f7a4_50 : decode cJ5_newCapacity_0f7a4 50 = .ok (.athrow, 1) := by decide +kernel
theorem dJ5_newCapacity_0f7a4_51 : decode cJ5_newCapacity_0f7a4 51 = .ok (.iload 5, 2) := by decide +kernel
theorem dJ5_newCapacity_0f7a4_53 : decode cJ5_newCapacity_0f7a4 53 = .ok (.aload_n 0, 1) := by decide +kernel
theorem dJ5_newCapacity_0f7a4_54 : decode cJ5_newCapacity_0f7a4 54 = .ok (.getfield 22, 3) := by decide +kernel
theorem dJ5_newCapacity_0f7a4_57 : decode cJ5_newCapacity_0f7a4 57 = .ok (.ishr, 1) := by decide +kernel
theorem dJ5_newCapacity_0f7a4_58 : decode cJ5_newCapacity_0f7a4 58 = .ok (.ireturn, 1) := by decide +kernel
theorem dJ5_inflate_da8c8_0 : decode cJ5_inflate_da8c8 0 = .ok (.aload_n 0, 1) := by decide +kernel
theorem dJ5_inflate_da8c8_1 : decode cJ5_inflate_da8c8 1 = .ok (.invokevirtual 83, 3) := by decide +kernel
theorem dJ5_inflate_da8c8_4 : decode cJ5_inflate_da8c8 4 = .ok (.ifCond .ne 4, 3) := by decide +kernel
theorem dJ5_inflate_da8c8_7 : decode cJ5_inflate_da8c8 7 = .ok (.return_, 1) := by decide +kernel
theorem dJ5_inflate_da8c8_8 : decode cJ5_inflate_da8c8 8 = .ok (.aload_n 0, 1) := by decide +kernel
theorem dJ5_inflate_da8c8_9 : decode cJ5_inflate_da8c8 9 = .ok (.getfield 15, 3) := by decide +kernel
theorem dJ5_inflate_da8c8_12 : decode cJ5_inflate_da8c8 12 = .ok (.arraylength, 1) := by decide +kernel
theorem dJ5_inflate_da8c8_13 : decode cJ5_inflate_da8c8 13 = .ok (.invokestatic 26, 3) := by decide +kernel
theorem dJ5_inflate_da8c8_16 : decode cJ5_inflate_da8c8 16 = .ok (.astore_n 1, 1) := by decide +kernel
theorem dJ5_inflate_da8c8_17 : decode cJ5_inflate_da8c8 17 = .ok (.aload_n 0, 1) := by decide +kernel
theorem dJ5_inflate_da8c8_18 : decode cJ5_inflate_da8c8 18 = .ok (.getfield 15, 3) := by decide +kernel
theorem dJ5_inflate_da8c8_21 : decode cJ5_inflate_da8c8 21 = .ok (.iconst 0, 1) := by decide +kernel
theorem dJ5_inflate_da8c8_22 : decode cJ5_inflate_da8c8 22 = .ok (.aload_n 1, 1) := by decide +kernel
theorem dJ5_inflate_da8c8_23 : decode cJ5_inflate_da8c8 23 = .ok (.iconst 0, 1) := by decide +kernel
theorem dJ5_inflate_da8c8_24 : decode cJ5_inflate_da8c8 24 = .ok (.aload_n 0, 1) := by decide +kernel
theorem dJ5_inflate_da8c8_25 : decode cJ5_inflate_da8c8 25 = .ok (.getfield 79, 3) := by decide +kernel
theorem dJ5_inflate_da8c8_28 : decode cJ5_inflate_da8c8 28 = .ok (.invokestatic 125, 3) := by decide +kernel
theorem dJ5_inflate_da8c8_31 : decode cJ5_inflate_da8c8 31 = .ok (.aload_n 0, 1) := by decide +kernel
theorem dJ5_inflate_da8c8_32 : decode cJ5_inflate_da8c8 32 = .ok (.aload_n 1, 1) := by decide +kernel
theorem dJ5_inflate_da8c8_33 : decode cJ5_inflate_da8c8 33 = .ok (.putfield 15, 3) := by decide +kernel
theorem dJ5_inflate_da8c8_36 : decode cJ5_inflate_da8c8 36 = .ok (.aload_n 0, 1) := by decide +kernel
theorem dJ5_inflate_da8c8_37 : decode cJ5_inflate_da8c8 37 = .ok (.iconst 1, 1) := by decide +kernel
theorem dJ5_inflate_da8c8_38 : decode cJ5_inflate_da8c8 38 = .ok (.putfield 22, 3) := by decide +kernel
theorem dJ5_inflate_da8c8_41 : decode cJ5_inflate_da8c8 41 = .ok (.return_, 1) := by decide +kernel
theorem dJ5_append_cf1ce_0 : decode cJ5_append_cf1ce 0 = .ok (.aload_n 1, 1) := by decide +kernel
theorem dJ5_append_cf1ce_1 : decode cJ5_append_cf1ce 1 = .ok (.ifnonnull 8, 3) := by decide +kernel
theorem dJ5_append_cf1ce_4 : decode cJ5_append_cf1ce 4 = .ok (.aload_n 0, 1) := by decide +kernel
theorem dJ5_append_cf1ce_5 : decode cJ5_append_cf1ce 5 = .ok (.invokevirtual 204, 3) := by decide +kernel
theorem dJ5_append_cf1ce_8 : decode cJ5_append_cf1ce 8 = .ok (.areturn, 1) := by decide +kernel
theorem dJ5_append_cf1ce_9 : decode cJ5_append_cf1ce 9 = .ok (.aload_n 1, 1) := by decide +kernel
theorem dJ5_append_cf1ce_10 : decode cJ5_append_cf1ce 10 = .ok (.invokevirtual 32, 3) := by decide +kernel
theorem dJ5_append_cf1ce_13 : decode cJ5_append_cf1ce 13 = .ok (.istore_n 2, 1) := by decide +kernel
theorem dJ5_append_cf1ce_14 : decode cJ5_append_cf1ce 14 = .ok (.aload_n 0, 1) := by decide +kernel
theorem dJ5_append_cf1ce_15 : decode cJ5_append_cf1ce 15 = .ok (.aload_n 0, 1) := by decide +kernel
theorem dJ5_append_cf1ce_16 : decode cJ5_append_cf1ce 16 = .ok (.getfield 79, 3) := by decide +kernel
theorem dJ5_append_cf1ce_19 : decode cJ5_append_cf1ce 19 = .ok (.iload_n 2, 1) := by decide +kernel
theorem dJ5_append_cf1ce_20 : decode cJ5_append_cf1ce 20 = .ok (.iadd, 1) := by decide +kernel
theorem dJ5_append_cf1ce_21 : decode cJ5_append_cf1ce 21 = .ok (.invokevirtual 100, 3) := by decide +kernel
theorem dJ5_append_cf1ce_24 : decode cJ5_append_cf1ce 24 = .ok (.aload_n 0, 1) := by decide +kernel
theorem dJ5_append_cf1ce_25 : decode cJ5_append_cf1ce 25 = .ok (.aload_n 0, 1) := by decide +kernel
theorem dJ5_append_cf1ce_26 : decode cJ5_append_cf1ce 26 = .ok (.getfield 79, 3) := by decide +kernel
theorem dJ5_append_cf1ce_29 : decode cJ5_append_cf1ce 29 = .ok (.aload_n 1, 1) := by decide +kernel
theorem dJ5_append_cf1ce_30 : decode cJ5_append_cf1ce 30 = .ok (.invokevirtual 208, 3) := by decide +kernel
theorem dJ5_append_cf1ce_33 : decode cJ5_append_cf1ce 33 = .ok (.aload_n 0, 1) := by decide +kernel
theorem dJ5_append_cf1ce_34 : decode cJ5_append_cf1ce 34 = .ok (.dup, 1) := by decide +kernel
theorem dJ5_append_cf1ce_35 : decode cJ5_append_cf1ce 35 = .ok (.getfield 79, 3) := by decide +kernel
theorem dJ5_append_cf1ce_38 : decode cJ5_append_cf1ce 38 = .ok (.iload_n 2, 1) := by decide +kernel
theorem dJ5_append_cf1ce_39 : decode cJ5_append_cf1ce 39 = .ok (.iadd, 1) := by decide +kernel
theorem dJ5_append_cf1ce_40 : decode cJ5_append_cf1ce 40 = .ok (.putfield 79, 3) := by decide +kernel
theorem dJ5_append_cf1ce_43 : decode cJ5_append_cf1ce 43 = .ok (.aload_n 0, 1) := by decide +kernel
theorem dJ5_append_cf1ce_44 : decode cJ5_append_cf1ce 44 = .ok (.areturn, 1) := by decide +kernel
theorem dJ5_appendNull_278bc_0 : decode cJ5_appendNull_278bc 0 = .ok (.aload_n 0, 1) := by decide +kernel
theorem dJ5_appendNull_278bc_1 : decode cJ5_appendNull_278bc 1 = .ok (.aload_n 0, 1) := by decide +kernel
theorem dJ5_appendNull_278bc_2 : decode cJ5_appendNull_278bc 2 = .ok (.getfield 79, 3) := by decide +kernel
theorem dJ5_appendNull_278bc_5 : decode cJ5_appendNull_278bc 5 = .ok (.iconst 4, 1) := by decide +kernel
theorem dJ5_appendNull_278bc_6 : decode cJ5_appendNull_278bc 6 = .ok (.iadd, 1) := by decide +kernel
theorem dJ5_appendNull_278bc_7 : decode cJ5_appendNull_278bc 7 = .ok (.invokevirtual 100, 3) := by decide +kernel
theorem dJ5_appendNull_278bc_10 : decode cJ5_appendNull_278bc 10 = .ok (.aload_n 0, 1) := by decide +kernel
theorem dJ5_appendNull_278bc_11 : decode cJ5_appendNull_278bc 11 = .ok (.getfield 79, 3) := by decide +kernel
theorem dJ5_appendNull_278bc_14 : decode cJ5_appendNull_278bc 14 = .ok (.istore_n 1, 1) := by decide +kernel
theorem dJ5_appendNull_278bc_15 : decode cJ5_appendNull_278bc 15 = .ok (.aload_n 0, 1) := by decide +kernel
theorem dJ5_appendNull_278bc_16 : decode cJ5_appendNull_278bc 16 = .ok (.getfield 15, 3) := by decide +kernel
theorem dJ5_appendNull_278bc_19 : decode cJ5_appendNull_278bc 19 = .ok (.astore_n 2, 1) := by decide +kernel
theorem dJ5_appendNull_278bc_20 : decode cJ5_appendNull_278bc 20 = .ok (.aload_n 0, 1) := by decide +kernel
theorem dJ5_appendNull_278bc_21 : decode cJ5_appendNull_278bc 21 = .ok (.invokevirtual 83, 3) := by decide +kernel
theorem dJ5_appendNull_278bc_24 : decode cJ5_appendNull_278bc 24 = .ok (.ifCond .eq 38, 3) := by decide +kernel
theorem dJ5_appendNull_278bc_27 : decode cJ5_appendNull_278bc 27 = .ok (.aload_n 2, 1) := by decide +kernel
theorem dJ5_appendNull_278bc_28 : decode cJ5_appendNull_278bc 28 = .ok (.iload_n 1, 1) := by decide +kernel
theorem dJ5_appendNull_278bc_29 : decode cJ5_appendNull_278bc 29 = .ok (.iinc 1 1, 3) := by decide +kernel
theorem dJ5_appendNull_278bc_32 : decode cJ5_appendNull_278bc 32 = .ok (.bipush 110, 2) := by decide +kernel
theorem dJ5_appendNull_278bc_34 : decode cJ5_appendNull_278bc 34 = .ok (.bastore, 1) := by decide +kernel
theorem dJ5_appendNull_278bc_35 : decode cJ5_appendNull_278bc 35 = .ok (.aload_n 2, 1) := by decide +kernel
theorem dJ5_appendNull_278bc_36 : decode cJ5_appendNull_278bc 36 = .ok (.iload_n 1, 1) := by decide +kernel
theorem dJ5_appendNull_278bc_37 : decode cJ5_appendNull_278bc 37 = .ok (.iinc 1 1, 3) := by decide +kernel
theorem dJ5_appendNull_278bc_40 : decode cJ5_appendNull_278bc 40 = .ok (.bipush 117, 2) := by decide +kernel
theorem dJ5_appendNull_278bc_42 : decode cJ5_appendNull_278bc 42 = .ok (.bastore, 1) := by decide +kernel
theorem dJ5_appendNull_278bc_43 : decode cJ5_appendNull_278bc 43 = .ok (.aload_n 2, 1) := by decide +kernel
theorem dJ5_appendNull_278bc_44 : decode cJ5_appendNull_278bc 44 = .ok (.iload_n 1, 1) := by decide +kernel
theorem dJ5_appendNull_278bc_45 : decode cJ5_appendNull_278bc 45 = .ok (.iinc 1 1, 3) := by decide +kernel
theorem dJ5_appendNull_278bc_48 : decode cJ5_appendNull_278bc 48 = .ok (.bipush 108, 2) := by decide +kernel
theorem dJ5_appendNull_278bc_50 : decode cJ5_appendNull_278bc 50 = .ok (.bastore, 1) := by decide +kernel
theorem dJ5_appendNull_278bc_51 : decode cJ5_appendNull_278bc 51 = .ok (.aload_n 2, 1) := by decide +kernel
theorem dJ5_appendNull_278bc_52 : decode cJ5_appendNull_278bc 52 = .ok (.iload_n 1, 1) := by decide +kernel
theorem dJ5_appendNull_278bc_53 : decode cJ5_appendNull_278bc 53 = .ok (.iinc 1 1, 3) := by decide +kernel
theorem dJ5_appendNull_278bc_56 : decode cJ5_appendNull_278bc 56 = .ok (.bipush 108, 2) := by decide +kernel
theorem dJ5_appendNull_278bc_58 : decode cJ5_appendNull_278bc 58 = .ok (.bastore, 1) := by decide +kernel
theorem dJ5_appendNull_278bc_59 : decode cJ5_appendNull_278bc 59 = .ok (.goto 17, 3) := by decide +kernel
theorem dJ5_appendNull_278bc_62 : decode cJ5_appendNull_278bc 62 = .ok (.aload_n 2, 1) := by decide +kernel
theorem dJ5_appendNull_278bc_63 : decode cJ5_appendNull_278bc 63 = .ok (.iload_n 1, 1) := by decide +kernel
theorem dJ5_appendNull_278bc_64 : decode cJ5_appendNull_278bc 64 = .ok (.bipush 110, 2) := by decide +kernel
theorem dJ5_appendNull_278bc_66 : decode cJ5_appendNull_278bc 66 = .ok (.bipush 117, 2) := by decide +kernel
theorem dJ5_appendNull_278bc_68 : decode cJ5_appendNull_278bc 68 = .ok (.bipush 108, 2) := by decide +kernel
theorem dJ5_appendNull_278bc_70 : decode cJ5_appendNull_278bc 70 = .ok (.bipush 108, 2) := by decide +kernel
theorem dJ5_appendNull_278bc_72 : decode cJ5_appendNull_278bc 72 = .ok (.invokestatic 226, 3) := by decide +kernel
theorem dJ5_appendNull_278bc_75 : decode cJ5_appendNull_278bc 75 = .ok (.istore_n 1, 1) := by decide +kernel
theorem dJ5_appendNull_278bc_76 : decode cJ5_appendNull_278bc 76 = .ok (.aload_n 0, 1) := by decide +kernel
theorem dJ5_appendNull_278bc_77 : decode cJ5_appendNull_278bc 77 = .ok (.iload_n 1, 1) := by decide +kernel
theorem dJ5_appendNull_278bc_78 : decode cJ5_appendNull_278bc 78 = .ok (.putfield 79, 3) := by decide +kernel
theorem dJ5_appendNull_278bc_81 : decode cJ5_appendNull_278bc 81 = .ok (.aload_n 0, 1) := by decide +kernel
theorem dJ5_appendNull_278bc_82 : decode cJ5_appendNull_278bc 82 = .ok (.areturn, 1) := by decide +kernel
theorem dJ5_append_c97b9_0 : decode cJ5_append_c97b9 0 = .ok (.aload_n 0, 1) := by decide +kernel
theorem dJ5_append_c97b9_1 : decode cJ5_append_c97b9 1 = .ok (.getfield 79, 3) := by decide +kernel
theorem dJ5_append_c97b9_4 : decode cJ5_append_c97b9 4 = .ok (.istore_n 2, 1) := by decide +kernel
theorem dJ5_append_c97b9_5 : decode cJ5_append_c97b9 5 = .ok (.iload_n 2, 1) := by decide +kernel
theorem dJ5_append_c97b9_6 : decode cJ5_append_c97b9 6 = .ok (.iload_n 1, 1) := by decide +kernel
theorem dJ5_append_c97b9_7 : decode cJ5_append_c97b9 7 = .ok (.invokestatic 245, 3) := by decide +kernel
theorem dJ5_append_c97b9_10 : decode cJ5_append_c97b9 10 = .ok (.iadd, 1) := by decide +kernel
theorem dJ5_append_c97b9_11 : decode cJ5_append_c97b9 11 = .ok (.istore_n 3, 1) := by decide +kernel
theorem dJ5_append_c97b9_12 : decode cJ5_append_c97b9 12 = .ok (.aload_n 0, 1) := by decide +kernel
theorem dJ5_append_c97b9_13 : decode cJ5_append_c97b9 13 = .ok (.iload_n 3, 1) := by decide +kernel
theorem dJ5_append_c97b9_14 : decode cJ5_append_c97b9 14 = .ok (.invokevirtual 100, 3) := by decide +kernel
theorem dJ5_append_c97b9_17 : decode cJ5_append_c97b9 17 = .ok (.aload_n 0, 1) := by decide +kernel
theorem dJ5_append_c97b9_18 : decode cJ5_append_c97b9 18 = .ok (.invokevirtual 83, 3) := by decide +kernel
theorem dJ5_append_c97b9_21 : decode cJ5_append_c97b9 21 = .ok (.ifCond .eq 16, 3) := by decide +kernel
theorem dJ5_append_c97b9_24 : decode cJ5_append_c97b9 24 = .ok (.iload_n 1, 1) := by decide +kernel
theorem dJ5_append_c97b9_25 : decode cJ5_append_c97b9 25 = .ok (.iload_n 3, 1) := by decide +kernel
theorem dJ5_append_c97b9_26 : decode cJ5_append_c97b9 26 = .ok (.aload_n 0, 1) := by decide +kernel
theorem dJ5_append_c97b9_27 : decode cJ5_append_c97b9 27 = .ok (.getfield 15, 3) := by decide +kernel
theorem dJ5_append_c97b9_30 : decode cJ5_append_c97b9 30 = .ok (.invokestatic 248, 3) := by decide +kernel
theorem dJ5_append_c97b9_33 : decode cJ5_append_c97b9 33 = .ok (.pop, 1) := by decide +kernel
theorem dJ5_append_c97b9_34 : decode cJ5_append_c97b9 34 = .ok (.goto 14, 3) := by decide +kernel
theorem dJ5_append_c97b9_37 : decode cJ5_append_c97b9 37 = .ok (.iload_n 1, 1) := by decide +kernel
theorem dJ5_append_c97b9_38 : decode cJ5_append_c97b9 38 = .ok (.iload_n 2, 1) := by decide +kernel
theorem dJ5_append_c97b9_39 : decode cJ5_append_c97b9 39 = .ok (.iload_n 3, 1) := by decide +kernel
theorem dJ5_append_c97b9_40 : decode cJ5_append_c97b9 40 = .ok (.aload_n 0, 1) := by decide +kernel
theorem dJ5_append_c97b9_41 : decode cJ5_append_c97b9 41 = .ok (.getfield 15, 3) := by decide +kernel
theorem dJ5_append_c97b9_44 : decode cJ5_append_c97b9 44 = .ok (.invokestatic 251, 3) := by decide +kernel
theorem dJ5_append_c97b9_47 : decode cJ5_append_c97b9 47 = .ok (.pop, 1) := by decide +kernel
theorem dJ5_append_c97b9_48 : decode cJ5_append_c97b9 48 = .ok (.aload_n 0, 1) := by decide +kernel
theorem dJ5_append_c97b9_49 : decode cJ5_append_c97b9 49 = .ok (.iload_n 3, 1) := by decide +kernel
theorem dJ5_append_c97b9_50 : decode cJ5_append_c97b9 50 = .ok (.putfield 79, 3) := by decide +kernel
theorem dJ5_append_c97b9_53 : decode cJ5_append_c97b9 53 = .ok (.aload_n 0, 1) := by decide +kernel
theorem dJ5_append_c97b9_54 : decode cJ5_append_c97b9 54 = .ok (.areturn, 1) := by decide +kernel
theorem dJ5_getValue_6d5f1_0 : decode cJ5_getValue_6d5f1 0 = .ok (.aload_n 0, 1) := by decide +kernel
theorem dJ5_getValue_6d5f1_1 : decode cJ5_getValue_6d5f1 1 = .ok (.getfield 15, 3) := by decide +kernel
theorem dJ5_getValue_6d5f1_4 : decode cJ5_getValue_6d5f1 4 = .ok (.areturn, 1) := by decide +kernel
theorem dJ5_isLatin1_aae02_0 : decode cJ5_isLatin1_aae02 0 = .ok (.getstatic 18, 3) := by decide +kernel
theorem dJ5_isLatin1_aae02_3 : decode cJ5_isLatin1_aae02 3 = .ok (.ifCond .eq 14, 3) := by decide +kernel
theorem dJ5_isLatin1_aae02_6 : decode cJ5_isLatin1_aae02 6 = .ok (.aload_n 0, 1) := by decide +kernel
theorem dJ5_isLatin1_aae02_7 : decode cJ5_isLatin1_aae02 7 = .ok (.getfield 22, 3) := by decide +kernel
theorem dJ5_isLatin1_aae02_10 : decode cJ5_isLatin1_aae02 10 = .ok (.ifCond .ne 7, 3) := by decide +kernel
theorem dJ5_isLatin1_aae02_13 : decode cJ5_isLatin1_aae02 13 = .ok (.iconst 1, 1) := by decide +kernel
theorem dJ5_isLatin1_aae02_14 : decode cJ5_isLatin1_aae02 14 = .ok (.goto 4, 3) := by decide +kernel
theorem dJ5_isLatin1_aae02_17 : decode cJ5_isLatin1_aae02 17 = .ok (.iconst 0, 1) := by decide +kernel
theorem dJ5_isLatin1_aae02_18 : decode cJ5_isLatin1_aae02 18 = .ok (.ireturn, 1) := by decide +kernel
theorem dJ5_inflateIfNeededFor_a7421_0 : decode cJ5_inflateIfNeededFor_a7421 0 = .ok (.getstatic 18, 3) := by decide +kernel
theorem dJ5_inflateIfNeededFor_a7421_3 : decode cJ5_inflateIfNeededFor_a7421 3 = .ok (.ifCond .eq 18, 3) := by decide +kernel
theorem dJ5_inflateIfNeededFor_a7421_6 : decode cJ5_inflateIfNeededFor_a7421 6 = .ok (.aload_n 0, 1) := by decide +kernel
theorem dJ5_inflateIfNeededFor_a7421_7 : decode cJ5_inflateIfNeededFor_a7421 7 = .ok (.getfield 22, 3) := by decide +kernel
theorem dJ5_inflateIfNeededFor_a7421_10 : decode cJ5_inflateIfNeededFor_a7421 10 = .ok (.aload_n 1, 1) := by decide +kernel
theorem dJ5_inflateIfNeededFor_a7421_11 : decode cJ5_inflateIfNeededFor_a7421 11 = .ok (.invokevirtual 40, 3) := by decide +kernel
theorem dJ5_inflateIfNeededFor_a7421_14 : decode cJ5_inflateIfNeededFor_a7421 14 = .ok (.if_icmp .eq 7, 3) := by decide +kernel
theorem dJ5_inflateIfNeededFor_a7421_17 : decode cJ5_inflateIfNeededFor_a7421 17 = .ok (.aload_n 0, 1) := by decide +kernel
theorem dJ5_inflateIfNeededFor_a7421_18 : decode cJ5_inflateIfNeededFor_a7421 18 = .ok (.invokevirtual 195, 3) := by decide +kernel
theorem dJ5_inflateIfNeededFor_a7421_21 : decode cJ5_inflateIfNeededFor_a7421 21 = .ok (.return_, 1) := by decide +kernel
theorem dJ5_putStringAt_47b60_0 : decode cJ5_putStringAt_47b60 0 = .ok (.aload_n 0, 1) := by decide +kernel
theorem dJ5_putStringAt_47b60_1 : decode cJ5_putStringAt_47b60 1 = .ok (.aload_n 2, 1) := by decide +kernel
theorem dJ5_putStringAt_47b60_2 : decode cJ5_putStringAt_47b60 2 = .ok (.invokevirtual 397, 3) := by decide +kernel
theorem dJ5_putStringAt_47b60_5 : decode cJ5_putStringAt_47b60 5 = .ok (.aload_n 2, 1) := by decide +kernel
theorem dJ5_putStringAt_47b60_6 : decode cJ5_putStringAt_47b60 6 = .ok (.aload_n 0, 1) := by decide +kernel
theorem dJ5_putStringAt_47b60_7 : decode cJ5_putStringAt_47b60 7 = .ok (.getfield 15, 3) := by decide +kernel
theorem dJ5_putStringAt_47b60_10 : decode cJ5_putStringAt_47b60 10 = .ok (.iload_n 1, 1) := by decide +kernel
theorem dJ5_putStringAt_47b60_11 : decode cJ5_putStringAt_47b60 11 = .ok (.aload_n 0, 1) := by decide +kernel
theorem dJ5_putStringAt_47b60_12 : decode cJ5_putStringAt_47b60 12 = .ok (.getfield 22, 3) := by decide +kernel
theorem dJ5_putStringAt_47b60_15 : decode cJ5_putStringAt_47b60 15 = .ok (.invokevirtual 399, 3) := by decide +kernel
theorem dJ5_putStringAt_47b60_18 : decode cJ5_putStringAt_47b60 18 = .ok (.return_, 1) := by decide +kernel
theorem dJ6_getChars_ba4f3_0 : decode cJ6_getChars_ba4f3 0 = .ok (.iload_n 1, 1) := by decide +kernel
theorem dJ6_getChars_ba4f3_1 : decode cJ6_getChars_ba4f3 1 = .ok (.istore 5, 2) := by decide +kernel
theorem dJ6_getChars_ba4f3_3 : decode cJ6_getChars_ba4f3 3 = .ok (.iload_n 0, 1) := by decide +kernel
theorem dJ6_getChars_ba4f3_4 : decode cJ6_getChars_ba4f3 4 = .ok (.ifCond .ge 7, 3) := by decide +kernel
theorem dJ6_getChars_ba4f3_7 : decode cJ6_getChars_ba4f3 7 = .ok (.iconst 1, 1) := by decide +kernel
theorem dJ6_getChars_ba4f3_8 : decode cJ6_getChars_ba4f3 8 = .ok (.goto 4, 3) := by decide +kernel
theorem dJ6_getChars_ba4f3_11 : decode cJ6_getChars_ba4f3 11 = .ok (.iconst 0, 1) := by decide +kernel
theorem dJ6_getChars_ba4f3_12 : decode cJ6_getChars_ba4f3 12 = .ok (.istore 6, 2) := by decide +kernel
theorem dJ6_getChars_ba4f3_14 : decode cJ6_getChars_ba4f3 14 = .ok (.iload 6, 2) := by decide +kernel
theorem dJ6_getChars_ba4f3_16 : decode cJ6_getChars_ba4f3 16 = .ok (.ifCond .ne 6, 3) := by decide +kernel
theorem dJ6_getChars_ba4f3_19 : decode cJ6_getChars_ba4f3 19 = .ok (.iload_n 0, 1) := by decide +kernel
theorem dJ6_getChars_ba4f3_20 : decode cJ6_getChars_ba4f3 20 = .ok (.ineg, 1) := by decide +kernel
theorem dJ6_getChars_ba4f3_21 : decode cJ6_getChars_ba4f3 21 = .ok (.istore_n 0, 1) := by decide +kernel
theorem dJ6_getChars_ba4f3_22 : decode cJ6_getChars_ba4f3 22 = .ok (.iload_n 0, 1) := by decide +kernel
theorem dJ6_getChars_ba4f3_23 : decode cJ6_getChars_ba4f3 23 = .ok (.bipush (-100), 2) := by decide +kernel
theorem dJ6_getChars_ba4f3_25 : decode cJ6_getChars_ba4f3 25 = .ok (.if_icmp .gt 47, 3) := by decide +kernel
theorem dJ6_getChars_ba4f3_28 : decode cJ6_getChars_ba4f3 28 = .ok (.iload_n 0, 1) := by decide +kernel
theorem dJ6_getChars_ba4f3_29 : decode cJ6_getChars_ba4f3 29 = .ok (.bipush 100, 2) := by decide +kernel
theorem dJ6_getChars_ba4f3_31 : decode cJ6_getChars_ba4f3 31 = .ok (.idiv, 1) := by decide +kernel
theorem dJ6_getChars_ba4f3_32 : decode cJ6_getChars_ba4f3 32 = .ok (.istore_n 3, 1) := by decide +kernel
theorem dJ6_getChars_ba4f3_33 : decode cJ6_getChars_ba4f3 33 = .ok (.iload_n 3, 1) := by decide +kernel
theorem dJ6_getChars_ba4f3_34 : decode cJ6_getChars_ba4f3 34 = .ok (.bipush 100, 2) := by decide +kernel
theorem dJ6_getChars_ba4f3_36 : decode cJ6_getChars_ba4f3 36 = .ok (.imul, 1) := by decide +kernel
theorem dJ6_getChars_ba4f3_37 : decode cJ6_getChars_ba4f3 37 = .ok (.iload_n 0, 1) := by decide +kernel
theorem dJ6_getChars_ba4f3_38 : decode cJ6_getChars_ba4f3 38 = .ok (.isub, 1) := by decide +kernel
theorem dJ6_getChars_ba4f3_39 : decode cJ6_getChars_ba4f3 39 = .ok (.istore 4, 2) := by decide +kernel
theorem dJ6_getChars_ba4f3_41 : decode cJ6_getChars_ba4f3 41 = .ok (.iload_n 3, 1) := by decide +kernel
theorem dJ6_getChars_ba4f3_42 : decode cJ6_getChars_ba4f3 42 = .ok (.istore_n 0, 1) := by decide +kernel
theorem dJ6_getChars_ba4f3_43 : decode cJ6_getChars_ba4f3 43 = .ok (.aload_n 2, 1) := by decide +kernel
theorem dJ6_getChars_ba4f3_44 : decode cJ6_getChars_ba4f3 44 = .ok (.iinc 5 (-1), 3) := by decide +kernel
theorem dJ6_getChars_ba4f3_47 : decode cJ6_getChars_ba4f3 47 = .ok (.iload 5, 2) := by decide +kernel
theorem dJ6_getChars_ba4f3_49 : decode cJ6_getChars_ba4f3 49 = .ok (.getstatic 83, 3) := by decide +kernel
theorem dJ6_getChars_ba4f3_52 : decode cJ6_getChars_ba4f3 52 = .ok (.iload 4, 2) := by decide +kernel
theorem dJ6_getChars_ba4f3_54 : decode cJ6_getChars_ba4f3 54 = .ok (.baload, 1) := by decide +kernel
theorem dJ6_getChars_ba4f3_55 : decode cJ6_getChars_ba4f3 55 = .ok (.bastore, 1) := by decide +kernel
theorem dJ6_getChars_ba4f3_56 : decode cJ6_getChars_ba4f3 56 = .ok (.aload_n 2, 1) := by decide +kernel
theorem dJ6_getChars_ba4f3_57 : decode cJ6_getChars_ba4f3 57 = .ok (.iinc 5 (-1), 3) := by decide +kernel
theorem dJ6_getChars_ba4f3_60 : decode cJ6_getChars_ba4f3 60 = .ok (.iload 5, 2) := by decide +kernel
theorem dJ6_getChars_ba4f3_62 : decode cJ6_getChars_ba4f3 62 = .ok (.getstatic 87, 3) := by decide +kernel
theorem dJ6_getChars_ba4f3_65 : decode cJ6_getChars_ba4f3 65 = .ok (.iload 4, 2) := by decide +kernel
theorem dJ6_getChars_ba4f3_67 : decode cJ6_getChars_ba4f3 67 = .ok (.baload, 1) := by decide +kernel
theorem dJ6_getChars_ba4f3_68 : decode cJ6_getChars_ba4f3 68 = .ok (.bastore, 1) := by decide +kernel
theorem dJ6_getChars_ba4f3_69 : decode cJ6_getChars_ba4f3 69 = .ok (.goto (-47), 3) := by decide +kernel
theorem dJ6_getChars_ba4f3_72 : decode cJ6_getChars_ba4f3 72 = .ok (.aload_n 2, 1) := by decide +kernel
theorem dJ6_getChars_ba4f3_73 : decode cJ6_getChars_ba4f3 73 = .ok (.iinc 5 (-1), 3) := by decide +kernel
theorem dJ6_getChars_ba4f3_76 : decode cJ6_getChars_ba4f3 76 = .ok (.iload 5, 2) := by decide +kernel
theorem dJ6_getChars_ba4f3_78 : decode cJ6_getChars_ba4f3 78 = .ok (.getstatic 83, 3) := by decide +kernel
theorem dJ6_getChars_ba4f3_81 : decode cJ6_getChars_ba4f3 81 = .ok (.iload_n 0, 1) := by decide +kernel
theorem dJ6_getChars_ba4f3_82 : decode cJ6_getChars_ba4f3 82 = .ok (.ineg, 1) := by decide +kernel
theorem dJ6_getChars_ba4f3_83 : decode cJ6_getChars_ba4f3 83 = .ok (.baload, 1) := by decide +kernel
theorem dJ6_getChars_ba4f3_84 : decode cJ6_getChars_ba4f3 84 = .ok (.bastore, 1) := by decide +kernel
theorem dJ6_getChars_ba4f3_85 : decode cJ6_getChars_ba4f3 85 = .ok (.iload_n 0, 1) := by decide +kernel
theorem dJ6_getChars_ba4f3_86 : decode cJ6_getChars_ba4f3 86 = .ok (.bipush (-9), 2) := by decide +kernel
theorem dJ6_getChars_ba4f3_88 : decode cJ6_getChars_ba4f3 88 = .ok (.if_icmp .ge 16, 3) := by decide +kernel
theorem dJ6_getChars_ba4f3_91 : decode cJ6_getChars_ba4f3 91 = .ok (.aload_n 2, 1) := by decide +kernel
theorem dJ6_getChars_ba4f3_92 : decode cJ6_getChars_ba4f3 92 = .ok (.iinc 5 (-1), 3) := by decide +kernel
theorem dJ6_getChars_ba4f3_95 : decode cJ6_getChars_ba4f3 95 = .ok (.iload 5, 2) := by decide +kernel
theorem dJ6_getChars_ba4f3_97 : decode cJ6_getChars_ba4f3 97 = .ok (.getstatic 87, 3) := by decide +kernel
theorem dJ6_getChars_ba4f3_100 : decode cJ6_getChars_ba4f3 100 = .ok (.iload_n 0, 1) := by decide +kernel
theorem dJ6_getChars_ba4f3_101 : decode cJ6_getChars_ba4f3 101 = .ok (.ineg, 1) := by decide +kernel
theorem dJ6_getChars_ba4f3_102 : decode cJ6_getChars_ba4f3 102 = .ok (.baload, 1) := by decide +kernel
theorem dJ6_getChars_ba4f3_103 : decode cJ6_getChars_ba4f3 103 = .ok (.bastore, 1) := by decide +kernel
theorem dJ6_getChars_ba4f3_104 : decode cJ6_getChars_ba4f3 104 = .ok (.iload 6, 2) := by decide +kernel
theorem dJ6_getChars_ba4f3_106 : decode cJ6_getChars_ba4f3 106 = .ok (.ifCond .eq 12, 3) := by decide +kernel
theorem dJ6_getChars_ba4f3_109 : decode cJ6_getChars_ba4f3 109 = .ok (.aload_n 2, 1) := by decide +kernel
theorem dJ6_getChars_ba4f3_110 : decode cJ6_getChars_ba4f3 110 = .ok (.iinc 5 (-1), 3) := by decide +kernel
theorem dJ6_getChars_ba4f3_113 : decode cJ6_getChars_ba4f3 113 = .ok (.iload 5, 2) := by decide +kernel
theorem dJ6_getChars_ba4f3_115 : decode cJ6_getChars_ba4f3 115 = .ok (.bipush 45, 2) := by decide +kernel
theorem dJ6_getChars_ba4f3_117 : decode cJ6_getChars_ba4f3 117 = .ok (.bastore, 1) := by decide +kernel
theorem dJ6_getChars_ba4f3_118 : decode cJ6_getChars_ba4f3 118 = .ok (.iload 5, 2) := by decide +kernel
theorem dJ6_getChars_ba4f3_120 : decode cJ6_getChars_ba4f3 120 = .ok (.ireturn, 1) := by decide +kernel
theorem dJ6_stringSize_0f7a4_0 : decode cJ6_stringSize_0f7a4 0 = .ok (.iconst 1, 1) := by decide +kernel
theorem dJ6_stringSize_0f7a4_1 : decode cJ6_stringSize_0f7a4 1 = .ok (.istore_n 1, 1) := by decide +kernel
theorem dJ6_stringSize_0f7a4_2 : decode cJ6_stringSize_0f7a4 2 = .ok (.iload_n 0, 1) := by decide +kernel
theorem dJ6_stringSize_0f7a4_3 : decode cJ6_stringSize_0f7a4 3 = .ok (.ifCond .lt 8, 3) := by decide +kernel
theorem dJ6_stringSize_0f7a4_6 : decode cJ6_stringSize_0f7a4 6 = .ok (.iconst 0, 1) := by decide +kernel
theorem dJ6_stringSize_0f7a4_7 : decode cJ6_stringSize_0f7a4 7 = .ok (.istore_n 1, 1) := by decide +kernel
theorem dJ6_stringSize_0f7a4_8 : decode cJ6_stringSize_0f7a4 8 = .ok (.iload_n 0, 1) := by decide +kernel
theorem dJ6_stringSize_0f7a4_9 : decode cJ6_stringSize_0f7a4 9 = .ok (.ineg, 1) := by decide +kernel
theorem dJ6_stringSize_0f7a4_10 : decode cJ6_stringSize_0f7a4 10 = .ok (.istore_n 0, 1) := by decide +kernel
theorem dJ6_stringSize_0f7a4_11 : decode cJ6_stringSize_0f7a4 11 = .ok (.bipush (-10), 2) := by decide +kernel
theorem dJ6_stringSize_0f7a4_13 : decode cJ6_stringSize_0f7a4 13 = .ok (.istore_n 2, 1) := by decide +kernel
theorem dJ6_stringSize_0f7a4_14 : decode cJ6_stringSize_0f7a4 14 = .ok (.iconst 1, 1) := by decide +kernel
theorem dJ6_stringSize_0f7a4_15 : decode cJ6_stringSize_0f7a4 15 = .ok (.istore_n 3, 1) := by decide +kernel
theorem dJ6_stringSize_0f7a4_16 : decode cJ6_stringSize_0f7a4 16 = .ok (.iload_n 3, 1) := by decide +kernel
theorem dJ6_stringSize_0f7a4_17 : decode cJ6_stringSize_0f7a4 17 = .ok (.bipush 10, 2) := by decide +kernel
theorem dJ6_stringSize_0f7a4_19 : decode cJ6_stringSize_0f7a4 19 = .ok (.if_icmp .ge 23, 3) := by decide +kernel
theorem dJ6_stringSize_0f7a4_22 : decode cJ6_stringSize_0f7a4 22 = .ok (.iload_n 0, 1) := by decide +kernel
theorem dJ6_stringSize_0f7a4_23 : decode cJ6_stringSize_0f7a4 23 = .ok (.iload_n 2, 1) := by decide +kernel
theorem dJ6_stringSize_0f7a4_24 : decode cJ6_stringSize_0f7a4 24 = .ok (.if_icmp .le 7, 3) := by decide +kernel
theorem dJ6_stringSize_0f7a4_27 : decode cJ6_stringSize_0f7a4 27 = .ok (.iload_n 3, 1) := by decide +kernel
theorem dJ6_stringSize_0f7a4_28 : decode cJ6_stringSize_0f7a4 28 = .ok (.iload_n 1, 1) := by decide +kernel
theorem dJ6_stringSize_0f7a4_29 : decode cJ6_stringSize_0f7a4 29 = .ok (.iadd, 1) := by decide +kernel
theorem dJ6_stringSize_0f7a4_30 : decode cJ6_stringSize_0f7a4 30 = .ok (.ireturn, 1) := by decide +kernel
theorem dJ6_stringSize_0f7a4_31 : decode cJ6_stringSize_0f7a4 31 = .ok (.bipush 10, 2) := by decide +kernel
theorem dJ6_stringSize_0f7a4_33 : decode cJ6_stringSize_0f7a4 33 = .ok (.iload_n 2, 1) := by decide +kernel
theorem dJ6_stringSize_0f7a4_34 : decode cJ6_stringSize_0f7a4 34 = .ok (.imul, 1) := by decide +kernel
theorem dJ6_stringSize_0f7a4_35 : decode cJ6_stringSize_0f7a4 35 = .ok (.istore_n 2, 1) := by decide +kernel
theorem dJ6_stringSize_0f7a4_36 : decode cJ6_stringSize_0f7a4 36 = .ok (.iinc 3 1, 3) := by decide +kernel
theorem dJ6_stringSize_0f7a4_39 : decode cJ6_stringSize_0f7a4 39 = .ok (.goto (-23), 3) := by decide +kernel
theorem dJ6_stringSize_0f7a4_42 : decode cJ6_stringSize_0f7a4 42 = .ok (.bipush 10, 2) := by decide +kernel
theorem dJ6_stringSize_0f7a4_44 : decode cJ6_stringSize_0f7a4 44 = .ok (.iload_n 1, 1) := by decide +kernel
theorem dJ6_stringSize_0f7a4_45 : decode cJ6_stringSize_0f7a4 45 = .ok (.iadd, 1) := by decide +kernel
theorem dJ6_stringSize_0f7a4_46 : decode cJ6_stringSize_0f7a4 46 = .ok (.ireturn, 1) := by decide +kernel
theorem dJ6_bitCount_0f7a4_0 : decode cJ6_bitCount_0f7a4 0 = .ok (.iload_n 0, 1) := by decide +kernel
theorem dJ6_bitCount_0f7a4_1 : decode cJ6_bitCount_0f7a4 1 = .ok (.iload_n 0, 1) := by decide +kernel
theorem dJ6_bitCount_0f7a4_2 : decode cJ6_bitCount_0f7a4 2 = .ok (.iconst 1, 1) := by decide +kernel
theorem dJ6_bitCount_0f7a4_3 : decode cJ6_bitCount_0f7a4 3 = .ok (.iushr, 1) := by decide +kernel
theorem dJ6_bitCount_0f7a4_4 : decode cJ6_bitCount_0f7a4 4 = .ok (.ldc_w 265, 3) := by decide +kernel
theorem dJ6_bitCount_0f7a4_7 : decode cJ6_bitCount_0f7a4 7 = .ok (.iand, 1) := by decide +kernel
theorem dJ6_bitCount_0f7a4_8 : decode cJ6_bitCount_0f7a4 8 = .ok (.isub, 1) := by decide +kernel
theorem dJ6_bitCount_0f7a4_9 : decode cJ6_bitCount_0f7a4 9 = .ok (.istore_n 0, 1) := by decide +kernel
theorem dJ6_bitCount_0f7a4_10 : decode cJ6_bitCount_0f7a4 10 = .ok (.iload_n 0, 1) := by decide +kernel
theorem dJ6_bitCount_0f7a4_11 : decode cJ6_bitCount_0f7a4 11 = .ok (.ldc_w 266, 3) := by decide +kernel
theorem dJ6_bitCount_0f7a4_14 : decode cJ6_bitCount_0f7a4 14 = .ok (.iand, 1) := by decide +kernel
theorem dJ6_bitCount_0f7a4_15 : decode cJ6_bitCount_0f7a4 15 = .ok (.iload_n 0, 1) := by decide +kernel
theorem dJ6_bitCount_0f7a4_16 : decode cJ6_bitCount_0f7a4 16 = .ok (.iconst 2, 1) := by decide +kernel
theorem dJ6_bitCount_0f7a4_17 : decode cJ6_bitCount_0f7a4 17 = .ok (.iushr, 1) := by decide +kernel
theorem dJ6_bitCount_0f7a4_18 : decode cJ6_bitCount_0f7a4 18 = .ok (.ldc_w 266, 3) := by decide +kernel
theorem dJ6_bitCount_0f7a4_21 : decode cJ6_bitCount_0f7a4 21 = .ok (.iand, 1) := by decide +kernel
theorem dJ6_bitCount_0f7a4_22 : decode cJ6_bitCount_0f7a4 22 = .ok (.iadd, 1) := by decide +kernel
theorem dJ6_bitCount_0f7a4_23 : decode cJ6_bitCount_0f7a4 23 = .ok (.istore_n 0, 1) := by decide +kernel
theorem dJ6_bitCount_0f7a4_24 : decode cJ6_bitCount_0f7a4 24 = .ok (.iload_n 0, 1) := by decide +kernel
theorem dJ6_bitCount_0f7a4_25 : decode cJ6_bitCount_0f7a4 25 = .ok (.iload_n 0, 1) := by decide +kernel
theorem dJ6_bitCount_0f7a4_26 : decode cJ6_bitCount_0f7a4 26 = .ok (.iconst 4, 1) := by decide +kernel
theorem dJ6_bitCount_0f7a4_27 : decode cJ6_bitCount_0f7a4 27 = .ok (.iushr, 1) := by decide +kernel
theorem dJ6_bitCount_0f7a4_28 : decode cJ6_bitCount_0f7a4 28 = .ok (.iadd, 1) := by decide +kernel
theorem dJ6_bitCount_0f7a4_29 : decode cJ6_bitCount_0f7a4 29 = .ok (.ldc_w 267, 3) := by decide +kernel
theorem dJ6_bitCount_0f7a4_32 : decode cJ6_bitCount_0f7a4 32 = .ok (.iand, 1) := by decide +kernel
theorem dJ6_bitCount_0f7a4_33 : decode cJ6_bitCount_0f7a4 33 = .ok (.istore_n 0, 1) := by decide +kernel
theorem dJ6_bitCount_0f7a4_34 : decode cJ6_bitCount_0f7a4 34 = .ok (.iload_n 0, 1) := by decide +kernel
theorem dJ6_bitCount_0f7a4_35 : decode cJ6_bitCount_0f7a4 35 = .ok (.iload_n 0, 1) := by decide +kernel
theorem dJ6_bitCount_0f7a4_36 : decode cJ6_bitCount_0f7a4 36 = .ok (.bipush 8, 2) := by decide +kernel
theorem dJ6_bitCount_0f7a4_38 : decode cJ6_bitCount_0f7a4 38 = .ok (.iushr, 1) := by decide +kernel
theorem dJ6_bitCount_0f7a4_39 : decode cJ6_bitCount_0f7a4 39 = .ok (.iadd, 1) := by decide +kernel
theorem dJ6_bitCount_0f7a4_40 : decode cJ6_bitCount_0f7a4 40 = .ok (.istore_n 0, 1) := by decide +kernel
theorem dJ6_bitCount_0f7a4_41 : decode cJ6_bitCount_0f7a4 41 = .ok (.iload_n 0, 1) := by decide +kernel
theorem dJ6_bitCount_0f7a4_42 : decode cJ6_bitCount_0f7a4 42 = .ok (.iload_n 0, 1) := by decide +kernel
theorem dJ6_bitCount_0f7a4_43 : decode cJ6_bitCount_0f7a4 43 = .ok (.bipush 16, 2) := by decide +kernel
theorem dJ6_bitCount_0f7a4_45 : decode cJ6_bitCount_0f7a4 45 = .ok (.iushr, 1) := by decide +kernel
theorem dJ6_bitCount_0f7a4_46 : decode cJ6_bitCount_0f7a4 46 = .ok (.iadd, 1) := by decide +kernel
theorem dJ6_bitCount_0f7a4_47 : decode cJ6_bitCount_0f7a4 47 = .ok (.istore_n 0, 1) := by decide +kernel
theorem dJ6_bitCount_0f7a4_48 : decode cJ6_bitCount_0f7a4 48 = .ok (.iload_n 0, 1) := by decide +kernel
theorem dJ6_bitCount_0f7a4_49 : decode cJ6_bitCount_0f7a4 49 = .ok (.bipush 63, 2) := by decide +kernel
theorem dJ6_bitCount_0f7a4_51 : decode cJ6_bitCount_0f7a4 51 = .ok (.iand, 1) := by decide +kernel
theorem dJ6_bitCount_0f7a4_52 : decode cJ6_bitCount_0f7a4 52 = .ok (.ireturn, 1) := by decide +kernel
theorem dJ9_max_7cf53_0 : decode cJ9_max_7cf53 0 = .ok (.iload_n 0, 1) := by decide +kernel
theorem dJ9_max_7cf53_1 : decode cJ9_max_7cf53 1 = .ok (.iload_n 1, 1) := by decide +kernel
theorem dJ9_max_7cf53_2 : decode cJ9_max_7cf53 2 = .ok (.if_icmp .lt 7, 3) := by decide +kernel
theorem dJ9_max_7cf53_5 : decode cJ9_max_7cf53 5 = .ok (.iload_n 0, 1) := by decide +kernel
theorem dJ9_max_7cf53_6 : decode cJ9_max_7cf53 6 = .ok (.goto 4, 3) := by decide +kernel
theorem dJ9_max_7cf53_9 : decode cJ9_max_7cf53 9 = .ok (.iload_n 1, 1) := by decide +kernel
theorem dJ9_max_7cf53_10 : decode cJ9_max_7cf53 10 = .ok (.ireturn, 1) := by decide +kernel
theorem dJ9_min_7cf53_0 : decode cJ9_min_7cf53 0 = .ok (.iload_n 0, 1) := by decide +kernel
theorem dJ9_min_7cf53_1 : decode cJ9_min_7cf53 1 = .ok (.iload_n 1, 1) := by decide +kernel
theorem dJ9_min_7cf53_2 : decode cJ9_min_7cf53 2 = .ok (.if_icmp .gt 7, 3) := by decide +kernel
theorem dJ9_min_7cf53_5 : decode cJ9_min_7cf53 5 = .ok (.iload_n 0, 1) := by decide +kernel
theorem dJ9_min_7cf53_6 : decode cJ9_min_7cf53 6 = .ok (.goto 4, 3) := by decide +kernel
theorem dJ9_min_7cf53_9 : decode cJ9_min_7cf53 9 = .ok (.iload_n 1, 1) := by decide +kernel
theorem dJ9_min_7cf53_10 : decode cJ9_min_7cf53 10 = .ok (.ireturn, 1) := by decide +kernel
theorem dJ0_init_81219_0 : decode cJ0_init_81219 0 = .ok (.aload_n 0, 1) := by decide +kernel
theorem dJ0_init_81219_1 : decode cJ0_init_81219 1 = .ok (.aload_n 1, 1) := by decide +kernel
theorem dJ0_init_81219_2 : decode cJ0_init_81219 2 = .ok (.aconst_null, 1) := by decide +kernel
theorem dJ0_init_81219_3 : decode cJ0_init_81219 3 = .ok (.invokespecial 489, 3) := by decide +kernel
theorem dJ0_init_81219_6 : decode cJ0_init_81219 6 = .ok (.return_, 1) := by decide +kernel
theorem dJ0_length_8abf5_0 : decode cJ0_length_8abf5 0 = .ok (.aload_n 0, 1) := by decide +kernel
theorem dJ0_length_8abf5_1 : decode cJ0_length_8abf5 1 = .ok (.getfield 9, 3) := by decide +kernel
theorem dJ0_length_8abf5_4 : decode cJ0_length_8abf5 4 = .ok (.arraylength, 1) := by decide +kernel
theorem dJ0_length_8abf5_5 : decode cJ0_length_8abf5 5 = .ok (.aload_n 0, 1) := by decide +kernel
theorem dJ0_length_8abf5_6 : decode cJ0_length_8abf5 6 = .ok (.invokevirtual 335, 3) := by decide +kernel
theorem dJ0_length_8abf5_9 : decode cJ0_length_8abf5 9 = .ok (.ishr, 1) := by decide +kernel
theorem dJ0_length_8abf5_10 : decode cJ0_length_8abf5 10 = .ok (.ireturn, 1) := by decide +kernel
theorem dJ0_charAt_5068e_0 : decode cJ0_charAt_5068e 0 = .ok (.aload_n 0, 1) := by decide +kernel
theorem dJ0_charAt_5068e_1 : decode cJ0_charAt_5068e 1 = .ok (.invokevirtual 492, 3) := by decide +kernel
theorem dJ0_charAt_5068e_4 : decode cJ0_charAt_5068e 4 = .ok (.ifCond .eq 12, 3) := by decide +kernel
theorem dJ0_charAt_5068e_7 : decode cJ0_charAt_5068e 7 = .ok (.aload_n 0, 1) := by decide +kernel
end
section
theorem dJ0_charAt_5068e_8 : decode cJ0_charAt_5068e 8 = .ok (.getfield 9, 3) := by decide +kernel
theorem dJ0_charAt_5068e_11 : decode cJ0_charAt_5068e 11 = .ok (.iload_n 1, 1) := by decide +kernel
theorem dJ0_charAt_5068e_12 : decode cJ0_charAt_5068e 12 = .ok (.invokestatic 495, 3) := by decide +kernel
theorem dJ0_charAt_5068e_15 : decode cJ0_charAt_5068e 15 = .ok (.ireturn, 1) := by decide +kernel
theorem dJ0_charAt_5068e_16 : decode cJ0_charAt_5068e 16 = .ok (.aload_n 0, 1) := by decide +kernel
theorem dJ0_charAt_5068e_17 : decode cJ0_charAt_5068e 17 = .ok (.getfield 9, 3) := by decide +kernel
theorem dJ0_charAt_5068e_20 : decode cJ0_charAt_5068e 20 = .ok (.iload_n 1, 1) := by decide +kernel
theorem dJ0_charAt_5068e_21 : decode cJ0_charAt_5068e 21 = .ok (.invokestatic 498, 3) := by decide +kernel
theorem dJ0_charAt_5068e_24 : decode cJ0_charAt_5068e 24 = .ok (.ireturn, 1) := by decide +kernel
theorem dJ0_getBytes_840e7_0 : decode cJ0_getBytes_840e7 0 = .ok (.aload_n 0, 1) := by decide +kernel
theorem dJ0_getBytes_840e7_1 : decode cJ0_getBytes_840e7 1 = .ok (.invokevirtual 335, 3) := by decide +kernel
theorem dJ0_getBytes_840e7_4 : decode cJ0_getBytes_840e7 4 = .ok (.iload_n 3, 1) := by decide +kernel
theorem dJ0_getBytes_840e7_5 : decode cJ0_getBytes_840e7 5 = .ok (.if_icmp .ne 23, 3) := by decide +kernel
theorem dJ0_getBytes_840e7_8 : decode cJ0_getBytes_840e7 8 = .ok (.aload_n 0, 1) := by decide +kernel
theorem dJ0_getBytes_840e7_9 : decode cJ0_getBytes_840e7 9 = .ok (.getfield 9, 3) := by decide +kernel
theorem dJ0_getBytes_840e7_12 : decode cJ0_getBytes_840e7 12 = .ok (.iconst 0, 1) := by decide +kernel
theorem dJ0_getBytes_840e7_13 : decode cJ0_getBytes_840e7 13 = .ok (.aload_n 1, 1) := by decide +kernel
theorem dJ0_getBytes_840e7_14 : decode cJ0_getBytes_840e7 14 = .ok (.iload_n 2, 1) := by decide +kernel
theorem dJ0_getBytes_840e7_15 : decode cJ0_getBytes_840e7 15 = .ok (.iload_n 3, 1) := by decide +kernel
theorem dJ0_getBytes_840e7_16 : decode cJ0_getBytes_840e7 16 = .ok (.ishl, 1) := by decide +kernel
theorem dJ0_getBytes_840e7_17 : decode cJ0_getBytes_840e7 17 = .ok (.aload_n 0, 1) := by decide +kernel
theorem dJ0_getBytes_840e7_18 : decode cJ0_getBytes_840e7 18 = .ok (.getfield 9, 3) := by decide +kernel
theorem dJ0_getBytes_840e7_21 : decode cJ0_getBytes_840e7 21 = .ok (.arraylength, 1) := by decide +kernel
theorem dJ0_getBytes_840e7_22 : decode cJ0_getBytes_840e7 22 = .ok (.invokestatic 212, 3) := by decide +kernel
theorem dJ0_getBytes_840e7_25 : decode cJ0_getBytes_840e7 25 = .ok (.goto 18, 3) := by decide +kernel
theorem dJ0_getBytes_840e7_28 : decode cJ0_getBytes_840e7 28 = .ok (.aload_n 0, 1) := by decide +kernel
theorem dJ0_getBytes_840e7_29 : decode cJ0_getBytes_840e7 29 = .ok (.getfield 9, 3) := by decide +kernel
theorem dJ0_getBytes_840e7_32 : decode cJ0_getBytes_840e7 32 = .ok (.iconst 0, 1) := by decide +kernel
theorem dJ0_getBytes_840e7_33 : decode cJ0_getBytes_840e7 33 = .ok (.aload_n 1, 1) := by decide +kernel
theorem dJ0_getBytes_840e7_34 : decode cJ0_getBytes_840e7 34 = .ok (.iload_n 2, 1) := by decide +kernel
theorem dJ0_getBytes_840e7_35 : decode cJ0_getBytes_840e7 35 = .ok (.aload_n 0, 1) := by decide +kernel
theorem dJ0_getBytes_840e7_36 : decode cJ0_getBytes_840e7 36 = .ok (.getfield 9, 3) := by decide +kernel
theorem dJ0_getBytes_840e7_39 : decode cJ0_getBytes_840e7 39 = .ok (.arraylength, 1) := by decide +kernel
theorem dJ0_getBytes_840e7_40 : decode cJ0_getBytes_840e7 40 = .ok (.invokestatic 106, 3) := by decide +kernel
theorem dJ0_getBytes_840e7_43 : decode cJ0_getBytes_840e7 43 = .ok (.return_, 1) := by decide +kernel
theorem dJ0_init_db425_0 : decode cJ0_init_db425 0 = .ok (.aload_n 0, 1) := by decide +kernel
theorem dJ0_init_db425_1 : decode cJ0_init_db425 1 = .ok (.invokespecial 1, 3) := by decide +kernel
theorem dJ0_init_db425_4 : decode cJ0_init_db425 4 = .ok (.aload_n 1, 1) := by decide +kernel
theorem dJ0_init_db425_5 : decode cJ0_init_db425 5 = .ok (.invokevirtual 552, 3) := by decide +kernel
theorem dJ0_init_db425_8 : decode cJ0_init_db425 8 = .ok (.astore_n 3, 1) := by decide +kernel
theorem dJ0_init_db425_9 : decode cJ0_init_db425 9 = .ok (.aload_n 1, 1) := by decide +kernel
theorem dJ0_init_db425_10 : decode cJ0_init_db425 10 = .ok (.invokevirtual 549, 3) := by decide +kernel
theorem dJ0_init_db425_13 : decode cJ0_init_db425 13 = .ok (.istore 4, 2) := by decide +kernel
theorem dJ0_init_db425_15 : decode cJ0_init_db425 15 = .ok (.aload_n 1, 1) := by decide +kernel
theorem dJ0_init_db425_16 : decode cJ0_init_db425 16 = .ok (.invokevirtual 1047, 3) := by decide +kernel
theorem dJ0_init_db425_19 : decode cJ0_init_db425 19 = .ok (.ifCond .eq 22, 3) := by decide +kernel
theorem dJ0_init_db425_22 : decode cJ0_init_db425 22 = .ok (.aload_n 0, 1) := by decide +kernel
theorem dJ0_init_db425_23 : decode cJ0_init_db425 23 = .ok (.iconst 0, 1) := by decide +kernel
theorem dJ0_init_db425_24 : decode cJ0_init_db425 24 = .ok (.putfield 15, 3) := by decide +kernel
theorem dJ0_init_db425_27 : decode cJ0_init_db425 27 = .ok (.aload_n 0, 1) := by decide +kernel
theorem dJ0_init_db425_28 : decode cJ0_init_db425 28 = .ok (.aload_n 3, 1) := by decide +kernel
theorem dJ0_init_db425_29 : decode cJ0_init_db425 29 = .ok (.iconst 0, 1) := by decide +kernel
theorem dJ0_init_db425_30 : decode cJ0_init_db425 30 = .ok (.iload 4, 2) := by decide +kernel
theorem dJ0_init_db425_32 : decode cJ0_init_db425 32 = .ok (.invokestatic 54, 3) := by decide +kernel
theorem dJ0_init_db425_35 : decode cJ0_init_db425 35 = .ok (.putfield 9, 3) := by decide +kernel
theorem dJ0_init_db425_38 : decode cJ0_init_db425 38 = .ok (.goto 59, 3) := by decide +kernel
theorem dJ0_init_db425_41 : decode cJ0_init_db425 41 = .ok (.getstatic 38, 3) := by decide +kernel
theorem dJ0_init_db425_44 : decode cJ0_init_db425 44 = .ok (.ifCond .eq 35, 3) := by decide +kernel
theorem dJ0_init_db425_47 : decode cJ0_init_db425 47 = .ok (.aload_n 1, 1) := by decide +kernel
theorem dJ0_init_db425_48 : decode cJ0_init_db425 48 = .ok (.getfield 1048, 3) := by decide +kernel
theorem dJ0_init_db425_51 : decode cJ0_init_db425 51 = .ok (.ifCond .eq 28, 3) := by decide +kernel
theorem dJ0_init_db425_54 : decode cJ0_init_db425 54 = .ok (.aload_n 0, 1) := by decide +kernel
theorem dJ0_init_db425_55 : decode cJ0_init_db425 55 = .ok (.aload_n 3, 1) := by decide +kernel
theorem dJ0_init_db425_56 : decode cJ0_init_db425 56 = .ok (.iconst 0, 1) := by decide +kernel
theorem dJ0_init_db425_57 : decode cJ0_init_db425 57 = .ok (.iload 4, 2) := by decide +kernel
theorem dJ0_init_db425_59 : decode cJ0_init_db425 59 = .ok (.invokestatic 1051, 3) := by decide +kernel
theorem dJ0_init_db425_62 : decode cJ0_init_db425 62 = .ok (.putfield 9, 3) := by decide +kernel
theorem dJ0_init_db425_65 : decode cJ0_init_db425 65 = .ok (.aload_n 0, 1) := by decide +kernel
theorem dJ0_init_db425_66 : decode cJ0_init_db425 66 = .ok (.aload_n 0, 1) := by decide +kernel
theorem dJ0_init_db425_67 : decode cJ0_init_db425 67 = .ok (.getfield 9, 3) := by decide +kernel
theorem dJ0_init_db425_70 : decode cJ0_init_db425 70 = .ok (.iload 4, 2) := by decide +kernel
theorem dJ0_init_db425_72 : decode cJ0_init_db425 72 = .ok (.invokestatic 47, 3) := by decide +kernel
theorem dJ0_init_db425_75 : decode cJ0_init_db425 75 = .ok (.putfield 15, 3) := by decide +kernel
theorem dJ0_init_db425_78 : decode cJ0_init_db425 78 = .ok (.return_, 1) := by decide +kernel
theorem dJ0_init_db425_79 : decode cJ0_init_db425 79 = .ok (.aload_n 0, 1) := by decide +kernel
theorem dJ0_init_db425_80 : decode cJ0_init_db425 80 = .ok (.iconst 1, 1) := by decide +kernel
theorem dJ0_init_db425_81 : decode cJ0_init_db425 81 = .ok (.putfield 15, 3) := by decide +kernel
theorem dJ0_init_db425_84 : decode cJ0_init_db425 84 = .ok (.aload_n 0, 1) := by decide +kernel
theorem dJ0_init_db425_85 : decode cJ0_init_db425 85 = .ok (.aload_n 3, 1) := by decide +kernel
theorem dJ0_init_db425_86 : decode cJ0_init_db425 86 = .ok (.iconst 0, 1) := by decide +kernel
theorem dJ0_init_db425_87 : decode cJ0_init_db425 87 = .ok (.iload 4, 2) := by decide +kernel
theorem dJ0_init_db425_89 : decode cJ0_init_db425 89 = .ok (.iconst 1, 1) := by decide +kernel
theorem dJ0_init_db425_90 : decode cJ0_init_db425 90 = .ok (.ishl, 1) := by decide +kernel
theorem dJ0_init_db425_91 : decode cJ0_init_db425 91 = .ok (.invokestatic 54, 3) := by decide +kernel
theorem dJ0_init_db425_94 : decode cJ0_init_db425 94 = .ok (.putfield 9, 3) := by decide +kernel
theorem dJ0_init_db425_97 : decode cJ0_init_db425 97 = .ok (.return_, 1) := by decide +kernel
theorem dJ0_coder_7d493_0 : decode cJ0_coder_7d493 0 = .ok (.getstatic 38, 3) := by decide +kernel
theorem dJ0_coder_7d493_3 : decode cJ0_coder_7d493 3 = .ok (.ifCond .eq 10, 3) := by decide +kernel
theorem dJ0_coder_7d493_6 : decode cJ0_coder_7d493 6 = .ok (.aload_n 0, 1) := by decide +kernel
theorem dJ0_coder_7d493_7 : decode cJ0_coder_7d493 7 = .ok (.getfield 15, 3) := by decide +kernel
theorem dJ0_coder_7d493_10 : decode cJ0_coder_7d493 10 = .ok (.goto 4, 3) := by decide +kernel
theorem dJ0_coder_7d493_13 : decode cJ0_coder_7d493 13 = .ok (.iconst 1, 1) := by decide +kernel
theorem dJ0_coder_7d493_14 : decode cJ0_coder_7d493 14 = .ok (.ireturn, 1) := by decide +kernel
theorem dJ0_isLatin1_aae02_0 : decode cJ0_isLatin1_aae02 0 = .ok (.getstatic 38, 3) := by decide +kernel
theorem dJ0_isLatin1_aae02_3 : decode cJ0_isLatin1_aae02 3 = .ok (.ifCond .eq 14, 3) := by decide +kernel
theorem dJ0_isLatin1_aae02_6 : decode cJ0_isLatin1_aae02 6 = .ok (.aload_n 0, 1) := by decide +kernel
theorem dJ0_isLatin1_aae02_7 : decode cJ0_isLatin1_aae02 7 = .ok (.getfield 15, 3) := by decide +kernel
theorem dJ0_isLatin1_aae02_10 : decode cJ0_isLatin1_aae02 10 = .ok (.ifCond .ne 7, 3) := by decide +kernel
theorem dJ0_isLatin1_aae02_13 : decode cJ0_isLatin1_aae02 13 = .ok (.iconst 1, 1) := by decide +kernel
theorem dJ0_isLatin1_aae02_14 : decode cJ0_isLatin1_aae02 14 = .ok (.goto 4, 3) := by decide +kernel
theorem dJ0_isLatin1_aae02_17 : decode cJ0_isLatin1_aae02 17 = .ok (.iconst 0, 1) := by decide +kernel
theorem dJ0_isLatin1_aae02_18 : decode cJ0_isLatin1_aae02 18 = .ok (.ireturn, 1) := by decide +kernel
theorem dJ0_checkIndex_df160_0 : decode cJ0_checkIndex_df160 0 = .ok (.iload_n 0, 1) := by decide +kernel
theorem dJ0_checkIndex_df160_1 : decode cJ0_checkIndex_df160 1 = .ok (.iload_n 1, 1) := by decide +kernel
theorem dJ0_checkIndex_df160_2 : decode cJ0_checkIndex_df160 2 = .ok (.getstatic 1053, 3) := by decide +kernel
theorem dJ0_checkIndex_df160_5 : decode cJ0_checkIndex_df160 5 = .ok (.invokestatic 1059, 3) := by decide +kernel
theorem dJ0_checkIndex_df160_8 : decode cJ0_checkIndex_df160 8 = .ok (.pop, 1) := by decide +kernel
theorem dJ0_checkIndex_df160_9 : decode cJ0_checkIndex_df160 9 = .ok (.return_, 1) := by decide +kernel
theorem dJ0_checkBoundsOffCount_cabcc_0 : decode cJ0_checkBoundsOffCount_cabcc 0 = .ok (.iload_n 0, 1) := by decide +kernel
theorem dJ0_checkBoundsOffCount_cabcc_1 : decode cJ0_checkBoundsOffCount_cabcc 1 = .ok (.iload_n 1, 1) := by decide +kernel
theorem dJ0_checkBoundsOffCount_cabcc_2 : decode cJ0_checkBoundsOffCount_cabcc 2 = .ok (.iload_n 2, 1) := by decide +kernel
theorem dJ0_checkBoundsOffCount_cabcc_3 : decode cJ0_checkBoundsOffCount_cabcc 3 = .ok (.getstatic 1053, 3) := by decide +kernel
theorem dJ0_checkBoundsOffCount_cabcc_6 : decode cJ0_checkBoundsOffCount_cabcc 6 = .ok (.invokestatic 1065, 3) := by decide +kernel
theorem dJ0_checkBoundsOffCount_cabcc_9 : decode cJ0_checkBoundsOffCount_cabcc 9 = .ok (.ireturn, 1) := by decide +kernel
theorem dJ0_checkBoundsBeginEnd_23922_0 : decode cJ0_checkBoundsBeginEnd_23922 0 = .ok (.iload_n 0, 1) := by decide +kernel
theorem dJ0_checkBoundsBeginEnd_23922_1 : decode cJ0_checkBoundsBeginEnd_23922 1 = .ok (.iload_n 1, 1) := by decide +kernel
theorem dJ0_checkBoundsBeginEnd_23922_2 : decode cJ0_checkBoundsBeginEnd_23922 2 = .ok (.iload_n 2, 1) := by decide +kernel
theorem dJ0_checkBoundsBeginEnd_23922_3 : decode cJ0_checkBoundsBeginEnd_23922 3 = .ok (.getstatic 1053, 3) := by decide +kernel
theorem dJ0_checkBoundsBeginEnd_23922_6 : decode cJ0_checkBoundsBeginEnd_23922 6 = .ok (.invokestatic 1062, 3) := by decide +kernel
theorem dJ0_checkBoundsBeginEnd_23922_9 : decode cJ0_checkBoundsBeginEnd_23922 9 = .ok (.pop, 1) := by decide +kernel
theorem dJ0_checkBoundsBeginEnd_23922_10 : decode cJ0_checkBoundsBeginEnd_23922 10 = .ok (.return_, 1) := by decide +kernel
theorem dJ4_init_da8c8_0 : decode cJ4_init_da8c8 0 = .ok (.aload_n 0, 1) := by decide +kernel
theorem dJ4_init_da8c8_1 : decode cJ4_init_da8c8 1 = .ok (.bipush 16, 2) := by decide +kernel
theorem dJ4_init_da8c8_3 : decode cJ4_init_da8c8 3 = .ok (.invokespecial 1, 3) := by decide +kernel
theorem dJ4_init_da8c8_6 : decode cJ4_init_da8c8 6 = .ok (.return_, 1) := by decide +kernel
theorem dJ4_append_15ec4_0 : decode cJ4_append_15ec4 0 = .ok (.aload_n 0, 1) := by decide +kernel
theorem dJ4_append_15ec4_1 : decode cJ4_append_15ec4 1 = .ok (.aload_n 1, 1) := by decide +kernel
theorem dJ4_append_15ec4_2 : decode cJ4_append_15ec4 2 = .ok (.invokespecial 29, 3) := by decide +kernel
theorem dJ4_append_15ec4_5 : decode cJ4_append_15ec4 5 = .ok (.pop, 1) := by decide +kernel
theorem dJ4_append_15ec4_6 : decode cJ4_append_15ec4 6 = .ok (.aload_n 0, 1) := by decide +kernel
theorem dJ4_append_15ec4_7 : decode cJ4_append_15ec4 7 = .ok (.areturn, 1) := by decide +kernel
theorem dJ4_append_bf812_0 : decode cJ4_append_bf812 0 = .ok (.aload_n 0, 1) := by decide +kernel
theorem dJ4_append_bf812_1 : decode cJ4_append_bf812 1 = .ok (.iload_n 1, 1) := by decide +kernel
theorem dJ4_append_bf812_2 : decode cJ4_append_bf812 2 = .ok (.invokespecial 53, 3) := by decide +kernel
theorem dJ4_append_bf812_5 : decode cJ4_append_bf812 5 = .ok (.pop, 1) := by decide +kernel
theorem dJ4_append_bf812_6 : decode cJ4_append_bf812 6 = .ok (.aload_n 0, 1) := by decide +kernel
theorem dJ4_append_bf812_7 : decode cJ4_append_bf812 7 = .ok (.areturn, 1) := by decide +kernel
theorem dJ4_toString_0e30d_0 : decode cJ4_toString_0e30d 0 = .ok (.new 18, 3) := by decide +kernel
theorem dJ4_toString_0e30d_3 : decode cJ4_toString_0e30d 3 = .ok (.dup, 1) := by decide +kernel
theorem dJ4_toString_0e30d_4 : decode cJ4_toString_0e30d 4 = .ok (.aload_n 0, 1) := by decide +kernel
theorem dJ4_toString_0e30d_5 : decode cJ4_toString_0e30d 5 = .ok (.invokespecial 137, 3) := by decide +kernel
theorem dJ4_toString_0e30d_8 : decode cJ4_toString_0e30d 8 = .ok (.areturn, 1) := by decide +kernel
theorem dJ4_length_8abf5_0 : decode cJ4_length_8abf5 0 = .ok (.aload_n 0, 1) := by decide +kernel
theorem dJ4_length_8abf5_1 : decode cJ4_length_8abf5 1 = .ok (.invokespecial 343, 3) := by decide +kernel
theorem dJ4_length_8abf5_4 : decode cJ4_length_8abf5 4 = .ok (.ireturn, 1) := by decide +kernel
theorem dJ1_charAt_3b067_0 : decode cJ1_charAt_3b067 0 = .ok (.iload_n 1, 1) := by decide +kernel
theorem dJ1_charAt_3b067_1 : decode cJ1_charAt_3b067 1 = .ok (.aload_n 0, 1) := by decide +kernel
theorem dJ1_charAt_3b067_2 : decode cJ1_charAt_3b067 2 = .ok (.arraylength, 1) := by decide +kernel
theorem dJ1_charAt_3b067_3 : decode cJ1_charAt_3b067 3 = .ok (.invokestatic 9, 3) := by decide +kernel
theorem dJ1_charAt_3b067_6 : decode cJ1_charAt_3b067 6 = .ok (.aload_n 0, 1) := by decide +kernel
theorem dJ1_charAt_3b067_7 : decode cJ1_charAt_3b067 7 = .ok (.iload_n 1, 1) := by decide +kernel
theorem dJ1_charAt_3b067_8 : decode cJ1_charAt_3b067 8 = .ok (.baload, 1) := by decide +kernel
theorem dJ1_charAt_3b067_9 : decode cJ1_charAt_3b067 9 = .ok (.sipush 255, 3) := by decide +kernel
theorem dJ1_charAt_3b067_12 : decode cJ1_charAt_3b067 12 = .ok (.iand, 1) := by decide +kernel
theorem dJ1_charAt_3b067_13 : decode cJ1_charAt_3b067 13 = .ok (.i2c, 1) := by decide +kernel
theorem dJ1_charAt_3b067_14 : decode cJ1_charAt_3b067 14 = .ok (.ireturn, 1) := by decide +kernel
theorem dJ1_inflate_0e8fd_0 : decode cJ1_inflate_0e8fd 0 = .ok (.aload_n 0, 1) := by decide +kernel
theorem dJ1_inflate_0e8fd_1 : decode cJ1_inflate_0e8fd 1 = .ok (.iload_n 1, 1) := by decide +kernel
theorem dJ1_inflate_0e8fd_2 : decode cJ1_inflate_0e8fd 2 = .ok (.aload_n 2, 1) := by decide +kernel
theorem dJ1_inflate_0e8fd_3 : decode cJ1_inflate_0e8fd 3 = .ok (.iload_n 3, 1) := by decide +kernel
theorem dJ1_inflate_0e8fd_4 : decode cJ1_inflate_0e8fd 4 = .ok (.iload 4, 2) := by decide +kernel
theorem dJ1_inflate_0e8fd_6 : decode cJ1_inflate_0e8fd 6 = .ok (.invokestatic 240, 3) := by decide +kernel
theorem dJ1_inflate_0e8fd_9 : decode cJ1_inflate_0e8fd 9 = .ok (.return_, 1) := by decide +kernel
theorem dJ2_newBytesFor_77867_0 : decode cJ2_newBytesFor_77867 0 = .ok (.iload_n 0, 1) := by decide +kernel
theorem dJ2_newBytesFor_77867_1 : decode cJ2_newBytesFor_77867 1 = .ok (.invokestatic 11, 3) := by decide +kernel
theorem dJ2_newBytesFor_77867_4 : decode cJ2_newBytesFor_77867 4 = .ok (.newarray .byte, 2) := by decide +kernel
theorem dJ2_newBytesFor_77867_6 : decode cJ2_newBytesFor_77867 6 = .ok (.areturn, 1) := by decide +kernel
theorem dJ2_newBytesLength_0f7a4_0 : decode cJ2_newBytesLength_0f7a4 0 = .ok (.iload_n 0, 1) := by decide +kernel
theorem dJ2_newBytesLength_0f7a4_1 : decode cJ2_newBytesLength_0f7a4 1 = .ok (.ifCond .ge 11, 3) := by decide +kernel
theorem dJ2_newBytesLength_0f7a4_4 : decode cJ2_newBytesLength_0f7a4 4 = .ok (.new 17, 3) := by decide +kernel
theorem dJ2_newBytesLength_0f7a4_7 : decode cJ2_newBytesLength_0f7a4 7 = .ok (.dup, 1) := by decide +kernel
theorem dJ2_newBytesLength_0f7a4_8 : decode cJ2_newBytesLength_0f7a4 8 = .ok (.invokespecial 19, 3) := by decide +kernel
theorem dJ2_newBytesLength_0f7a4_11 : decode cJ2_newBytesLength_0f7a4 11 = .ok (.athrow, 1) := by decide +kernel
theorem dJ2_newBytesLength_0f7a4_12 : decode cJ2_newBytesLength_0f7a4 12 = .ok (.iload_n 0, 1) := by decide +kernel
theorem dJ2_newBytesLength_0f7a4_13 : decode cJ2_newBytesLength_0f7a4 13 = .ok (.ldc 20, 2) := by decide +kernel
theorem dJ2_newBytesLength_0f7a4_15 : decode cJ2_newBytesLength_0f7a4 15 = .ok (.if_icmp .lt 40, 3) := by decide +kernel
theorem dJ2_newBytesLength_0f7a4_18 : decode cJ2_newBytesLength_0f7a4 18 = .ok (.new 21, 3) := by decide +kernel
theorem dJ2_newBytesLength_0f7a4_21 : decode cJ2_newBytesLength_0f7a4 21 = .ok (.dup, 1) := by decide +kernel
theorem dJ2_newBytesLength_0f7a4_22 : decode cJ2_newBytesLength_0f7a4 22 = .ok (.new 23, 3) := by decide +kernel
theorem dJ2_newBytesLength_0f7a4_25 : decode cJ2_newBytesLength_0f7a4 25 = .ok (.dup, 1) := by decide +kernel
theorem dJ2_newBytesLength_0f7a4_26 : decode cJ2_newBytesLength_0f7a4 26 = .ok (.invokespecial 25, 3) := by decide +kernel
theorem dJ2_newBytesLength_0f7a4_29 : decode cJ2_newBytesLength_0f7a4 29 = .ok (.ldc 26, 2) := by decide +kernel
theorem dJ2_newBytesLength_0f7a4_31 : decode cJ2_newBytesLength_0f7a4 31 = .ok (.invokevirtual 28, 3) := by decide +kernel
theorem dJ2_newBytesLength_0f7a4_34 : decode cJ2_newBytesLength_0f7a4 34 = .ok (.iload_n 0, 1) := by decide +kernel
theorem dJ2_newBytesLength_0f7a4_35 : decode cJ2_newBytesLength_0f7a4 35 = .ok (.invokevirtual 32, 3) := by decide +kernel
theorem dJ2_newBytesLength_0f7a4_38 : decode cJ2_newBytesLength_0f7a4 38 = .ok (.ldc 35, 2) := by decide +kernel
theorem dJ2_newBytesLength_0f7a4_40 : decode cJ2_newBytesLength_0f7a4 40 = .ok (.invokevirtual 28, 3) := by decide +kernel
theorem dJ2_newBytesLength_0f7a4_43 : decode cJ2_newBytesLength_0f7a4 43 = .ok (.ldc 20, 2) := by decide +kernel
theorem dJ2_newBytesLength_0f7a4_45 : decode cJ2_newBytesLength_0f7a4 45 = .ok (.invokevirtual 32, 3) := by decide +kernel
theorem dJ2_newBytesLength_0f7a4_48 : decode cJ2_newBytesLength_0f7a4 48 = .ok (.invokevirtual 37, 3) := by decide +kernel
theorem dJ2_newBytesLength_0f7a4_51 : decode cJ2_newBytesLength_0f7a4 51 = .ok (.invokespecial 41, 3) := by decide +kernel
theorem dJ2_newBytesLength_0f7a4_54 : decode cJ2_newBytesLength_0f7a4 54 = .ok (.athrow, 1) := by decide +kernel
theorem dJ2_newBytesLength_0f7a4_55 : decode cJ2_newBytesLength_0f7a4 55 = .ok (.iload_n 0, 1) := by decide +kernel
theorem dJ2_newBytesLength_0f7a4_56 : decode cJ2_newBytesLength_0f7a4 56 = .ok (.iconst 1, 1) := by decide +kernel
theorem dJ2_newBytesLength_0f7a4_57 : decode cJ2_newBytesLength_0f7a4 57 = .ok (.ishl, 1) := by decide +kernel
theorem dJ2_newBytesLength_0f7a4_58 : decode cJ2_newBytesLength_0f7a4 58 = .ok (.ireturn, 1) := by decide +kernel
theorem dJ2_putChar_b72d1_0 : decode cJ2_putChar_b72d1 0 = .ok (.getstatic 44, 3) := by decide +kernel
theorem dJ2_putChar_b72d1_3 : decode cJ2_putChar_b72d1 3 = .ok (.ifCond .ne 25, 3) := by decide +kernel
theorem dJ2_putChar_b72d1_6 : decode cJ2_putChar_b72d1 6 = .ok (.iload_n 1, 1) := by decide +kernel
theorem dJ2_putChar_b72d1_7 : decode cJ2_putChar_b72d1 7 = .ok (.ifCond .lt 11, 3) := by decide +kernel
theorem dJ2_putChar_b72d1_10 : decode cJ2_putChar_b72d1 10 = .ok (.iload_n 1, 1) := by decide +kernel
theorem dJ2_putChar_b72d1_11 : decode cJ2_putChar_b72d1 11 = .ok (.aload_n 0, 1) := by decide +kernel
theorem dJ2_putChar_b72d1_12 : decode cJ2_putChar_b72d1 12 = .ok (.invokestatic 48, 3) := by decide +kernel
theorem dJ2_putChar_b72d1_15 : decode cJ2_putChar_b72d1 15 = .ok (.if_icmp .lt 13, 3) := by decide +kernel
theorem dJ2_putChar_b72d1_18 : decode cJ2_putChar_b72d1 18 = .ok (.new 52, 3) := by decide +kernel
theorem dJ2_putChar_b72d1_21 : decode cJ2_putChar_b72d1 21 = .ok (.dup, 1) := by decide +kernel
theorem dJ2_putChar_b72d1_22 : decode cJ2_putChar_b72d1 22 = .ok (.ldc 54, 2) := by decide +kernel
theorem dJ2_putChar_b72d1_24 : decode cJ2_putChar_b72d1 24 = .ok (.invokespecial 56, 3) := by decide +kernel
theorem dJ2_putChar_b72d1_27 : decode cJ2_putChar_b72d1 27 = .ok (.athrow, 1) := by decide +kernel
theorem dJ2_putChar_b72d1_28 : decode cJ2_putChar_b72d1 28 = .ok (.iload_n 1, 1) := by decide +kernel
theorem dJ2_putChar_b72d1_29 : decode cJ2_putChar_b72d1 29 = .ok (.iconst 1, 1) := by decide +kernel
theorem dJ2_putChar_b72d1_30 : decode cJ2_putChar_b72d1 30 = .ok (.ishl, 1) := by decide +kernel
theorem dJ2_putChar_b72d1_31 : decode cJ2_putChar_b72d1 31 = .ok (.istore_n 1, 1) := by decide +kernel
theorem dJ2_putChar_b72d1_32 : decode cJ2_putChar_b72d1 32 = .ok (.aload_n 0, 1) := by decide +kernel
theorem dJ2_putChar_b72d1_33 : decode cJ2_putChar_b72d1 33 = .ok (.iload_n 1, 1) := by decide +kernel
theorem dJ2_putChar_b72d1_34 : decode cJ2_putChar_b72d1 34 = .ok (.iinc 1 1, 3) := by decide +kernel
theorem dJ2_putChar_b72d1_37 : decode cJ2_putChar_b72d1 37 = .ok (.iload_n 2, 1) := by decide +kernel
theorem dJ2_putChar_b72d1_38 : decode cJ2_putChar_b72d1 38 = .ok (.getstatic 59, 3) := by decide +kernel
theorem dJ2_putChar_b72d1_41 : decode cJ2_putChar_b72d1 41 = .ok (.ishr, 1) := by decide +kernel
theorem dJ2_putChar_b72d1_42 : decode cJ2_putChar_b72d1 42 = .ok (.i2b, 1) := by decide +kernel
theorem dJ2_putChar_b72d1_43 : decode cJ2_putChar_b72d1 43 = .ok (.bastore, 1) := by decide +kernel
theorem dJ2_putChar_b72d1_44 : decode cJ2_putChar_b72d1 44 = .ok (.aload_n 0, 1) := by decide +kernel
theorem dJ2_putChar_b72d1_45 : decode cJ2_putChar_b72d1 45 = .ok (.iload_n 1, 1) := by decide +kernel
theorem dJ2_putChar_b72d1_46 : decode cJ2_putChar_b72d1 46 = .ok (.iload_n 2, 1) := by decide +kernel
theorem dJ2_putChar_b72d1_47 : decode cJ2_putChar_b72d1 47 = .ok (.getstatic 63, 3) := by decide +kernel
theorem dJ2_putChar_b72d1_50 : decode cJ2_putChar_b72d1 50 = .ok (.ishr, 1) := by decide +kernel
theorem dJ2_putChar_b72d1_51 : decode cJ2_putChar_b72d1 51 = .ok (.i2b, 1) := by decide +kernel
theorem dJ2_putChar_b72d1_52 : decode cJ2_putChar_b72d1 52 = .ok (.bastore, 1) := by decide +kernel
theorem dJ2_putChar_b72d1_53 : decode cJ2_putChar_b72d1 53 = .ok (.return_, 1) := by decide +kernel
theorem dJ2_getChar_3b067_0 : decode cJ2_getChar_3b067 0 = .ok (.getstatic 44, 3) := by decide +kernel
theorem dJ2_getChar_3b067_3 : decode cJ2_getChar_3b067 3 = .ok (.ifCond .ne 25, 3) := by decide +kernel
theorem dJ2_getChar_3b067_6 : decode cJ2_getChar_3b067 6 = .ok (.iload_n 1, 1) := by decide +kernel
theorem dJ2_getChar_3b067_7 : decode cJ2_getChar_3b067 7 = .ok (.ifCond .lt 11, 3) := by decide +kernel
theorem dJ2_getChar_3b067_10 : decode cJ2_getChar_3b067 10 = .ok (.iload_n 1, 1) := by decide +kernel
theorem dJ2_getChar_3b067_11 : decode cJ2_getChar_3b067 11 = .ok (.aload_n 0, 1) := by decide +kernel
theorem dJ2_getChar_3b067_12 : decode cJ2_getChar_3b067 12 = .ok (.invokestatic 48, 3) := by decide +kernel
theorem dJ2_getChar_3b067_15 : decode cJ2_getChar_3b067 15 = .ok (.if_icmp .lt 13, 3) := by decide +kernel
theorem dJ2_getChar_3b067_18 : decode cJ2_getChar_3b067 18 = .ok (.new 52, 3) := by decide +kernel
theorem dJ2_getChar_3b067_21 : decode cJ2_getChar_3b067 21 = .ok (.dup, 1) := by decide +kernel
theorem dJ2_getChar_3b067_22 : decode cJ2_getChar_3b067 22 = .ok (.ldc 54, 2) := by decide +kernel
theorem dJ2_getChar_3b067_24 : decode cJ2_getChar_3b067 24 = .ok (.invokespecial 56, 3) := by decide +kernel
theorem dJ2_getChar_3b067_27 : decode cJ2_getChar_3b067 27 = .ok (.athrow, 1) := by decide +kernel
theorem dJ2_getChar_3b067_28 : decode cJ2_getChar_3b067 28 = .ok (.iload_n 1, 1) := by decide +kernel
theorem dJ2_getChar_3b067_29 : decode cJ2_getChar_3b067 29 = .ok (.iconst 1, 1) := by decide +kernel
theorem dJ2_getChar_3b067_30 : decode cJ2_getChar_3b067 30 = .ok (.ishl, 1) := by decide +kernel
theorem dJ2_getChar_3b067_31 : decode cJ2_getChar_3b067 31 = .ok (.istore_n 1, 1) := by decide +kernel
theorem dJ2_getChar_3b067_32 : decode cJ2_getChar_3b067 32 = .ok (.aload_n 0, 1) := by decide +kernel
theorem dJ2_getChar_3b067_33 : decode cJ2_getChar_3b067 33 = .ok (.iload_n 1, 1) := by decide +kernel
theorem dJ2_getChar_3b067_34 : decode cJ2_getChar_3b067 34 = .ok (.iinc 1 1, 3) := by decide +kernel
theorem dJ2_getChar_3b067_37 : decode cJ2_getChar_3b067 37 = .ok (.baload, 1) := by decide +kernel
theorem dJ2_getChar_3b067_38 : decode cJ2_getChar_3b067 38 = .ok (.sipush 255, 3) := by decide +kernel
theorem dJ2_getChar_3b067_41 : decode cJ2_getChar_3b067 41 = .ok (.iand, 1) := by decide +kernel
theorem dJ2_getChar_3b067_42 : decode cJ2_getChar_3b067 42 = .ok (.getstatic 59, 3) := by decide +kernel
theorem dJ2_getChar_3b067_45 : decode cJ2_getChar_3b067 45 = .ok (.ishl, 1) := by decide +kernel
theorem dJ2_getChar_3b067_46 : decode cJ2_getChar_3b067 46 = .ok (.aload_n 0, 1) := by decide +kernel
theorem dJ2_getChar_3b067_47 : decode cJ2_getChar_3b067 47 = .ok (.iload_n 1, 1) := by decide +kernel
theorem dJ2_getChar_3b067_48 : decode cJ2_getChar_3b067 48 = .ok (.baload, 1) := by decide +kernel
theorem dJ2_getChar_3b067_49 : decode cJ2_getChar_3b067 49 = .ok (.sipush 255, 3) := by decide +kernel
theorem dJ2_getChar_3b067_52 : decode cJ2_getChar_3b067 52 = .ok (.iand, 1) := by decide +kernel
theorem dJ2_getChar_3b067_53 : decode cJ2_getChar_3b067 53 = .ok (.getstatic 63, 3) := by decide +kernel
theorem dJ2_getChar_3b067_56 : decode cJ2_getChar_3b067 56 = .ok (.ishl, 1) := by decide +kernel
theorem dJ2_getChar_3b067_57 : decode cJ2_getChar_3b067 57 = .ok (.ior, 1) := by decide +kernel
theorem dJ2_getChar_3b067_58 : decode cJ2_getChar_3b067 58 = .ok (.i2c, 1) := by decide +kernel
theorem dJ2_getChar_3b067_59 : decode cJ2_getChar_3b067 59 = .ok (.ireturn, 1) := by decide +kernel
theorem dJ2_length_9d52b_0 : decode cJ2_length_9d52b 0 = .ok (.aload_n 0, 1) := by decide +kernel
theorem dJ2_length_9d52b_1 : decode cJ2_length_9d52b 1 = .ok (.arraylength, 1) := by decide +kernel
theorem dJ2_length_9d52b_2 : decode cJ2_length_9d52b 2 = .ok (.iconst 1, 1) := by decide +kernel
theorem dJ2_length_9d52b_3 : decode cJ2_length_9d52b 3 = .ok (.ishr, 1) := by decide +kernel
theorem dJ2_length_9d52b_4 : decode cJ2_length_9d52b 4 = .ok (.ireturn, 1) := by decide +kernel
theorem dJ2_coderFromArrayLen_85cad_0 : decode cJ2_coderFromArrayLen_85cad 0 = .ok (.iload_n 1, 1) := by decide +kernel
theorem dJ2_coderFromArrayLen_85cad_1 : decode cJ2_coderFromArrayLen_85cad 1 = .ok (.aload_n 0, 1) := by decide +kernel
theorem dJ2_coderFromArrayLen_85cad_2 : decode cJ2_coderFromArrayLen_85cad 2 = .ok (.arraylength, 1) := by decide +kernel
theorem dJ2_coderFromArrayLen_85cad_3 : decode cJ2_coderFromArrayLen_85cad 3 = .ok (.isub, 1) := by decide +kernel
theorem dJ2_coderFromArrayLen_85cad_4 : decode cJ2_coderFromArrayLen_85cad 4 = .ok (.bipush 31, 2) := by decide +kernel
theorem dJ2_coderFromArrayLen_85cad_6 : decode cJ2_coderFromArrayLen_85cad 6 = .ok (.iushr, 1) := by decide +kernel
theorem dJ2_coderFromArrayLen_85cad_7 : decode cJ2_coderFromArrayLen_85cad 7 = .ok (.i2b, 1) := by decide +kernel
theorem dJ2_coderFromArrayLen_85cad_8 : decode cJ2_coderFromArrayLen_85cad 8 = .ok (.ireturn, 1) := by decide +kernel
theorem dJ2_compress_39247_0 : decode cJ2_compress_39247 0 = .ok (.iload_n 2, 1) := by decide +kernel
theorem dJ2_compress_39247_1 : decode cJ2_compress_39247 1 = .ok (.newarray .byte, 2) := by decide +kernel
theorem dJ2_compress_39247_3 : decode cJ2_compress_39247 3 = .ok (.astore_n 3, 1) := by decide +kernel
theorem dJ2_compress_39247_4 : decode cJ2_compress_39247 4 = .ok (.aload_n 0, 1) := by decide +kernel
theorem dJ2_compress_39247_5 : decode cJ2_compress_39247 5 = .ok (.iload_n 1, 1) := by decide +kernel
theorem dJ2_compress_39247_6 : decode cJ2_compress_39247 6 = .ok (.aload_n 3, 1) := by decide +kernel
theorem dJ2_compress_39247_7 : decode cJ2_compress_39247 7 = .ok (.iconst 0, 1) := by decide +kernel
theorem dJ2_compress_39247_8 : decode cJ2_compress_39247 8 = .ok (.iload_n 2, 1) := by decide +kernel
theorem dJ2_compress_39247_9 : decode cJ2_compress_39247 9 = .ok (.invokestatic 123, 3) := by decide +kernel
theorem dJ2_compress_39247_12 : decode cJ2_compress_39247 12 = .ok (.istore 4, 2) := by decide +kernel
theorem dJ2_compress_39247_14 : decode cJ2_compress_39247 14 = .ok (.iload 4, 2) := by decide +kernel
theorem dJ2_compress_39247_16 : decode cJ2_compress_39247 16 = .ok (.iload_n 2, 1) := by decide +kernel
theorem dJ2_compress_39247_17 : decode cJ2_compress_39247 17 = .ok (.if_icmp .eq 47, 3) := by decide +kernel
theorem dJ2_compress_39247_20 : decode cJ2_compress_39247 20 = .ok (.aload_n 0, 1) := by decide +kernel
theorem dJ2_compress_39247_21 : decode cJ2_compress_39247 21 = .ok (.iload_n 1, 1) := by decide +kernel
theorem dJ2_compress_39247_22 : decode cJ2_compress_39247 22 = .ok (.iconst 1, 1) := by decide +kernel
theorem dJ2_compress_39247_23 : decode cJ2_compress_39247 23 = .ok (.ishl, 1) := by decide +kernel
theorem dJ2_compress_39247_24 : decode cJ2_compress_39247 24 = .ok (.iload_n 1, 1) := by decide +kernel
theorem dJ2_compress_39247_25 : decode cJ2_compress_39247 25 = .ok (.iload_n 2, 1) := by decide +kernel
theorem dJ2_compress_39247_26 : decode cJ2_compress_39247 26 = .ok (.iadd, 1) := by decide +kernel
theorem dJ2_compress_39247_27 : decode cJ2_compress_39247 27 = .ok (.invokestatic 11, 3) := by decide +kernel
theorem dJ2_compress_39247_30 : decode cJ2_compress_39247 30 = .ok (.invokestatic 126, 3) := by decide +kernel
theorem dJ2_compress_39247_33 : decode cJ2_compress_39247 33 = .ok (.astore 5, 2) := by decide +kernel
theorem dJ2_compress_39247_35 : decode cJ2_compress_39247 35 = .ok (.aload 5, 2) := by decide +kernel
theorem dJ2_compress_39247_37 : decode cJ2_compress_39247 37 = .ok (.iload 4, 2) := by decide +kernel
theorem dJ2_compress_39247_39 : decode cJ2_compress_39247 39 = .ok (.invokestatic 71, 3) := by decide +kernel
theorem dJ2_compress_39247_42 : decode cJ2_compress_39247 42 = .ok (.sipush 255, 3) := by decide +kernel
theorem dJ2_compress_39247_45 : decode cJ2_compress_39247 45 = .ok (.if_icmp .gt 16, 3) := by decide +kernel
theorem dJ2_compress_39247_48 : decode cJ2_compress_39247 48 = .ok (.aload 5, 2) := by decide +kernel
theorem dJ2_compress_39247_50 : decode cJ2_compress_39247 50 = .ok (.iconst 0, 1) := by decide +kernel
theorem dJ2_compress_39247_51 : decode cJ2_compress_39247 51 = .ok (.aload_n 3, 1) := by decide +kernel
theorem dJ2_compress_39247_52 : decode cJ2_compress_39247 52 = .ok (.iconst 0, 1) := by decide +kernel
theorem dJ2_compress_39247_53 : decode cJ2_compress_39247 53 = .ok (.iload_n 2, 1) := by decide +kernel
theorem dJ2_compress_39247_54 : decode cJ2_compress_39247 54 = .ok (.invokestatic 123, 3) := by decide +kernel
theorem dJ2_compress_39247_57 : decode cJ2_compress_39247 57 = .ok (.iload_n 2, 1) := by decide +kernel
theorem dJ2_compress_39247_58 : decode cJ2_compress_39247 58 = .ok (.if_icmp .eq 6, 3) := by decide +kernel
theorem dJ2_compress_39247_61 : decode cJ2_compress_39247 61 = .ok (.aload 5, 2) := by decide +kernel
theorem dJ2_compress_39247_63 : decode cJ2_compress_39247 63 = .ok (.areturn, 1) := by decide +kernel
theorem dJ2_compress_39247_64 : decode cJ2_compress_39247 64 = .ok (.aload_n 3, 1) := by decide +kernel
theorem dJ2_compress_39247_65 : decode cJ2_compress_39247 65 = .ok (.areturn, 1) := by decide +kernel
theorem dJ2_compress_5af95_0 : decode cJ2_compress_5af95 0 = .ok (.iload_n 1, 1) := by decide +kernel
theorem dJ2_compress_5af95_1 : decode cJ2_compress_5af95 1 = .ok (.iload 4, 2) := by decide +kernel
theorem dJ2_compress_5af95_3 : decode cJ2_compress_5af95 3 = .ok (.aload_n 0, 1) := by decide +kernel
theorem dJ2_compress_5af95_4 : decode cJ2_compress_5af95 4 = .ok (.invokestatic 173, 3) := by decide +kernel
theorem dJ2_compress_5af95_7 : decode cJ2_compress_5af95 7 = .ok (.iconst 0, 1) := by decide +kernel
theorem dJ2_compress_5af95_8 : decode cJ2_compress_5af95 8 = .ok (.istore 5, 2) := by decide +kernel
theorem dJ2_compress_5af95_10 : decode cJ2_compress_5af95 10 = .ok (.iload 5, 2) := by decide +kernel
theorem dJ2_compress_5af95_12 : decode cJ2_compress_5af95 12 = .ok (.iload 4, 2) := by decide +kernel
theorem dJ2_compress_5af95_14 : decode cJ2_compress_5af95 14 = .ok (.if_icmp .ge 39, 3) := by decide +kernel
theorem dJ2_compress_5af95_17 : decode cJ2_compress_5af95 17 = .ok (.aload_n 0, 1) := by decide +kernel
theorem dJ2_compress_5af95_18 : decode cJ2_compress_5af95 18 = .ok (.iload_n 1, 1) := by decide +kernel
theorem dJ2_compress_5af95_19 : decode cJ2_compress_5af95 19 = .ok (.invokestatic 71, 3) := by decide +kernel
theorem dJ2_compress_5af95_22 : decode cJ2_compress_5af95 22 = .ok (.istore 6, 2) := by decide +kernel
theorem dJ2_compress_5af95_24 : decode cJ2_compress_5af95 24 = .ok (.iload 6, 2) := by decide +kernel
theorem dJ2_compress_5af95_26 : decode cJ2_compress_5af95 26 = .ok (.sipush 255, 3) := by decide +kernel
theorem dJ2_compress_5af95_29 : decode cJ2_compress_5af95 29 = .ok (.if_icmp .le 6, 3) := by decide +kernel
theorem dJ2_compress_5af95_32 : decode cJ2_compress_5af95 32 = .ok (.iload 5, 2) := by decide +kernel
theorem dJ2_compress_5af95_34 : decode cJ2_compress_5af95 34 = .ok (.ireturn, 1) := by decide +kernel
theorem dJ2_compress_5af95_35 : decode cJ2_compress_5af95 35 = .ok (.aload_n 2, 1) := by decide +kernel
theorem dJ2_compress_5af95_36 : decode cJ2_compress_5af95 36 = .ok (.iload_n 3, 1) := by decide +kernel
theorem dJ2_compress_5af95_37 : decode cJ2_compress_5af95 37 = .ok (.iload 6, 2) := by decide +kernel
theorem dJ2_compress_5af95_39 : decode cJ2_compress_5af95 39 = .ok (.i2b, 1) := by decide +kernel
theorem dJ2_compress_5af95_40 : decode cJ2_compress_5af95 40 = .ok (.bastore, 1) := by decide +kernel
theorem dJ2_compress_5af95_41 : decode cJ2_compress_5af95 41 = .ok (.iinc 1 1, 3) := by decide +kernel
theorem dJ2_compress_5af95_44 : decode cJ2_compress_5af95 44 = .ok (.iinc 3 1, 3) := by decide +kernel
theorem dJ2_compress_5af95_47 : decode cJ2_compress_5af95 47 = .ok (.iinc 5 1, 3) := by decide +kernel
theorem dJ2_compress_5af95_50 : decode cJ2_compress_5af95 50 = .ok (.goto (-40), 3) := by decide +kernel
theorem dJ2_compress_5af95_53 : decode cJ2_compress_5af95 53 = .ok (.iload 4, 2) := by decide +kernel
theorem dJ2_compress_5af95_55 : decode cJ2_compress_5af95 55 = .ok (.ireturn, 1) := by decide +kernel
theorem dJ2_getChars_46870_0 : decode cJ2_getChars_46870 0 = .ok (.iload_n 1, 1) := by decide +kernel
theorem dJ2_getChars_46870_1 : decode cJ2_getChars_46870 1 = .ok (.iload_n 2, 1) := by decide +kernel
theorem dJ2_getChars_46870_2 : decode cJ2_getChars_46870 2 = .ok (.aload_n 3, 1) := by decide +kernel
theorem dJ2_getChars_46870_3 : decode cJ2_getChars_46870 3 = .ok (.invokestatic 96, 3) := by decide +kernel
theorem dJ2_getChars_46870_6 : decode cJ2_getChars_46870 6 = .ok (.iload_n 0, 1) := by decide +kernel
theorem dJ2_getChars_46870_7 : decode cJ2_getChars_46870 7 = .ok (.iload_n 2, 1) := by decide +kernel
theorem dJ2_getChars_46870_8 : decode cJ2_getChars_46870 8 = .ok (.aload_n 3, 1) := by decide +kernel
theorem dJ2_getChars_46870_9 : decode cJ2_getChars_46870 9 = .ok (.invokestatic 393, 3) := by decide +kernel
theorem dJ2_getChars_46870_12 : decode cJ2_getChars_46870 12 = .ok (.istore 4, 2) := by decide +kernel
theorem dJ2_getChars_46870_14 : decode cJ2_getChars_46870 14 = .ok (.getstatic 44, 3) := by decide +kernel
theorem dJ2_getChars_46870_17 : decode cJ2_getChars_46870 17 = .ok (.ifCond .ne 17, 3) := by decide +kernel
theorem dJ2_getChars_46870_20 : decode cJ2_getChars_46870 20 = .ok (.iload_n 1, 1) := by decide +kernel
theorem dJ2_getChars_46870_21 : decode cJ2_getChars_46870 21 = .ok (.iload 4, 2) := by decide +kernel
theorem dJ2_getChars_46870_23 : decode cJ2_getChars_46870 23 = .ok (.if_icmp .eq 11, 3) := by decide +kernel
theorem dJ2_getChars_46870_26 : decode cJ2_getChars_46870 26 = .ok (.new 52, 3) := by decide +kernel
theorem dJ2_getChars_46870_29 : decode cJ2_getChars_46870 29 = .ok (.dup, 1) := by decide +kernel
theorem dJ2_getChars_46870_30 : decode cJ2_getChars_46870 30 = .ok (.invokespecial 66, 3) := by decide +kernel
theorem dJ2_getChars_46870_33 : decode cJ2_getChars_46870 33 = .ok (.athrow, 1) := by decide +kernel
theorem dJ2_getChars_46870_34 : decode cJ2_getChars_46870 34 = .ok (.iload 4, 2) := by decide +kernel
theorem dJ2_getChars_46870_36 : decode cJ2_getChars_46870 36 = .ok (.ireturn, 1) := by decide +kernel
theorem dJ2_putCharsAt_cd4e5_0 : decode cJ2_putCharsAt_cd4e5 0 = .ok (.iload_n 1, 1) := by decide +kernel
theorem dJ2_putCharsAt_cd4e5_1 : decode cJ2_putCharsAt_cd4e5 1 = .ok (.iconst 4, 1) := by decide +kernel
theorem dJ2_putCharsAt_cd4e5_2 : decode cJ2_putCharsAt_cd4e5 2 = .ok (.iadd, 1) := by decide +kernel
theorem dJ2_putCharsAt_cd4e5_3 : decode cJ2_putCharsAt_cd4e5 3 = .ok (.istore 6, 2) := by decide +kernel
theorem dJ2_putCharsAt_cd4e5_5 : decode cJ2_putCharsAt_cd4e5 5 = .ok (.iload_n 1, 1) := by decide +kernel
theorem dJ2_putCharsAt_cd4e5_6 : decode cJ2_putCharsAt_cd4e5 6 = .ok (.iload 6, 2) := by decide +kernel
theorem dJ2_putCharsAt_cd4e5_8 : decode cJ2_putCharsAt_cd4e5 8 = .ok (.aload_n 0, 1) := by decide +kernel
theorem dJ2_putCharsAt_cd4e5_9 : decode cJ2_putCharsAt_cd4e5 9 = .ok (.invokestatic 96, 3) := by decide +kernel
theorem dJ2_putCharsAt_cd4e5_12 : decode cJ2_putCharsAt_cd4e5 12 = .ok (.aload_n 0, 1) := by decide +kernel
theorem dJ2_putCharsAt_cd4e5_13 : decode cJ2_putCharsAt_cd4e5 13 = .ok (.iload_n 1, 1) := by decide +kernel
theorem dJ2_putCharsAt_cd4e5_14 : decode cJ2_putCharsAt_cd4e5 14 = .ok (.iinc 1 1, 3) := by decide +kernel
theorem dJ2_putCharsAt_cd4e5_17 : decode cJ2_putCharsAt_cd4e5 17 = .ok (.iload_n 2, 1) := by decide +kernel
theorem dJ2_putCharsAt_cd4e5_18 : decode cJ2_putCharsAt_cd4e5 18 = .ok (.invokestatic 111, 3) := by decide +kernel
theorem dJ2_putCharsAt_cd4e5_21 : decode cJ2_putCharsAt_cd4e5 21 = .ok (.aload_n 0, 1) := by decide +kernel
theorem dJ2_putCharsAt_cd4e5_22 : decode cJ2_putCharsAt_cd4e5 22 = .ok (.iload_n 1, 1) := by decide +kernel
theorem dJ2_putCharsAt_cd4e5_23 : decode cJ2_putCharsAt_cd4e5 23 = .ok (.iinc 1 1, 3) := by decide +kernel
theorem dJ2_putCharsAt_cd4e5_26 : decode cJ2_putCharsAt_cd4e5 26 = .ok (.iload_n 3, 1) := by decide +kernel
theorem dJ2_putCharsAt_cd4e5_27 : decode cJ2_putCharsAt_cd4e5 27 = .ok (.invokestatic 111, 3) := by decide +kernel
theorem dJ2_putCharsAt_cd4e5_30 : decode cJ2_putCharsAt_cd4e5 30 = .ok (.aload_n 0, 1) := by decide +kernel
theorem dJ2_putCharsAt_cd4e5_31 : decode cJ2_putCharsAt_cd4e5 31 = .ok (.iload_n 1, 1) := by decide +kernel
theorem dJ2_putCharsAt_cd4e5_32 : decode cJ2_putCharsAt_cd4e5 32 = .ok (.iinc 1 1, 3) := by decide +kernel
theorem dJ2_putCharsAt_cd4e5_35 : decode cJ2_putCharsAt_cd4e5 35 = .ok (.iload 4, 2) := by decide +kernel
theorem dJ2_putCharsAt_cd4e5_37 : decode cJ2_putCharsAt_cd4e5 37 = .ok (.invokestatic 111, 3) := by decide +kernel
theorem dJ2_putCharsAt_cd4e5_40 : decode cJ2_putCharsAt_cd4e5 40 = .ok (.aload_n 0, 1) := by decide +kernel
theorem dJ2_putCharsAt_cd4e5_41 : decode cJ2_putCharsAt_cd4e5 41 = .ok (.iload_n 1, 1) := by decide +kernel
theorem dJ2_putCharsAt_cd4e5_42 : decode cJ2_putCharsAt_cd4e5 42 = .ok (.iinc 1 1, 3) := by decide +kernel
theorem dJ2_putCharsAt_cd4e5_45 : decode cJ2_putCharsAt_cd4e5 45 = .ok (.iload 5, 2) := by decide +kernel
theorem dJ2_putCharsAt_cd4e5_47 : decode cJ2_putCharsAt_cd4e5 47 = .ok (.invokestatic 111, 3) := by decide +kernel
theorem dJ2_putCharsAt_cd4e5_50 : decode cJ2_putCharsAt_cd4e5 50 = .ok (.getstatic 44, 3) := by decide +kernel
theorem dJ2_putCharsAt_cd4e5_53 : decode cJ2_putCharsAt_cd4e5 53 = .ok (.ifCond .ne 17, 3) := by decide +kernel
theorem dJ2_putCharsAt_cd4e5_56 : decode cJ2_putCharsAt_cd4e5 56 = .ok (.iload_n 1, 1) := by decide +kernel
theorem dJ2_putCharsAt_cd4e5_57 : decode cJ2_putCharsAt_cd4e5 57 = .ok (.iload 6, 2) := by decide +kernel
theorem dJ2_putCharsAt_cd4e5_59 : decode cJ2_putCharsAt_cd4e5 59 = .ok (.if_icmp .eq 11, 3) := by decide +kernel
theorem dJ2_putCharsAt_cd4e5_62 : decode cJ2_putCharsAt_cd4e5 62 = .ok (.new 52, 3) := by decide +kernel
theorem dJ2_putCharsAt_cd4e5_65 : decode cJ2_putCharsAt_cd4e5 65 = .ok (.dup, 1) := by decide +kernel
theorem dJ2_putCharsAt_cd4e5_66 : decode cJ2_putCharsAt_cd4e5 66 = .ok (.invokespecial 66, 3) := by decide +kernel
theorem dJ2_putCharsAt_cd4e5_69 : decode cJ2_putCharsAt_cd4e5 69 = .ok (.athrow, 1) := by decide +kernel
theorem dJ2_putCharsAt_cd4e5_70 : decode cJ2_putCharsAt_cd4e5 70 = .ok (.iload 6, 2) := by decide +kernel
theorem dJ2_putCharsAt_cd4e5_72 : decode cJ2_putCharsAt_cd4e5 72 = .ok (.ireturn, 1) := by decide +kernel
theorem dJ2_charAt_3b067_0 : decode cJ2_charAt_3b067 0 = .ok (.iload_n 1, 1) := by decide +kernel
theorem dJ2_charAt_3b067_1 : decode cJ2_charAt_3b067 1 = .ok (.aload_n 0, 1) := by decide +kernel
theorem dJ2_charAt_3b067_2 : decode cJ2_charAt_3b067 2 = .ok (.invokestatic 67, 3) := by decide +kernel
theorem dJ2_charAt_3b067_5 : decode cJ2_charAt_3b067 5 = .ok (.aload_n 0, 1) := by decide +kernel
theorem dJ2_charAt_3b067_6 : decode cJ2_charAt_3b067 6 = .ok (.iload_n 1, 1) := by decide +kernel
theorem dJ2_charAt_3b067_7 : decode cJ2_charAt_3b067 7 = .ok (.invokestatic 71, 3) := by decide +kernel
theorem dJ2_charAt_3b067_10 : decode cJ2_charAt_3b067 10 = .ok (.ireturn, 1) := by decide +kernel
theorem dJ2_inflate_0e8fd_0 : decode cJ2_inflate_0e8fd 0 = .ok (.iload_n 3, 1) := by decide +kernel
theorem dJ2_inflate_0e8fd_1 : decode cJ2_inflate_0e8fd 1 = .ok (.iload 4, 2) := by decide +kernel
theorem dJ2_inflate_0e8fd_3 : decode cJ2_inflate_0e8fd 3 = .ok (.aload_n 2, 1) := by decide +kernel
theorem dJ2_inflate_0e8fd_4 : decode cJ2_inflate_0e8fd 4 = .ok (.invokestatic 173, 3) := by decide +kernel
theorem dJ2_inflate_0e8fd_7 : decode cJ2_inflate_0e8fd 7 = .ok (.iconst 0, 1) := by decide +kernel
theorem dJ2_inflate_0e8fd_8 : decode cJ2_inflate_0e8fd 8 = .ok (.istore 5, 2) := by decide +kernel
theorem dJ2_inflate_0e8fd_10 : decode cJ2_inflate_0e8fd 10 = .ok (.iload 5, 2) := by decide +kernel
theorem dJ2_inflate_0e8fd_12 : decode cJ2_inflate_0e8fd 12 = .ok (.iload 4, 2) := by decide +kernel
theorem dJ2_inflate_0e8fd_14 : decode cJ2_inflate_0e8fd 14 = .ok (.if_icmp .ge 27, 3) := by decide +kernel
theorem dJ2_inflate_0e8fd_17 : decode cJ2_inflate_0e8fd 17 = .ok (.aload_n 2, 1) := by decide +kernel
theorem dJ2_inflate_0e8fd_18 : decode cJ2_inflate_0e8fd 18 = .ok (.iload_n 3, 1) := by decide +kernel
theorem dJ2_inflate_0e8fd_19 : decode cJ2_inflate_0e8fd 19 = .ok (.iinc 3 1, 3) := by decide +kernel
theorem dJ2_inflate_0e8fd_22 : decode cJ2_inflate_0e8fd 22 = .ok (.aload_n 0, 1) := by decide +kernel
theorem dJ2_inflate_0e8fd_23 : decode cJ2_inflate_0e8fd 23 = .ok (.iload_n 1, 1) := by decide +kernel
theorem dJ2_inflate_0e8fd_24 : decode cJ2_inflate_0e8fd 24 = .ok (.iinc 1 1, 3) := by decide +kernel
theorem dJ2_inflate_0e8fd_27 : decode cJ2_inflate_0e8fd 27 = .ok (.baload, 1) := by decide +kernel
theorem dJ2_inflate_0e8fd_28 : decode cJ2_inflate_0e8fd 28 = .ok (.sipush 255, 3) := by decide +kernel
theorem dJ2_inflate_0e8fd_31 : decode cJ2_inflate_0e8fd 31 = .ok (.iand, 1) := by decide +kernel
theorem dJ2_inflate_0e8fd_32 : decode cJ2_inflate_0e8fd 32 = .ok (.invokestatic 111, 3) := by decide +kernel
theorem dJ2_inflate_0e8fd_35 : decode cJ2_inflate_0e8fd 35 = .ok (.iinc 5 1, 3) := by decide +kernel
theorem dJ2_inflate_0e8fd_38 : decode cJ2_inflate_0e8fd 38 = .ok (.goto (-28), 3) := by decide +kernel
theorem dJ2_inflate_0e8fd_41 : decode cJ2_inflate_0e8fd 41 = .ok (.return_, 1) := by decide +kernel
theorem dJ2_getChars_ba4f3_0 : decode cJ2_getChars_ba4f3 0 = .ok (.iload_n 1, 1) := by decide +kernel
theorem dJ2_getChars_ba4f3_1 : decode cJ2_getChars_ba4f3 1 = .ok (.istore 5, 2) := by decide +kernel
theorem dJ2_getChars_ba4f3_3 : decode cJ2_getChars_ba4f3 3 = .ok (.iload_n 0, 1) := by decide +kernel
theorem dJ2_getChars_ba4f3_4 : decode cJ2_getChars_ba4f3 4 = .ok (.ifCond .ge 7, 3) := by decide +kernel
theorem dJ2_getChars_ba4f3_7 : decode cJ2_getChars_ba4f3 7 = .ok (.iconst 1, 1) := by decide +kernel
theorem dJ2_getChars_ba4f3_8 : decode cJ2_getChars_ba4f3 8 = .ok (.goto 4, 3) := by decide +kernel
theorem dJ2_getChars_ba4f3_11 : decode cJ2_getChars_ba4f3 11 = .ok (.iconst 0, 1) := by decide +kernel
theorem dJ2_getChars_ba4f3_12 : decode cJ2_getChars_ba4f3 12 = .ok (.istore 6, 2) := by decide +kernel
theorem dJ2_getChars_ba4f3_14 : decode cJ2_getChars_ba4f3 14 = .ok (.iload 6, 2) := by decide +kernel
theorem dJ2_getChars_ba4f3_16 : decode cJ2_getChars_ba4f3 16 = .ok (.ifCond .ne 6, 3) := by decide +kernel
theorem dJ2_getChars_ba4f3_19 : decode cJ2_getChars_ba4f3 19 = .ok (.iload_n 0, 1) := by decide +kernel
theorem dJ2_getChars_ba4f3_20 : decode cJ2_getChars_ba4f3 20 = .ok (.ineg, 1) := by decide +kernel
theorem dJ2_getChars_ba4f3_21 : decode cJ2_getChars_ba4f3 21 = .ok (.istore_n 0, 1) := by decide +kernel
theorem dJ2_getChars_ba4f3_22 : decode cJ2_getChars_ba4f3 22 = .ok (.iload_n 0, 1) := by decide +kernel
theorem dJ2_getChars_ba4f3_23 : decode cJ2_getChars_ba4f3 23 = .ok (.bipush (-100), 2) := by decide +kernel
theorem dJ2_getChars_ba4f3_25 : decode cJ2_getChars_ba4f3 25 = .ok (.if_icmp .gt 51, 3) := by decide +kernel
theorem dJ2_getChars_ba4f3_28 : decode cJ2_getChars_ba4f3 28 = .ok (.iload_n 0, 1) := by decide +kernel
theorem dJ2_getChars_ba4f3_29 : decode cJ2_getChars_ba4f3 29 = .ok (.bipush 100, 2) := by decide +kernel
theorem dJ2_getChars_ba4f3_31 : decode cJ2_getChars_ba4f3 31 = .ok (.idiv, 1) := by decide +kernel
theorem dJ2_getChars_ba4f3_32 : decode cJ2_getChars_ba4f3 32 = .ok (.istore_n 3, 1) := by decide +kernel
theorem dJ2_getChars_ba4f3_33 : decode cJ2_getChars_ba4f3 33 = .ok (.iload_n 3, 1) := by decide +kernel
theorem dJ2_getChars_ba4f3_34 : decode cJ2_getChars_ba4f3 34 = .ok (.bipush 100, 2) := by decide +kernel
theorem dJ2_getChars_ba4f3_36 : decode cJ2_getChars_ba4f3 36 = .ok (.imul, 1) := by decide +kernel
theorem dJ2_getChars_ba4f3_37 : decode cJ2_getChars_ba4f3 37 = .ok (.iload_n 0, 1) := by decide +kernel
theorem dJ2_getChars_ba4f3_38 : decode cJ2_getChars_ba4f3 38 = .ok (.isub, 1) := by decide +kernel
theorem dJ2_getChars_ba4f3_39 : decode cJ2_getChars_ba4f3 39 = .ok (.istore 4, 2) := by decide +kernel
theorem dJ2_getChars_ba4f3_41 : decode cJ2_getChars_ba4f3 41 = .ok (.iload_n 3, 1) := by decide +kernel
theorem dJ2_getChars_ba4f3_42 : decode cJ2_getChars_ba4f3 42 = .ok (.istore_n 0, 1) := by decide +kernel
theorem dJ2_getChars_ba4f3_43 : decode cJ2_getChars_ba4f3 43 = .ok (.aload_n 2, 1) := by decide +kernel
theorem dJ2_getChars_ba4f3_44 : decode cJ2_getChars_ba4f3 44 = .ok (.iinc 5 (-1), 3) := by decide +kernel
theorem dJ2_getChars_ba4f3_47 : decode cJ2_getChars_ba4f3 47 = .ok (.iload 5, 2) := by decide +kernel
theorem dJ2_getChars_ba4f3_49 : decode cJ2_getChars_ba4f3 49 = .ok (.getstatic 403, 3) := by decide +kernel
theorem dJ2_getChars_ba4f3_52 : decode cJ2_getChars_ba4f3 52 = .ok (.iload 4, 2) := by decide +kernel
theorem dJ2_getChars_ba4f3_54 : decode cJ2_getChars_ba4f3 54 = .ok (.baload, 1) := by decide +kernel
theorem dJ2_getChars_ba4f3_55 : decode cJ2_getChars_ba4f3 55 = .ok (.invokestatic 111, 3) := by decide +kernel
theorem dJ2_getChars_ba4f3_58 : decode cJ2_getChars_ba4f3 58 = .ok (.aload_n 2, 1) := by decide +kernel
theorem dJ2_getChars_ba4f3_59 : decode cJ2_getChars_ba4f3 59 = .ok (.iinc 5 (-1), 3) := by decide +kernel
theorem dJ2_getChars_ba4f3_62 : decode cJ2_getChars_ba4f3 62 = .ok (.iload 5, 2) := by decide +kernel
theorem dJ2_getChars_ba4f3_64 : decode cJ2_getChars_ba4f3 64 = .ok (.getstatic 407, 3) := by decide +kernel
theorem dJ2_getChars_ba4f3_67 : decode cJ2_getChars_ba4f3 67 = .ok (.iload 4, 2) := by decide +kernel
theorem dJ2_getChars_ba4f3_69 : decode cJ2_getChars_ba4f3 69 = .ok (.baload, 1) := by decide +kernel
theorem dJ2_getChars_ba4f3_70 : decode cJ2_getChars_ba4f3 70 = .ok (.invokestatic 111, 3) := by decide +kernel
theorem dJ2_getChars_ba4f3_73 : decode cJ2_getChars_ba4f3 73 = .ok (.goto (-51), 3) := by decide +kernel
theorem dJ2_getChars_ba4f3_76 : decode cJ2_getChars_ba4f3 76 = .ok (.aload_n 2, 1) := by decide +kernel
theorem dJ2_getChars_ba4f3_77 : decode cJ2_getChars_ba4f3 77 = .ok (.iinc 5 (-1), 3) := by decide +kernel
theorem dJ2_getChars_ba4f3_80 : decode cJ2_getChars_ba4f3 80 = .ok (.iload 5, 2) := by decide +kernel
theorem dJ2_getChars_ba4f3_82 : decode cJ2_getChars_ba4f3 82 = .ok (.getstatic 403, 3) := by decide +kernel
theorem dJ2_getChars_ba4f3_85 : decode cJ2_getChars_ba4f3 85 = .ok (.iload_n 0, 1) := by decide +kernel
theorem dJ2_getChars_ba4f3_86 : decode cJ2_getChars_ba4f3 86 = .ok (.ineg, 1) := by decide +kernel
theorem dJ2_getChars_ba4f3_87 : decode cJ2_getChars_ba4f3 87 = .ok (.baload, 1) := by decide +kernel
theorem dJ2_getChars_ba4f3_88 : decode cJ2_getChars_ba4f3 88 = .ok (.invokestatic 111, 3) := by decide +kernel
theorem dJ2_getChars_ba4f3_91 : decode cJ2_getChars_ba4f3 91 = .ok (.iload_n 0, 1) := by decide +kernel
theorem dJ2_getChars_ba4f3_92 : decode cJ2_getChars_ba4f3 92 = .ok (.bipush (-9), 2) := by decide +kernel
theorem dJ2_getChars_ba4f3_94 : decode cJ2_getChars_ba4f3 94 = .ok (.if_icmp .ge 18, 3) := by decide +kernel
theorem dJ2_getChars_ba4f3_97 : decode cJ2_getChars_ba4f3 97 = .ok (.aload_n 2, 1) := by decide +kernel
theorem dJ2_getChars_ba4f3_98 : decode cJ2_getChars_ba4f3 98 = .ok (.iinc 5 (-1), 3) := by decide +kernel
theorem dJ2_getChars_ba4f3_101 : decode cJ2_getChars_ba4f3 101 = .ok (.iload 5, 2) := by decide +kernel
theorem dJ2_getChars_ba4f3_103 : decode cJ2_getChars_ba4f3 103 = .ok (.getstatic 407, 3) := by decide +kernel
theorem dJ2_getChars_ba4f3_106 : decode cJ2_getChars_ba4f3 106 = .ok (.iload_n 0, 1) := by decide +kernel
theorem dJ2_getChars_ba4f3_107 : decode cJ2_getChars_ba4f3 107 = .ok (.ineg, 1) := by decide +kernel
theorem dJ2_getChars_ba4f3_108 : decode cJ2_getChars_ba4f3 108 = .ok (.baload, 1) := by decide +kernel
theorem dJ2_getChars_ba4f3_109 : decode cJ2_getChars_ba4f3 109 = .ok (.invokestatic 111, 3) := by decide +kernel
theorem dJ2_getChars_ba4f3_112 : decode cJ2_getChars_ba4f3 112 = .ok (.iload 6, 2) := by decide +kernel
theorem dJ2_getChars_ba4f3_114 : decode cJ2_getChars_ba4f3 114 = .ok (.ifCond .eq 14, 3) := by decide +kernel
theorem dJ2_getChars_ba4f3_117 : decode cJ2_getChars_ba4f3 117 = .ok (.aload_n 2, 1) := by decide +kernel
theorem dJ2_getChars_ba4f3_118 : decode cJ2_getChars_ba4f3 118 = .ok (.iinc 5 (-1), 3) := by decide +kernel
theorem dJ2_getChars_ba4f3_121 : decode cJ2_getChars_ba4f3 121 = .ok (.iload 5, 2) := by decide +kernel
theorem dJ2_getChars_ba4f3_123 : decode cJ2_getChars_ba4f3 123 = .ok (.bipush 45, 2) := by decide +kernel
theorem dJ2_getChars_ba4f3_125 : decode cJ2_getChars_ba4f3 125 = .ok (.invokestatic 111, 3) := by decide +kernel
theorem dJ2_getChars_ba4f3_128 : decode cJ2_getChars_ba4f3 128 = .ok (.iload 5, 2) := by decide +kernel
theorem dJ2_getChars_ba4f3_130 : decode cJ2_getChars_ba4f3 130 = .ok (.ireturn, 1) := by decide +kernel
theorem dJ2_checkIndex_2214a_0 : decode cJ2_checkIndex_2214a 0 = .ok (.iload_n 0, 1) := by decide +kernel
theorem dJ2_checkIndex_2214a_1 : decode cJ2_checkIndex_2214a 1 = .ok (.aload_n 1, 1) := by decide +kernel
theorem dJ2_checkIndex_2214a_2 : decode cJ2_checkIndex_2214a 2 = .ok (.invokestatic 48, 3) := by decide +kernel
theorem dJ2_checkIndex_2214a_5 : decode cJ2_checkIndex_2214a 5 = .ok (.invokestatic 414, 3) := by decide +kernel
theorem dJ2_checkIndex_2214a_8 : decode cJ2_checkIndex_2214a 8 = .ok (.return_, 1) := by decide +kernel
theorem dJ2_checkBoundsBeginEnd_d044e_0 : decode cJ2_checkBoundsBeginEnd_d044e 0 = .ok (.iload_n 0, 1) := by decide +kernel
theorem dJ2_checkBoundsBeginEnd_d044e_1 : decode cJ2_checkBoundsBeginEnd_d044e 1 = .ok (.iload_n 1, 1) := by decide +kernel
theorem dJ2_checkBoundsBeginEnd_d044e_2 : decode cJ2_checkBoundsBeginEnd_d044e 2 = .ok (.aload_n 2, 1) := by decide +kernel
theorem dJ2_checkBoundsBeginEnd_d044e_3 : decode cJ2_checkBoundsBeginEnd_d044e 3 = .ok (.invokestatic 48, 3) := by decide +kernel
theorem dJ2_checkBoundsBeginEnd_d044e_6 : decode cJ2_checkBoundsBeginEnd_d044e 6 = .ok (.invokestatic 241, 3) := by decide +kernel
theorem dJ2_checkBoundsBeginEnd_d044e_9 : decode cJ2_checkBoundsBeginEnd_d044e 9 = .ok (.return_, 1) := by decide +kernel
theorem dJ2_checkBoundsOffCount_d044e_0 : decode cJ2_checkBoundsOffCount_d044e 0 = .ok (.iload_n 0, 1) := by decide +kernel
theorem dJ2_checkBoundsOffCount_d044e_1 : decode cJ2_checkBoundsOffCount_d044e 1 = .ok (.iload_n 1, 1) := by decide +kernel
theorem dJ2_checkBoundsOffCount_d044e_2 : decode cJ2_checkBoundsOffCount_d044e 2 = .ok (.aload_n 2, 1) := by decide +kernel
theorem dJ2_checkBoundsOffCount_d044e_3 : decode cJ2_checkBoundsOffCount_d044e 3 = .ok (.invokestatic 48, 3) := by decide +kernel
theorem dJ2_checkBoundsOffCount_d044e_6 : decode cJ2_checkBoundsOffCount_d044e 6 = .ok (.invokestatic 419, 3) := by decide +kernel
theorem dJ2_checkBoundsOffCount_d044e_9 : decode cJ2_checkBoundsOffCount_d044e 9 = .ok (.pop, 1) := by decide +kernel
theorem dJ2_checkBoundsOffCount_d044e_10 : decode cJ2_checkBoundsOffCount_d044e 10 = .ok (.return_, 1) := by decide +kernel
theorem dJ7_fill_53178_0 : decode cJ7_fill_53178 0 = .ok (.iconst 0, 1) := by decide +kernel
theorem dJ7_fill_53178_1 : decode cJ7_fill_53178 1 = .ok (.istore_n 2, 1) := by decide +kernel
theorem dJ7_fill_53178_2 : decode cJ7_fill_53178 2 = .ok (.aload_n 0, 1) := by decide +kernel
theorem dJ7_fill_53178_3 : decode cJ7_fill_53178 3 = .ok (.arraylength, 1) := by decide +kernel
theorem dJ7_fill_53178_4 : decode cJ7_fill_53178 4 = .ok (.istore_n 3, 1) := by decide +kernel
theorem dJ7_fill_53178_5 : decode cJ7_fill_53178 5 = .ok (.iload_n 2, 1) := by decide +kernel
theorem dJ7_fill_53178_6 : decode cJ7_fill_53178 6 = .ok (.iload_n 3, 1) := by decide +kernel
theorem dJ7_fill_53178_7 : decode cJ7_fill_53178 7 = .ok (.if_icmp .ge 13, 3) := by decide +kernel
theorem dJ7_fill_53178_10 : decode cJ7_fill_53178 10 = .ok (.aload_n 0, 1) := by decide +kernel
theorem dJ7_fill_53178_11 : decode cJ7_fill_53178 11 = .ok (.iload_n 2, 1) := by decide +kernel
theorem dJ7_fill_53178_12 : decode cJ7_fill_53178 12 = .ok (.iload_n 1, 1) := by decide +kernel
theorem dJ7_fill_53178_13 : decode cJ7_fill_53178 13 = .ok (.iastore, 1) := by decide +kernel
theorem dJ7_fill_53178_14 : decode cJ7_fill_53178 14 = .ok (.iinc 2 1, 3) := by decide +kernel
theorem dJ7_fill_53178_17 : decode cJ7_fill_53178 17 = .ok (.goto (-12), 3) := by decide +kernel
theorem dJ7_fill_53178_20 : decode cJ7_fill_53178 20 = .ok (.return_, 1) := by decide +kernel
theorem dJ7_copyOf_9075b_0 : decode cJ7_copyOf_9075b 0 = .ok (.iload_n 1, 1) := by decide +kernel
theorem dJ7_copyOf_9075b_1 : decode cJ7_copyOf_9075b 1 = .ok (.aload_n 0, 1) := by decide +kernel
theorem dJ7_copyOf_9075b_2 : decode cJ7_copyOf_9075b 2 = .ok (.arraylength, 1) := by decide +kernel
theorem dJ7_copyOf_9075b_3 : decode cJ7_copyOf_9075b 3 = .ok (.if_icmp .ne 11, 3) := by decide +kernel
theorem dJ7_copyOf_9075b_6 : decode cJ7_copyOf_9075b 6 = .ok (.aload_n 0, 1) := by decide +kernel
theorem dJ7_copyOf_9075b_7 : decode cJ7_copyOf_9075b 7 = .ok (.invokevirtual 310, 3) := by decide +kernel
theorem dJ7_copyOf_9075b_10 : decode cJ7_copyOf_9075b 10 = .ok (.checkcast 311, 3) := by decide +kernel
theorem dJ7_copyOf_9075b_13 : decode cJ7_copyOf_9075b 13 = .ok (.areturn, 1) := by decide +kernel
theorem dJ7_copyOf_9075b_14 : decode cJ7_copyOf_9075b 14 = .ok (.iload_n 1, 1) := by decide +kernel
theorem dJ7_copyOf_9075b_15 : decode cJ7_copyOf_9075b 15 = .ok (.newarray .byte, 2) := by decide +kernel
theorem dJ7_copyOf_9075b_17 : decode cJ7_copyOf_9075b 17 = .ok (.astore_n 2, 1) := by decide +kernel
theorem dJ7_copyOf_9075b_18 : decode cJ7_copyOf_9075b 18 = .ok (.aload_n 0, 1) := by decide +kernel
theorem dJ7_copyOf_9075b_19 : decode cJ7_copyOf_9075b 19 = .ok (.iconst 0, 1) := by decide +kernel
theorem dJ7_copyOf_9075b_20 : decode cJ7_copyOf_9075b 20 = .ok (.aload_n 2, 1) := by decide +kernel
theorem dJ7_copyOf_9075b_21 : decode cJ7_copyOf_9075b 21 = .ok (.iconst 0, 1) := by decide +kernel
theorem dJ7_copyOf_9075b_22 : decode cJ7_copyOf_9075b 22 = .ok (.aload_n 0, 1) := by decide +kernel
theorem dJ7_copyOf_9075b_23 : decode cJ7_copyOf_9075b 23 = .ok (.arraylength, 1) := by decide +kernel
theorem dJ7_copyOf_9075b_24 : decode cJ7_copyOf_9075b 24 = .ok (.iload_n 1, 1) := by decide +kernel
theorem dJ7_copyOf_9075b_25 : decode cJ7_copyOf_9075b 25 = .ok (.invokestatic 304, 3) := by decide +kernel
theorem dJ7_copyOf_9075b_28 : decode cJ7_copyOf_9075b 28 = .ok (.invokestatic 150, 3) := by decide +kernel
theorem dJ7_copyOf_9075b_31 : decode cJ7_copyOf_9075b 31 = .ok (.aload_n 2, 1) := by decide +kernel
theorem dJ7_copyOf_9075b_32 : decode cJ7_copyOf_9075b 32 = .ok (.areturn, 1) := by decide +kernel
theorem dJ7_checkLength_df160_0 : decode cJ7_checkLength_df160 0 = .ok (.iload_n 1, 1) := by decide +kernel
theorem dJ7_checkLength_df160_1 : decode cJ7_checkLength_df160 1 = .ok (.iload_n 0, 1) := by decide +kernel
theorem dJ7_checkLength_df160_2 : decode cJ7_checkLength_df160 2 = .ok (.if_icmp .ge 35, 3) := by decide +kernel
theorem dJ7_checkLength_df160_5 : decode cJ7_checkLength_df160 5 = .ok (.new 43, 3) := by decide +kernel
theorem dJ7_checkLength_df160_8 : decode cJ7_checkLength_df160 8 = .ok (.dup, 1) := by decide +kernel
theorem dJ7_checkLength_df160_9 : decode cJ7_checkLength_df160 9 = .ok (.new 45, 3) := by decide +kernel
theorem dJ7_checkLength_df160_12 : decode cJ7_checkLength_df160 12 = .ok (.dup, 1) := by decide +kernel
theorem dJ7_checkLength_df160_13 : decode cJ7_checkLength_df160 13 = .ok (.invokespecial 47, 3) := by decide +kernel
theorem dJ7_checkLength_df160_16 : decode cJ7_checkLength_df160 16 = .ok (.iload_n 0, 1) := by decide +kernel
theorem dJ7_checkLength_df160_17 : decode cJ7_checkLength_df160 17 = .ok (.invokevirtual 54, 3) := by decide +kernel
theorem dJ7_checkLength_df160_20 : decode cJ7_checkLength_df160 20 = .ok (.ldc_w 337, 3) := by decide +kernel
theorem dJ7_checkLength_df160_23 : decode cJ7_checkLength_df160 23 = .ok (.invokevirtual 50, 3) := by decide +kernel
theorem dJ7_checkLength_df160_26 : decode cJ7_checkLength_df160 26 = .ok (.iload_n 1, 1) := by decide +kernel
theorem dJ7_checkLength_df160_27 : decode cJ7_checkLength_df160 27 = .ok (.invokevirtual 54, 3) := by decide +kernel
theorem dJ7_checkLength_df160_30 : decode cJ7_checkLength_df160 30 = .ok (.invokevirtual 61, 3) := by decide +kernel
theorem dJ7_checkLength_df160_33 : decode cJ7_checkLength_df160 33 = .ok (.invokespecial 65, 3) := by decide +kernel
theorem dJ7_checkLength_df160_36 : decode cJ7_checkLength_df160 36 = .ok (.athrow, 1) := by decide +kernel
theorem dJ7_checkLength_df160_37 : decode cJ7_checkLength_df160 37 = .ok (.return_, 1) := by decide +kernel
theorem dJ7_copyOfRange_39247_0 : decode cJ7_copyOfRange_39247 0 = .ok (.iload_n 1, 1) := by decide +kernel
theorem dJ7_copyOfRange_39247_1 : decode cJ7_copyOfRange_39247 1 = .ok (.ifCond .ne 9, 3) := by decide +kernel
theorem dJ7_copyOfRange_39247_4 : decode cJ7_copyOfRange_39247 4 = .ok (.iload_n 2, 1) := by decide +kernel
theorem dJ7_copyOfRange_39247_5 : decode cJ7_copyOfRange_39247 5 = .ok (.aload_n 0, 1) := by decide +kernel
theorem dJ7_copyOfRange_39247_6 : decode cJ7_copyOfRange_39247 6 = .ok (.arraylength, 1) := by decide +kernel
theorem dJ7_copyOfRange_39247_7 : decode cJ7_copyOfRange_39247 7 = .ok (.if_icmp .eq 10, 3) := by decide +kernel
theorem dJ7_copyOfRange_39247_10 : decode cJ7_copyOfRange_39247 10 = .ok (.aload_n 0, 1) := by decide +kernel
theorem dJ7_copyOfRange_39247_11 : decode cJ7_copyOfRange_39247 11 = .ok (.iload_n 1, 1) := by decide +kernel
theorem dJ7_copyOfRange_39247_12 : decode cJ7_copyOfRange_39247 12 = .ok (.iload_n 2, 1) := by decide +kernel
theorem dJ7_copyOfRange_39247_13 : decode cJ7_copyOfRange_39247 13 = .ok (.invokestatic 339, 3) := by decide +kernel
theorem dJ7_copyOfRange_39247_16 : decode cJ7_copyOfRange_39247 16 = .ok (.areturn, 1) := by decide +kernel
theorem dJ7_copyOfRange_39247_17 : decode cJ7_copyOfRange_39247 17 = .ok (.aload_n 0, 1) := by decide +kernel
theorem dJ7_copyOfRange_39247_18 : decode cJ7_copyOfRange_39247 18 = .ok (.invokevirtual 310, 3) := by decide +kernel
theorem dJ7_copyOfRange_39247_21 : decode cJ7_copyOfRange_39247 21 = .ok (.checkcast 311, 3) := by decide +kernel
theorem dJ7_copyOfRange_39247_24 : decode cJ7_copyOfRange_39247 24 = .ok (.areturn, 1) := by decide +kernel
theorem dJ7_copyOfRangeByte_39247_0 : decode cJ7_copyOfRangeByte_39247 0 = .ok (.iload_n 1, 1) := by decide +kernel
theorem dJ7_copyOfRangeByte_39247_1 : decode cJ7_copyOfRangeByte_39247 1 = .ok (.iload_n 2, 1) := by decide +kernel
theorem dJ7_copyOfRangeByte_39247_2 : decode cJ7_copyOfRangeByte_39247 2 = .ok (.invokestatic 343, 3) := by decide +kernel
theorem dJ7_copyOfRangeByte_39247_5 : decode cJ7_copyOfRangeByte_39247 5 = .ok (.iload_n 2, 1) := by decide +kernel
theorem dJ7_copyOfRangeByte_39247_6 : decode cJ7_copyOfRangeByte_39247 6 = .ok (.iload_n 1, 1) := by decide +kernel
theorem dJ7_copyOfRangeByte_39247_7 : decode cJ7_copyOfRangeByte_39247 7 = .ok (.isub, 1) := by decide +kernel
theorem dJ7_copyOfRangeByte_39247_8 : decode cJ7_copyOfRangeByte_39247 8 = .ok (.istore_n 3, 1) := by decide +kernel
theorem dJ7_copyOfRangeByte_39247_9 : decode cJ7_copyOfRangeByte_39247 9 = .ok (.iload_n 3, 1) := by decide +kernel
theorem dJ7_copyOfRangeByte_39247_10 : decode cJ7_copyOfRangeByte_39247 10 = .ok (.newarray .byte, 2) := by decide +kernel
theorem dJ7_copyOfRangeByte_39247_12 : decode cJ7_copyOfRangeByte_39247 12 = .ok (.astore 4, 2) := by decide +kernel
theorem dJ7_copyOfRangeByte_39247_14 : decode cJ7_copyOfRangeByte_39247 14 = .ok (.aload_n 0, 1) := by decide +kernel
theorem dJ7_copyOfRangeByte_39247_15 : decode cJ7_copyOfRangeByte_39247 15 = .ok (.iload_n 1, 1) := by decide +kernel
theorem dJ7_copyOfRangeByte_39247_16 : decode cJ7_copyOfRangeByte_39247 16 = .ok (.aload 4, 2) := by decide +kernel
theorem dJ7_copyOfRangeByte_39247_18 : decode cJ7_copyOfRangeByte_39247 18 = .ok (.iconst 0, 1) := by decide +kernel
theorem dJ7_copyOfRangeByte_39247_19 : decode cJ7_copyOfRangeByte_39247 19 = .ok (.aload_n 0, 1) := by decide +kernel
theorem dJ7_copyOfRangeByte_39247_20 : decode cJ7_copyOfRangeByte_39247 20 = .ok (.arraylength, 1) := by decide +kernel
theorem dJ7_copyOfRangeByte_39247_21 : decode cJ7_copyOfRangeByte_39247 21 = .ok (.iload_n 1, 1) := by decide +kernel
theorem dJ7_copyOfRangeByte_39247_22 : decode cJ7_copyOfRangeByte_39247 22 = .ok (.isub, 1) := by decide +kernel
theorem dJ7_copyOfRangeByte_39247_23 : decode cJ7_copyOfRangeByte_39247 23 = .ok (.iload_n 3, 1) := by decide +kernel
theorem dJ7_copyOfRangeByte_39247_24 : decode cJ7_copyOfRangeByte_39247 24 = .ok (.invokestatic 304, 3) := by decide +kernel
theorem dJ7_copyOfRangeByte_39247_27 : decode cJ7_copyOfRangeByte_39247 27 = .ok (.invokestatic 150, 3) := by decide +kernel
theorem dJ7_copyOfRangeByte_39247_30 : decode cJ7_copyOfRangeByte_39247 30 = .ok (.aload 4, 2) := by decide +kernel
theorem dJ7_copyOfRangeByte_39247_32 : decode cJ7_copyOfRangeByte_39247 32 = .ok (.areturn, 1) := by decide +kernel
theorem dJ8_newLength_cabcc_0 : decode cJ8_newLength_cabcc 0 = .ok (.iload_n 0, 1) := by decide +kernel
theorem dJ8_newLength_cabcc_1 : decode cJ8_newLength_cabcc 1 = .ok (.iload_n 1, 1) := by decide +kernel
theorem dJ8_newLength_cabcc_2 : decode cJ8_newLength_cabcc 2 = .ok (.iload_n 2, 1) := by decide +kernel
theorem dJ8_newLength_cabcc_3 : decode cJ8_newLength_cabcc 3 = .ok (.invokestatic 194, 3) := by decide +kernel
theorem dJ8_newLength_cabcc_6 : decode cJ8_newLength_cabcc 6 = .ok (.iadd, 1) := by decide +kernel
theorem dJ8_newLength_cabcc_7 : decode cJ8_newLength_cabcc 7 = .ok (.istore_n 3, 1) := by decide +kernel
theorem dJ8_newLength_cabcc_8 : decode cJ8_newLength_cabcc 8 = .ok (.iconst 0, 1) := by decide +kernel
theorem dJ8_newLength_cabcc_9 : decode cJ8_newLength_cabcc 9 = .ok (.iload_n 3, 1) := by decide +kernel
theorem dJ8_newLength_cabcc_10 : decode cJ8_newLength_cabcc 10 = .ok (.if_icmp .ge 11, 3) := by decide +kernel
theorem dJ8_newLength_cabcc_13 : decode cJ8_newLength_cabcc 13 = .ok (.iload_n 3, 1) := by decide +kernel
theorem dJ8_newLength_cabcc_14 : decode cJ8_newLength_cabcc 14 = .ok (.ldc 200, 2) := by decide +kernel
theorem dJ8_newLength_cabcc_16 : decode cJ8_newLength_cabcc 16 = .ok (.if_icmp .gt 5, 3) := by decide +kernel
theorem dJ8_newLength_cabcc_19 : decode cJ8_newLength_cabcc 19 = .ok (.iload_n 3, 1) := by decide +kernel
theorem dJ8_newLength_cabcc_20 : decode cJ8_newLength_cabcc 20 = .ok (.ireturn, 1) := by decide +kernel
theorem dJ8_newLength_cabcc_21 : decode cJ8_newLength_cabcc 21 = .ok (.iload_n 0, 1) := by decide +kernel
theorem dJ8_newLength_cabcc_22 : decode cJ8_newLength_cabcc 22 = .ok (.iload_n 1, 1) := by decide +kernel
theorem dJ8_newLength_cabcc_23 : decode cJ8_newLength_cabcc 23 = .ok (.invokestatic 201, 3) := by decide +kernel
theorem dJ8_newLength_cabcc_26 : decode cJ8_newLength_cabcc 26 = .ok (.ireturn, 1) := by decide +kernel
theorem dJ8_hugeLength_7cf53_0 : decode cJ8_hugeLength_7cf53 0 = .ok (.iload_n 0, 1) := by decide +kernel
theorem dJ8_hugeLength_7cf53_1 : decode cJ8_hugeLength_7cf53 1 = .ok (.iload_n 1, 1) := by decide +kernel
theorem dJ8_hugeLength_7cf53_2 : decode cJ8_hugeLength_7cf53 2 = .ok (.iadd, 1) := by decide +kernel
theorem dJ8_hugeLength_7cf53_3 : decode cJ8_hugeLength_7cf53 3 = .ok (.istore_n 2, 1) := by decide +kernel
theorem dJ8_hugeLength_7cf53_4 : decode cJ8_hugeLength_7cf53 4 = .ok (.iload_n 2, 1) := by decide +kernel
theorem dJ8_hugeLength_7cf53_5 : decode cJ8_hugeLength_7cf53 5 = .ok (.ifCond .ge 44, 3) := by decide +kernel
theorem dJ8_hugeLength_7cf53_8 : decode cJ8_hugeLength_7cf53 8 = .ok (.new 204, 3) := by decide +kernel
theorem dJ8_hugeLength_7cf53_11 : decode cJ8_hugeLength_7cf53 11 = .ok (.dup, 1) := by decide +kernel
theorem dJ8_hugeLength_7cf53_12 : decode cJ8_hugeLength_7cf53 12 = .ok (.new 89, 3) := by decide +kernel
theorem dJ8_hugeLength_7cf53_15 : decode cJ8_hugeLength_7cf53 15 = .ok (.dup, 1) := by decide +kernel
theorem dJ8_hugeLength_7cf53_16 : decode cJ8_hugeLength_7cf53 16 = .ok (.invokespecial 91, 3) := by decide +kernel
theorem dJ8_hugeLength_7cf53_19 : decode cJ8_hugeLength_7cf53 19 = .ok (.ldc 206, 2) := by decide +kernel
theorem dJ8_hugeLength_7cf53_21 : decode cJ8_hugeLength_7cf53 21 = .ok (.invokevirtual 94, 3) := by decide +kernel
theorem dJ8_hugeLength_7cf53_24 : decode cJ8_hugeLength_7cf53 24 = .ok (.iload_n 0, 1) := by decide +kernel
theorem dJ8_hugeLength_7cf53_25 : decode cJ8_hugeLength_7cf53 25 = .ok (.invokevirtual 98, 3) := by decide +kernel
theorem dJ8_hugeLength_7cf53_28 : decode cJ8_hugeLength_7cf53 28 = .ok (.ldc 208, 2) := by decide +kernel
theorem dJ8_hugeLength_7cf53_30 : decode cJ8_hugeLength_7cf53 30 = .ok (.invokevirtual 94, 3) := by decide +kernel
theorem dJ8_hugeLength_7cf53_33 : decode cJ8_hugeLength_7cf53 33 = .ok (.iload_n 1, 1) := by decide +kernel
theorem dJ8_hugeLength_7cf53_34 : decode cJ8_hugeLength_7cf53 34 = .ok (.invokevirtual 98, 3) := by decide +kernel
theorem dJ8_hugeLength_7cf53_37 : decode cJ8_hugeLength_7cf53 37 = .ok (.ldc 210, 2) := by decide +kernel
theorem dJ8_hugeLength_7cf53_39 : decode cJ8_hugeLength_7cf53 39 = .ok (.invokevirtual 94, 3) := by decide +kernel
theorem dJ8_hugeLength_7cf53_42 : decode cJ8_hugeLength_7cf53 42 = .ok (.invokevirtual 101, 3) := by decide +kernel
theorem dJ8_hugeLength_7cf53_45 : decode cJ8_hugeLength_7cf53 45 = .ok (.invokespecial 212, 3) := by decide +kernel
theorem dJ8_hugeLength_7cf53_48 : decode cJ8_hugeLength_7cf53 48 = .ok (.athrow, 1) := by decide +kernel
theorem dJ8_hugeLength_7cf53_49 : decode cJ8_hugeLength_7cf53 49 = .ok (.iload_n 2, 1) := by decide +kernel
theorem dJ8_hugeLength_7cf53_50 : decode cJ8_hugeLength_7cf53 50 = .ok (.ldc 200, 2) := by decide +kernel
theorem dJ8_hugeLength_7cf53_52 : decode cJ8_hugeLength_7cf53 52 = .ok (.if_icmp .gt 6, 3) := by decide +kernel
theorem dJ8_hugeLength_7cf53_55 : decode cJ8_hugeLength_7cf53 55 = .ok (.ldc 200, 2) := by decide +kernel
theorem dJ8_hugeLength_7cf53_57 : decode cJ8_hugeLength_7cf53 57 = .ok (.ireturn, 1) := by decide +kernel
theorem dJ8_hugeLength_7cf53_58 : decode cJ8_hugeLength_7cf53 58 = .ok (.iload_n 2, 1) := by decide +kernel
theorem dJ8_hugeLength_7cf53_59 : decode cJ8_hugeLength_7cf53 59 = .ok (.ireturn, 1) := by decide +kernel
theorem dJ3_checkIndex_8e157_0 : decode cJ3_checkIndex_8e157 0 = .ok (.iload_n 0, 1) := by decide +kernel
theorem dJ3_checkIndex_8e157_1 : decode cJ3_checkIndex_8e157 1 = .ok (.ifCond .lt 8, 3) := by decide +kernel
theorem dJ3_checkIndex_8e157_4 : decode cJ3_checkIndex_8e157 4 = .ok (.iload_n 0, 1) := by decide +kernel
theorem dJ3_checkIndex_8e157_5 : decode cJ3_checkIndex_8e157 5 = .ok (.iload_n 1, 1) := by decide +kernel
theorem dJ3_checkIndex_8e157_6 : decode cJ3_checkIndex_8e157 6 = .ok (.if_icmp .lt 10, 3) := by decide +kernel
theorem dJ3_checkIndex_8e157_9 : decode cJ3_checkIndex_8e157 9 = .ok (.aload_n 2, 1) := by decide +kernel
theorem dJ3_checkIndex_8e157_10 : decode cJ3_checkIndex_8e157 10 = .ok (.iload_n 0, 1) := by decide +kernel
theorem dJ3_checkIndex_8e157_11 : decode cJ3_checkIndex_8e157 11 = .ok (.iload_n 1, 1) := by decide +kernel
theorem dJ3_checkIndex_8e157_12 : decode cJ3_checkIndex_8e157 12 = .ok (.invokestatic 95, 3) := by decide +kernel
theorem dJ3_checkIndex_8e157_15 : decode cJ3_checkIndex_8e157 15 = .ok (.athrow, 1) := by decide +kernel
theorem dJ3_checkIndex_8e157_16 : decode cJ3_checkIndex_8e157 16 = .ok (.iload_n 0, 1) := by decide +kernel
theorem dJ3_checkIndex_8e157_17 : decode cJ3_checkIndex_8e157 17 = .ok (.ireturn, 1) := by decide +kernel
theorem dJ3_checkFromToIndex_8c36e_0 : decode cJ3_checkFromToIndex_8c36e 0 = .ok (.iload_n 0, 1) := by decide +kernel
theorem dJ3_checkFromToIndex_8c36e_1 : decode cJ3_checkFromToIndex_8c36e 1 = .ok (.ifCond .lt 13, 3) := by decide +kernel
theorem dJ3_checkFromToIndex_8c36e_4 : decode cJ3_checkFromToIndex_8c36e 4 = .ok (.iload_n 0, 1) := by decide +kernel
theorem dJ3_checkFromToIndex_8c36e_5 : decode cJ3_checkFromToIndex_8c36e 5 = .ok (.iload_n 1, 1) := by decide +kernel
theorem dJ3_checkFromToIndex_8c36e_6 : decode cJ3_checkFromToIndex_8c36e 6 = .ok (.if_icmp .gt 8, 3) := by decide +kernel
theorem dJ3_checkFromToIndex_8c36e_9 : decode cJ3_checkFromToIndex_8c36e 9 = .ok (.iload_n 1, 1) := by decide +kernel
theorem dJ3_checkFromToIndex_8c36e_10 : decode cJ3_checkFromToIndex_8c36e 10 = .ok (.iload_n 2, 1) := by decide +kernel
theorem dJ3_checkFromToIndex_8c36e_11 : decode cJ3_checkFromToIndex_8c36e 11 = .ok (.if_icmp .le 11, 3) := by decide +kernel
theorem dJ3_checkFromToIndex_8c36e_14 : decode cJ3_checkFromToIndex_8c36e 14 = .ok (.aload_n 3, 1) := by decide +kernel
theorem dJ3_checkFromToIndex_8c36e_15 : decode cJ3_checkFromToIndex_8c36e 15 = .ok (.iload_n 0, 1) := by decide +kernel
theorem dJ3_checkFromToIndex_8c36e_16 : decode cJ3_checkFromToIndex_8c36e 16 = .ok (.iload_n 1, 1) := by decide +kernel
theorem dJ3_checkFromToIndex_8c36e_17 : decode cJ3_checkFromToIndex_8c36e 17 = .ok (.iload_n 2, 1) := by decide +kernel
theorem dJ3_checkFromToIndex_8c36e_18 : decode cJ3_checkFromToIndex_8c36e 18 = .ok (.invokestatic 99, 3) := by decide +kernel
theorem dJ3_checkFromToIndex_8c36e_21 : decode cJ3_checkFromToIndex_8c36e 21 = .ok (.athrow, 1) := by decide +kernel
theorem dJ3_checkFromToIndex_8c36e_22 : decode cJ3_checkFromToIndex_8c36e 22 = .ok (.iload_n 0, 1) := by decide +kernel
theorem dJ3_checkFromToIndex_8c36e_23 : decode cJ3_checkFromToIndex_8c36e 23 = .ok (.ireturn, 1) := by decide +kernel
theorem dJ3_checkFromIndexSize_8c36e_0 : decode cJ3_checkFromIndexSize_8c36e 0 = .ok (.iload_n 2, 1) := by decide +kernel
theorem dJ3_checkFromIndexSize_8c36e_1 : decode cJ3_checkFromIndexSize_8c36e 1 = .ok (.iload_n 0, 1) := by decide +kernel
theorem dJ3_checkFromIndexSize_8c36e_2 : decode cJ3_checkFromIndexSize_8c36e 2 = .ok (.ior, 1) := by decide +kernel
theorem dJ3_checkFromIndexSize_8c36e_3 : decode cJ3_checkFromIndexSize_8c36e 3 = .ok (.iload_n 1, 1) := by decide +kernel
theorem dJ3_checkFromIndexSize_8c36e_4 : decode cJ3_checkFromIndexSize_8c36e 4 = .ok (.ior, 1) := by decide +kernel
theorem dJ3_checkFromIndexSize_8c36e_5 : decode cJ3_checkFromIndexSize_8c36e 5 = .ok (.ifCond .lt 10, 3) := by decide +kernel
theorem dJ3_checkFromIndexSize_8c36e_8 : decode cJ3_checkFromIndexSize_8c36e 8 = .ok (.iload_n 1, 1) := by decide +kernel
theorem dJ3_checkFromIndexSize_8c36e_9 : decode cJ3_checkFromIndexSize_8c36e 9 = .ok (.iload_n 2, 1) := by decide +kernel
theorem dJ3_checkFromIndexSize_8c36e_10 : decode cJ3_checkFromIndexSize_8c36e 10 = .ok (.iload_n 0, 1) := by decide +kernel
theorem dJ3_checkFromIndexSize_8c36e_11 : decode cJ3_checkFromIndexSize_8c36e 11 = .ok (.isub, 1) := by decide +kernel
theorem dJ3_checkFromIndexSize_8c36e_12 : decode cJ3_checkFromIndexSize_8c36e 12 = .ok (.if_icmp .le 11, 3) := by decide +kernel
theorem dJ3_checkFromIndexSize_8c36e_15 : decode cJ3_checkFromIndexSize_8c36e 15 = .ok (.aload_n 3, 1) := by decide +kernel
theorem dJ3_checkFromIndexSize_8c36e_16 : decode cJ3_checkFromIndexSize_8c36e 16 = .ok (.iload_n 0, 1) := by decide +kernel
theorem dJ3_checkFromIndexSize_8c36e_17 : decode cJ3_checkFromIndexSize_8c36e 17 = .ok (.iload_n 1, 1) := by decide +kernel
theorem dJ3_checkFromIndexSize_8c36e_18 : decode cJ3_checkFromIndexSize_8c36e 18 = .ok (.iload_n 2, 1) := by decide +kernel
theorem dJ3_checkFromIndexSize_8c36e_19 : decode cJ3_checkFromIndexSize_8c36e 19 = .ok (.invokestatic 103, 3) := by decide +kernel
theorem dJ3_checkFromIndexSize_8c36e_22 : decode cJ3_checkFromIndexSize_8c36e 22 = .ok (.athrow, 1) := by decide +kernel
theorem dJ3_checkFromIndexSize_8c36e_23 : decode cJ3_checkFromIndexSize_8c36e 23 = .ok (.iload_n 0, 1) := by decide +kernel
theorem dJ3_checkFromIndexSize_8c36e_24 : decode cJ3_checkFromIndexSize_8c36e 24 = .ok (.ireturn, 1) := by decide +kernel
theorem dL_cell_0 : decode cL_cell 0 = .ok (.iload_n 1, 1) := by decide +kernel
theorem dL_cell_1 : decode cL_cell 1 = .ok (.aload_n 0, 1) := by decide +kernel
theorem dL_cell_2 : decode cL_cell 2 = .ok (.arraylength, 1) := by decide +kernel
theorem dL_cell_3 : decode cL_cell 3 = .ok (.if_icmp .ge 12, 3) := by decide +kernel
theorem dL_cell_6 : decode cL_cell 6 = .ok (.aload_n 0, 1) := by decide +kernel
theorem dL_cell_7 : decode cL_cell 7 = .ok (.iload_n 1, 1) := by decide +kernel
theorem dL_cell_8 : decode cL_cell 8 = .ok (.iaload, 1) := by decide +kernel
theorem dL_cell_9 : decode cL_cell 9 = .ok (.ldc 7, 2) := by decide +kernel
theorem dL_cell_11 : decode cL_cell 11 = .ok (.iand, 1) := by decide +kernel
theorem dL_cell_12 : decode cL_cell 12 = .ok (.goto 4, 3) := by decide +kernel
theorem dL_cell_15 : decode cL_cell 15 = .ok (.iconst 0, 1) := by decide +kernel
theorem dL_cell_16 : decode cL_cell 16 = .ok (.ireturn, 1) := by decide +kernel
theorem dL_says_0 : decode cL_says 0 = .ok (.iconst 0, 1) := by decide +kernel
theorem dL_says_1 : decode cL_says 1 = .ok (.istore_n 2, 1) := by decide +kernel
theorem dL_says_2 : decode cL_says 2 = .ok (.iload_n 2, 1) := by decide +kernel
theorem dL_says_3 : decode cL_says 3 = .ok (.aload_n 1, 1) := by decide +kernel
theorem dL_says_4 : decode cL_says 4 = .ok (.invokevirtual 8, 3) := by decide +kernel
theorem dL_says_7 : decode cL_says 7 = .ok (.if_icmp .ge 97, 3) := by decide +kernel
theorem dL_says_10 : decode cL_says 10 = .ok (.iconst 5, 1) := by decide +kernel
theorem dL_says_11 : decode cL_says 11 = .ok (.newarray .int, 2) := by decide +kernel
theorem dL_says_13 : decode cL_says 13 = .ok (.astore_n 3, 1) := by decide +kernel
theorem dL_says_14 : decode cL_says 14 = .ok (.iconst 0, 1) := by decide +kernel
theorem dL_says_15 : decode cL_says 15 = .ok (.istore 4, 2) := by decide +kernel
theorem dL_says_17 : decode cL_says 17 = .ok (.iload 4, 2) := by decide +kernel
theorem dL_says_19 : decode cL_says 19 = .ok (.bipush 20, 2) := by decide +kernel
theorem dL_says_21 : decode cL_says 21 = .ok (.if_icmp .ge 49, 3) := by decide +kernel
theorem dL_says_24 : decode cL_says 24 = .ok (.aload_n 3, 1) := by decide +kernel
theorem dL_says_25 : decode cL_says 25 = .ok (.iload 4, 2) := by decide +kernel
theorem dL_says_27 : decode cL_says 27 = .ok (.iconst 4, 1) := by decide +kernel
theorem dL_says_28 : decode cL_says 28 = .ok (.idiv, 1) := by decide +kernel
theorem dL_says_29 : decode cL_says 29 = .ok (.aload_n 3, 1) := by decide +kernel
theorem dL_says_30 : decode cL_says 30 = .ok (.iload 4, 2) := by decide +kernel
theorem dL_says_32 : decode cL_says 32 = .ok (.iconst 4, 1) := by decide +kernel
theorem dL_says_33 : decode cL_says 33 = .ok (.idiv, 1) := by decide +kernel
theorem dL_says_34 : decode cL_says 34 = .ok (.iaload, 1) := by decide +kernel
theorem dL_says_35 : decode cL_says 35 = .ok (.bipush 8, 2) := by decide +kernel
theorem dL_says_37 : decode cL_says 37 = .ok (.ishl, 1) := by decide +kernel
theorem dL_says_38 : decode cL_says 38 = .ok (.iload_n 2, 1) := by decide +kernel
theorem dL_says_39 : decode cL_says 39 = .ok (.iload 4, 2) := by decide +kernel
theorem dL_says_41 : decode cL_says 41 = .ok (.iadd, 1) := by decide +kernel
theorem dL_says_42 : decode cL_says 42 = .ok (.aload_n 1, 1) := by decide +kernel
theorem dL_says_43 : decode cL_says 43 = .ok (.invokevirtual 8, 3) := by decide +kernel
theorem dL_says_46 : decode cL_says 46 = .ok (.if_icmp .ge 14, 3) := by decide +kernel
theorem dL_says_49 : decode cL_says 49 = .ok (.aload_n 1, 1) := by decide +kernel
theorem dL_says_50 : decode cL_says 50 = .ok (.iload_n 2, 1) := by decide +kernel
theorem dL_says_51 : decode cL_says 51 = .ok (.iload 4, 2) := by decide +kernel
theorem dL_says_53 : decode cL_says 53 = .ok (.iadd, 1) := by decide +kernel
theorem dL_says_54 : decode cL_says 54 = .ok (.invokevirtual 14, 3) := by decide +kernel
theorem dL_says_57 : decode cL_says 57 = .ok (.goto 5, 3) := by decide +kernel
theorem dL_says_60 : decode cL_says 60 = .ok (.bipush 32, 2) := by decide +kernel
theorem dL_says_62 : decode cL_says 62 = .ok (.ior, 1) := by decide +kernel
theorem dL_says_63 : decode cL_says 63 = .ok (.iastore, 1) := by decide +kernel
theorem dL_says_64 : decode cL_says 64 = .ok (.iinc 4 1, 3) := by decide +kernel
theorem dL_says_67 : decode cL_says 67 = .ok (.goto (-50), 3) := by decide +kernel
theorem dL_says_70 : decode cL_says 70 = .ok (.aload_n 0, 1) := by decide +kernel
theorem dL_says_71 : decode cL_says 71 = .ok (.aload_n 3, 1) := by decide +kernel
theorem dL_says_72 : decode cL_says 72 = .ok (.iconst 0, 1) := by decide +kernel
theorem dL_says_73 : decode cL_says 73 = .ok (.iaload, 1) := by decide +kernel
theorem dL_says_74 : decode cL_says 74 = .ok (.aload_n 3, 1) := by decide +kernel
theorem dL_says_75 : decode cL_says 75 = .ok (.iconst 1, 1) := by decide +kernel
theorem dL_says_76 : decode cL_says 76 = .ok (.iaload, 1) := by decide +kernel
theorem dL_says_77 : decode cL_says 77 = .ok (.aload_n 3, 1) := by decide +kernel
theorem dL_says_78 : decode cL_says 78 = .ok (.iconst 2, 1) := by decide +kernel
theorem dL_says_79 : decode cL_says 79 = .ok (.iaload, 1) := by decide +kernel
theorem dL_says_80 : decode cL_says 80 = .ok (.aload_n 3, 1) := by decide +kernel
theorem dL_says_81 : decode cL_says 81 = .ok (.iconst 3, 1) := by decide +kernel
theorem dL_says_82 : decode cL_says 82 = .ok (.iaload, 1) := by decide +kernel
theorem dL_says_83 : decode cL_says 83 = .ok (.aload_n 3, 1) := by decide +kernel
theorem dL_says_84 : decode cL_says 84 = .ok (.iconst 4, 1) := by decide +kernel
theorem dL_says_85 : decode cL_says 85 = .ok (.iaload, 1) := by decide +kernel
theorem dL_says_86 : decode cL_says 86 = .ok (.invokevirtual 18, 3) := by decide +kernel
theorem dL_says_89 : decode cL_says 89 = .ok (.iload_n 2, 1) := by decide +kernel
theorem dL_says_90 : decode cL_says 90 = .ok (.bipush 20, 2) := by decide +kernel
theorem dL_says_92 : decode cL_says 92 = .ok (.iadd, 1) := by decide +kernel
theorem dL_says_93 : decode cL_says 93 = .ok (.if_icmp .eq 5, 3) := by decide +kernel
theorem dL_says_96 : decode cL_says 96 = .ok (.iconst 0, 1) := by decide +kernel
theorem dL_says_97 : decode cL_says 97 = .ok (.ireturn, 1) := by decide +kernel
theorem dL_says_98 : decode cL_says 98 = .ok (.iinc 2 20, 3) := by decide +kernel
theorem dL_says_101 : decode cL_says 101 = .ok (.goto (-99), 3) := by decide +kernel
theorem dL_says_104 : decode cL_says 104 = .ok (.aload_n 0, 1) := by decide +kernel
theorem dL_says_105 : decode cL_says 105 = .ok (.aload_n 1, 1) := by decide +kernel
theorem dL_says_106 : decode cL_says 106 = .ok (.invokevirtual 8, 3) := by decide +kernel
theorem dL_says_109 : decode cL_says 109 = .ok (.invokevirtual 24, 3) := by decide +kernel
theorem dL_says_112 : decode cL_says 112 = .ok (.aload_n 1, 1) := by decide +kernel
theorem dL_says_113 : decode cL_says 113 = .ok (.invokevirtual 8, 3) := by decide +kernel
theorem dL_says_116 : decode cL_says 116 = .ok (.if_icmp .ne 7, 3) := by decide +kernel
theorem dL_says_119 : decode cL_says 119 = .ok (.iconst 1, 1) := by decide +kernel
theorem dL_says_120 : decode cL_says 120 = .ok (.goto 4, 3) := by decide +kernel
theorem dL_says_123 : decode cL_says 123 = .ok (.iconst 0, 1) := by decide +kernel
theorem dL_says_124 : decode cL_says 124 = .ok (.ireturn, 1) := by decide +kernel
theorem dL_isSo_0 : decode cL_isSo 0 = .ok (.aload_n 1, 1) := by decide +kernel
theorem dL_isSo_1 : decode cL_isSo 1 = .ok (.getfield 28, 3) := by decide +kernel
theorem dL_isSo_4 : decode cL_isSo 4 = .ok (.newarray .int, 2) := by decide +kernel
theorem dL_isSo_6 : decode cL_isSo 6 = .ok (.astore_n 2, 1) := by decide +kernel
theorem dL_isSo_7 : decode cL_isSo 7 = .ok (.aload_n 1, 1) := by decide +kernel
theorem dL_isSo_8 : decode cL_isSo 8 = .ok (.getfield 28, 3) := by decide +kernel
theorem dL_isSo_11 : decode cL_isSo 11 = .ok (.newarray .int, 2) := by decide +kernel
theorem dL_isSo_13 : decode cL_isSo 13 = .ok (.astore_n 3, 1) := by decide +kernel
theorem dL_isSo_14 : decode cL_isSo 14 = .ok (.iconst 0, 1) := by decide +kernel
theorem dL_isSo_15 : decode cL_isSo 15 = .ok (.istore 4, 2) := by decide +kernel
theorem dL_isSo_17 : decode cL_isSo 17 = .ok (.iload 4, 2) := by decide +kernel
theorem dL_isSo_19 : decode cL_isSo 19 = .ok (.aload_n 1, 1) := by decide +kernel
theorem dL_isSo_20 : decode cL_isSo 20 = .ok (.getfield 28, 3) := by decide +kernel
theorem dL_isSo_23 : decode cL_isSo 23 = .ok (.if_icmp .ge 14, 3) := by decide +kernel
theorem dL_isSo_26 : decode cL_isSo 26 = .ok (.aload_n 3, 1) := by decide +kernel
theorem dL_isSo_27 : decode cL_isSo 27 = .ok (.iload 4, 2) := by decide +kernel
theorem dL_isSo_29 : decode cL_isSo 29 = .ok (.iconst (-1), 1) := by decide +kernel
theorem dL_isSo_30 : decode cL_isSo 30 = .ok (.iastore, 1) := by decide +kernel
theorem dL_isSo_31 : decode cL_isSo 31 = .ok (.iinc 4 1, 3) := by decide +kernel
theorem dL_isSo_34 : decode cL_isSo 34 = .ok (.goto (-17), 3) := by decide +kernel
theorem dL_isSo_37 : decode cL_isSo 37 = .ok (.iconst 3, 1) := by decide +kernel
theorem dL_isSo_38 : decode cL_isSo 38 = .ok (.newarray .int, 2) := by decide +kernel
theorem dL_isSo_40 : decode cL_isSo 40 = .ok (.astore 4, 2) := by decide +kernel
theorem dL_isSo_42 : decode cL_isSo 42 = .ok (.iconst 0, 1) := by decide +kernel
theorem dL_isSo_43 : decode cL_isSo 43 = .ok (.istore 5, 2) := by decide +kernel
theorem dL_isSo_45 : decode cL_isSo 45 = .ok (.iconst 0, 1) := by decide +kernel
theorem dL_isSo_46 : decode cL_isSo 46 = .ok (.istore 6, 2) := by decide +kernel
theorem dL_isSo_48 : decode cL_isSo 48 = .ok (.iconst 0, 1) := by decide +kernel
theorem dL_isSo_49 : decode cL_isSo 49 = .ok (.istore 7, 2) := by decide +kernel
theorem dL_isSo_51 : decode cL_isSo 51 = .ok (.iconst 0, 1) := by decide +kernel
theorem dL_isSo_52 : decode cL_isSo 52 = .ok (.istore 8, 2) := by decide +kernel
theorem dL_isSo_54 : decode cL_isSo 54 = .ok (.iconst 0, 1) := by decide +kernel
theorem dL_isSo_55 : decode cL_isSo 55 = .ok (.istore 9, 2) := by decide +kernel
theorem dL_isSo_57 : decode cL_isSo 57 = .ok (.iload 9, 2) := by decide +kernel
theorem dL_isSo_59 : decode cL_isSo 59 = .ok (.aload_n 1, 1) := by decide +kernel
theorem dL_isSo_60 : decode cL_isSo 60 = .ok (.getfield 34, 3) := by decide +kernel
theorem dL_isSo_63 : decode cL_isSo 63 = .ok (.if_icmp .ge 256, 3) := by decide +kernel
theorem dL_isSo_66 : decode cL_isSo 66 = .ok (.iconst 0, 1) := by decide +kernel
theorem dL_isSo_67 : decode cL_isSo 67 = .ok (.istore 10, 2) := by decide +kernel
theorem dL_isSo_69 : decode cL_isSo 69 = .ok (.iconst (-1), 1) := by decide +kernel
theorem dL_isSo_70 : decode cL_isSo 70 = .ok (.istore 11, 2) := by decide +kernel
theorem dL_isSo_72 : decode cL_isSo 72 = .ok (.iconst 0, 1) := by decide +kernel
theorem dL_isSo_73 : decode cL_isSo 73 = .ok (.istore 12, 2) := by decide +kernel
theorem dL_isSo_75 : decode cL_isSo 75 = .ok (.iload 12, 2) := by decide +kernel
theorem dL_isSo_77 : decode cL_isSo 77 = .ok (.aload_n 1, 1) := by decide +kernel
theorem dL_isSo_78 : decode cL_isSo 78 = .ok (.getfield 28, 3) := by decide +kernel
theorem dL_isSo_81 : decode cL_isSo 81 = .ok (.if_icmp .ge 83, 3) := by decide +kernel
theorem dL_isSo_84 : decode cL_isSo 84 = .ok (.aload_n 0, 1) := by decide +kernel
theorem dL_isSo_85 : decode cL_isSo 85 = .ok (.iload 9, 2) := by decide +kernel
theorem dL_isSo_87 : decode cL_isSo 87 = .ok (.iload 12, 2) := by decide +kernel
theorem dL_isSo_89 : decode cL_isSo 89 = .ok (.invokevirtual 37, 3) := by decide +kernel
theorem dL_isSo_92 : decode cL_isSo 92 = .ok (.istore 13, 2) := by decide +kernel
theorem dL_isSo_94 : decode cL_isSo 94 = .ok (.iload 13, 2) := by decide +kernel
theorem dL_isSo_96 : decode cL_isSo 96 = .ok (.ifCond .lt 34, 3) := by decide +kernel
theorem dL_isSo_99 : decode cL_isSo 99 = .ok (.iload 13, 2) := by decide +kernel
theorem dL_isSo_101 : decode cL_isSo 101 = .ok (.iconst 1, 1) := by decide +kernel
theorem dL_isSo_102 : decode cL_isSo 102 = .ok (.if_icmp .gt 28, 3) := by decide +kernel
theorem dL_isSo_105 : decode cL_isSo 105 = .ok (.iload 13, 2) := by decide +kernel
theorem dL_isSo_107 : decode cL_isSo 107 = .ok (.iconst 1, 1) := by decide +kernel
theorem dL_isSo_108 : decode cL_isSo 108 = .ok (.if_icmp .ne 24, 3) := by decide +kernel
theorem dL_isSo_111 : decode cL_isSo 111 = .ok (.iload 9, 2) := by decide +kernel
theorem dL_isSo_113 : decode cL_isSo 113 = .ok (.aload_n 1, 1) := by decide +kernel
theorem dL_isSo_114 : decode cL_isSo 114 = .ok (.getfield 41, 3) := by decide +kernel
theorem dL_isSo_117 : decode cL_isSo 117 = .ok (.iload 12, 2) := by decide +kernel
theorem dL_isSo_119 : decode cL_isSo 119 = .ok (.iaload, 1) := by decide +kernel
theorem dL_isSo_120 : decode cL_isSo 120 = .ok (.if_icmp .lt 10, 3) := by decide +kernel
theorem dL_isSo_123 : decode cL_isSo 123 = .ok (.aload_n 3, 1) := by decide +kernel
theorem dL_isSo_124 : decode cL_isSo 124 = .ok (.iload 12, 2) := by decide +kernel
theorem dL_isSo_126 : decode cL_isSo 126 = .ok (.iaload, 1) := by decide +kernel
theorem dL_isSo_127 : decode cL_isSo 127 = .ok (.ifCond .lt 5, 3) := by decide +kernel
theorem dL_isSo_130 : decode cL_isSo 130 = .ok (.iconst 0, 1) := by decide +kernel
theorem dL_isSo_131 : decode cL_isSo 131 = .ok (.ireturn, 1) := by decide +kernel
theorem dL_isSo_132 : decode cL_isSo 132 = .ok (.aload_n 2, 1) := by decide +kernel
theorem dL_isSo_133 : decode cL_isSo 133 = .ok (.iload 12, 2) := by decide +kernel
theorem dL_isSo_135 : decode cL_isSo 135 = .ok (.dup2, 1) := by decide +kernel
theorem dL_isSo_136 : decode cL_isSo 136 = .ok (.iaload, 1) := by decide +kernel
theorem dL_isSo_137 : decode cL_isSo 137 = .ok (.iload 13, 2) := by decide +kernel
theorem dL_isSo_139 : decode cL_isSo 139 = .ok (.iadd, 1) := by decide +kernel
theorem dL_isSo_140 : decode cL_isSo 140 = .ok (.iastore, 1) := by decide +kernel
theorem dL_isSo_141 : decode cL_isSo 141 = .ok (.iload 10, 2) := by decide +kernel
theorem dL_isSo_143 : decode cL_isSo 143 = .ok (.iload 13, 2) := by decide +kernel
theorem dL_isSo_145 : decode cL_isSo 145 = .ok (.iadd, 1) := by decide +kernel
theorem dL_isSo_146 : decode cL_isSo 146 = .ok (.istore 10, 2) := by decide +kernel
theorem dL_isSo_148 : decode cL_isSo 148 = .ok (.iload 13, 2) := by decide +kernel
theorem dL_isSo_150 : decode cL_isSo 150 = .ok (.iconst 1, 1) := by decide +kernel
theorem dL_isSo_151 : decode cL_isSo 151 = .ok (.if_icmp .ne 7, 3) := by decide +kernel
theorem dL_isSo_154 : decode cL_isSo 154 = .ok (.iload 12, 2) := by decide +kernel
theorem dL_isSo_156 : decode cL_isSo 156 = .ok (.istore 11, 2) := by decide +kernel
theorem dL_isSo_158 : decode cL_isSo 158 = .ok (.iinc 12 1, 3) := by decide +kernel
theorem dL_isSo_161 : decode cL_isSo 161 = .ok (.goto (-86), 3) := by decide +kernel
theorem dL_isSo_164 : decode cL_isSo 164 = .ok (.aload_n 1, 1) := by decide +kernel
theorem dL_isSo_165 : decode cL_isSo 165 = .ok (.iload 9, 2) := by decide +kernel
theorem dL_isSo_167 : decode cL_isSo 167 = .ok (.iload 10, 2) := by decide +kernel
theorem dL_isSo_169 : decode cL_isSo 169 = .ok (.invokevirtual 45, 3) := by decide +kernel
theorem dL_isSo_172 : decode cL_isSo 172 = .ok (.istore 12, 2) := by decide +kernel
theorem dL_isSo_174 : decode cL_isSo 174 = .ok (.aload_n 0, 1) := by decide +kernel
theorem dL_isSo_175 : decode cL_isSo 175 = .ok (.iload 9, 2) := by decide +kernel
theorem dL_isSo_177 : decode cL_isSo 177 = .ok (.iconst 0, 1) := by decide +kernel
theorem dL_isSo_178 : decode cL_isSo 178 = .ok (.invokevirtual 48, 3) := by decide +kernel
theorem dL_isSo_181 : decode cL_isSo 181 = .ok (.iload 10, 2) := by decide +kernel
theorem dL_isSo_183 : decode cL_isSo 183 = .ok (.if_icmp .ne 43, 3) := by decide +kernel
theorem dL_isSo_186 : decode cL_isSo 186 = .ok (.aload_n 0, 1) := by decide +kernel
theorem dL_isSo_187 : decode cL_isSo 187 = .ok (.iload 9, 2) := by decide +kernel
theorem dL_isSo_189 : decode cL_isSo 189 = .ok (.iconst 1, 1) := by decide +kernel
theorem dL_isSo_190 : decode cL_isSo 190 = .ok (.invokevirtual 48, 3) := by decide +kernel
theorem dL_isSo_193 : decode cL_isSo 193 = .ok (.iload 12, 2) := by decide +kernel
theorem dL_isSo_195 : decode cL_isSo 195 = .ok (.if_icmp .ne 31, 3) := by decide +kernel
theorem dL_isSo_198 : decode cL_isSo 198 = .ok (.aload_n 0, 1) := by decide +kernel
theorem dL_isSo_199 : decode cL_isSo 199 = .ok (.iload 9, 2) := by decide +kernel
theorem dL_isSo_201 : decode cL_isSo 201 = .ok (.iconst 2, 1) := by decide +kernel
theorem dL_isSo_202 : decode cL_isSo 202 = .ok (.invokevirtual 48, 3) := by decide +kernel
theorem dL_isSo_205 : decode cL_isSo 205 = .ok (.iload 10, 2) := by decide +kernel
theorem dL_isSo_207 : decode cL_isSo 207 = .ok (.iconst 1, 1) := by decide +kernel
theorem dL_isSo_208 : decode cL_isSo 208 = .ok (.if_icmp .ne 14, 3) := by decide +kernel
theorem dL_isSo_211 : decode cL_isSo 211 = .ok (.iload 12, 2) := by decide +kernel
theorem dL_isSo_213 : decode cL_isSo 213 = .ok (.iconst 1, 1) := by decide +kernel
theorem dL_isSo_214 : decode cL_isSo 214 = .ok (.if_icmp .ne 8, 3) := by decide +kernel
theorem dL_isSo_217 : decode cL_isSo 217 = .ok (.iload 11, 2) := by decide +kernel
theorem dL_isSo_219 : decode cL_isSo 219 = .ok (.goto 4, 3) := by decide +kernel
theorem dL_isSo_222 : decode cL_isSo 222 = .ok (.iconst (-1), 1) := by decide +kernel
theorem dL_isSo_223 : decode cL_isSo 223 = .ok (.if_icmp .eq 5, 3) := by decide +kernel
theorem dL_isSo_226 : decode cL_isSo 226 = .ok (.iconst 0, 1) := by decide +kernel
theorem dL_isSo_227 : decode cL_isSo 227 = .ok (.ireturn, 1) := by decide +kernel
theorem dL_isSo_228 : decode cL_isSo 228 = .ok (.iload 10, 2) := by decide +kernel
theorem dL_isSo_230 : decode cL_isSo 230 = .ok (.iconst 1, 1) := by decide +kernel
theorem dL_isSo_231 : decode cL_isSo 231 = .ok (.if_icmp .ne 31, 3) := by decide +kernel
theorem dL_isSo_234 : decode cL_isSo 234 = .ok (.iload 12, 2) := by decide +kernel
theorem dL_isSo_236 : decode cL_isSo 236 = .ok (.iconst 1, 1) := by decide +kernel
theorem dL_isSo_237 : decode cL_isSo 237 = .ok (.if_icmp .ne 25, 3) := by decide +kernel
theorem dL_isSo_240 : decode cL_isSo 240 = .ok (.aload_n 3, 1) := by decide +kernel
theorem dL_isSo_241 : decode cL_isSo 241 = .ok (.iload 11, 2) := by decide +kernel
theorem dL_isSo_243 : decode cL_isSo 243 = .ok (.iload 9, 2) := by decide +kernel
theorem dL_isSo_245 : decode cL_isSo 245 = .ok (.iastore, 1) := by decide +kernel
theorem dL_isSo_246 : decode cL_isSo 246 = .ok (.aload_n 0, 1) := by decide +kernel
theorem dL_isSo_247 : decode cL_isSo 247 = .ok (.iload 8, 2) := by decide +kernel
theorem dL_isSo_249 : decode cL_isSo 249 = .ok (.invokevirtual 51, 3) := by decide +kernel
theorem dL_isSo_252 : decode cL_isSo 252 = .ok (.iload 11, 2) := by decide +kernel
theorem dL_isSo_254 : decode cL_isSo 254 = .ok (.if_icmp .eq 5, 3) := by decide +kernel
theorem dL_isSo_257 : decode cL_isSo 257 = .ok (.iconst 0, 1) := by decide +kernel
theorem dL_isSo_258 : decode cL_isSo 258 = .ok (.ireturn, 1) := by decide +kernel
theorem dL_isSo_259 : decode cL_isSo 259 = .ok (.iinc 8 1, 3) := by decide +kernel
theorem dL_isSo_262 : decode cL_isSo 262 = .ok (.aload 4, 2) := by decide +kernel
theorem dL_isSo_264 : decode cL_isSo 264 = .ok (.iload 12, 2) := by decide +kernel
theorem dL_isSo_266 : decode cL_isSo 266 = .ok (.dup2, 1) := by decide +kernel
theorem dL_isSo_267 : decode cL_isSo 267 = .ok (.iaload, 1) := by decide +kernel
theorem dL_isSo_268 : decode cL_isSo 268 = .ok (.iconst 1, 1) := by decide +kernel
theorem dL_isSo_269 : decode cL_isSo 269 = .ok (.iadd, 1) := by decide +kernel
theorem dL_isSo_270 : decode cL_isSo 270 = .ok (.iastore, 1) := by decide +kernel
theorem dL_isSo_271 : decode cL_isSo 271 = .ok (.iload 5, 2) := by decide +kernel
theorem dL_isSo_273 : decode cL_isSo 273 = .ok (.iload 10, 2) := by decide +kernel
theorem dL_isSo_275 : decode cL_isSo 275 = .ok (.iconst 1, 1) := by decide +kernel
theorem dL_isSo_276 : decode cL_isSo 276 = .ok (.if_icmp .le 7, 3) := by decide +kernel
theorem dL_isSo_279 : decode cL_isSo 279 = .ok (.iconst 1, 1) := by decide +kernel
theorem dL_isSo_280 : decode cL_isSo 280 = .ok (.goto 4, 3) := by decide +kernel
theorem dL_isSo_283 : decode cL_isSo 283 = .ok (.iconst 0, 1) := by decide +kernel
theorem dL_isSo_284 : decode cL_isSo 284 = .ok (.iadd, 1) := by decide +kernel
theorem dL_isSo_285 : decode cL_isSo 285 = .ok (.istore 5, 2) := by decide +kernel
theorem dL_isSo_287 : decode cL_isSo 287 = .ok (.iload 6, 2) := by decide +kernel
theorem dL_isSo_289 : decode cL_isSo 289 = .ok (.aload_n 0, 1) := by decide +kernel
theorem dL_isSo_290 : decode cL_isSo 290 = .ok (.iload 9, 2) := by decide +kernel
theorem dL_isSo_292 : decode cL_isSo 292 = .ok (.iconst 4, 1) := by decide +kernel
theorem dL_isSo_293 : decode cL_isSo 293 = .ok (.invokevirtual 48, 3) := by decide +kernel
theorem dL_isSo_296 : decode cL_isSo 296 = .ok (.iadd, 1) := by decide +kernel
theorem dL_isSo_297 : decode cL_isSo 297 = .ok (.istore 6, 2) := by decide +kernel
theorem dL_isSo_299 : decode cL_isSo 299 = .ok (.iload 7, 2) := by decide +kernel
theorem dL_isSo_301 : decode cL_isSo 301 = .ok (.aload_n 0, 1) := by decide +kernel
theorem dL_isSo_302 : decode cL_isSo 302 = .ok (.iload 9, 2) := by decide +kernel
theorem dL_isSo_304 : decode cL_isSo 304 = .ok (.iconst 3, 1) := by decide +kernel
theorem dL_isSo_305 : decode cL_isSo 305 = .ok (.invokevirtual 48, 3) := by decide +kernel
theorem dL_isSo_308 : decode cL_isSo 308 = .ok (.invokestatic 54, 3) := by decide +kernel
theorem dL_isSo_311 : decode cL_isSo 311 = .ok (.istore 7, 2) := by decide +kernel
theorem dL_isSo_313 : decode cL_isSo 313 = .ok (.iinc 9 1, 3) := by decide +kernel
theorem dL_isSo_316 : decode cL_isSo 316 = .ok (.goto (-259), 3) := by decide +kernel
theorem dL_isSo_319 : decode cL_isSo 319 = .ok (.iconst (-1), 1) := by decide +kernel
theorem dL_isSo_320 : decode cL_isSo 320 = .ok (.istore 9, 2) := by decide +kernel
theorem dL_isSo_322 : decode cL_isSo 322 = .ok (.iconst 0, 1) := by decide +kernel
theorem dL_isSo_323 : decode cL_isSo 323 = .ok (.istore 10, 2) := by decide +kernel
theorem dL_isSo_325 : decode cL_isSo 325 = .ok (.iload 10, 2) := by decide +kernel
theorem dL_isSo_327 : decode cL_isSo 327 = .ok (.aload_n 1, 1) := by decide +kernel
theorem dL_isSo_328 : decode cL_isSo 328 = .ok (.getfield 28, 3) := by decide +kernel
theorem dL_isSo_331 : decode cL_isSo 331 = .ok (.if_icmp .ge 48, 3) := by decide +kernel
theorem dL_isSo_334 : decode cL_isSo 334 = .ok (.aload_n 0, 1) := by decide +kernel
theorem dL_isSo_335 : decode cL_isSo 335 = .ok (.iload 10, 2) := by decide +kernel
theorem dL_isSo_337 : decode cL_isSo 337 = .ok (.invokevirtual 59, 3) := by decide +kernel
theorem dL_isSo_340 : decode cL_isSo 340 = .ok (.aload_n 3, 1) := by decide +kernel
theorem dL_isSo_341 : decode cL_isSo 341 = .ok (.iload 10, 2) := by decide +kernel
theorem dL_isSo_343 : decode cL_isSo 343 = .ok (.iaload, 1) := by decide +kernel
theorem dL_isSo_344 : decode cL_isSo 344 = .ok (.if_icmp .ne 16, 3) := by decide +kernel
theorem dL_isSo_347 : decode cL_isSo 347 = .ok (.aload_n 0, 1) := by decide +kernel
theorem dL_isSo_348 : decode cL_isSo 348 = .ok (.iload 10, 2) := by decide +kernel
theorem dL_isSo_350 : decode cL_isSo 350 = .ok (.invokevirtual 62, 3) := by decide +kernel
theorem dL_isSo_353 : decode cL_isSo 353 = .ok (.aload_n 2, 1) := by decide +kernel
theorem dL_isSo_354 : decode cL_isSo 354 = .ok (.iload 10, 2) := by decide +kernel
theorem dL_isSo_356 : decode cL_isSo 356 = .ok (.iaload, 1) := by decide +kernel
theorem dL_isSo_357 : decode cL_isSo 357 = .ok (.if_icmp .eq 5, 3) := by decide +kernel
theorem dL_isSo_360 : decode cL_isSo 360 = .ok (.iconst 0, 1) := by decide +kernel
theorem dL_isSo_361 : decode cL_isSo 361 = .ok (.ireturn, 1) := by decide +kernel
theorem dL_isSo_362 : decode cL_isSo 362 = .ok (.iload 9, 2) := by decide +kernel
theorem dL_isSo_364 : decode cL_isSo 364 = .ok (.aload_n 3, 1) := by decide +kernel
theorem dL_isSo_365 : decode cL_isSo 365 = .ok (.iload 10, 2) := by decide +kernel
theorem dL_isSo_367 : decode cL_isSo 367 = .ok (.iaload, 1) := by decide +kernel
theorem dL_isSo_368 : decode cL_isSo 368 = .ok (.invokestatic 54, 3) := by decide +kernel
theorem dL_isSo_371 : decode cL_isSo 371 = .ok (.istore 9, 2) := by decide +kernel
theorem dL_isSo_373 : decode cL_isSo 373 = .ok (.iinc 10 1, 3) := by decide +kernel
theorem dL_isSo_376 : decode cL_isSo 376 = .ok (.goto (-51), 3) := by decide +kernel
theorem dL_isSo_379 : decode cL_isSo 379 = .ok (.iconst 0, 1) := by decide +kernel
theorem dL_isSo_380 : decode cL_isSo 380 = .ok (.istore 10, 2) := by decide +kernel
theorem dL_isSo_382 : decode cL_isSo 382 = .ok (.iload 10, 2) := by decide +kernel
theorem dL_isSo_384 : decode cL_isSo 384 = .ok (.iconst 3, 1) := by decide +kernel
theorem dL_isSo_385 : decode cL_isSo 385 = .ok (.if_icmp .ge 25, 3) := by decide +kernel
theorem dL_isSo_388 : decode cL_isSo 388 = .ok (.aload_n 0, 1) := by decide +kernel
theorem dL_isSo_389 : decode cL_isSo 389 = .ok (.iload 10, 2) := by decide +kernel
theorem dL_isSo_391 : decode cL_isSo 391 = .ok (.invokevirtual 65, 3) := by decide +kernel
theorem dL_isSo_394 : decode cL_isSo 394 = .ok (.aload 4, 2) := by decide +kernel
theorem dL_isSo_396 : decode cL_isSo 396 = .ok (.iload 10, 2) := by decide +kernel
theorem dL_isSo_398 : decode cL_isSo 398 = .ok (.iaload, 1) := by decide +kernel
theorem dL_isSo_399 : decode cL_isSo 399 = .ok (.if_icmp .eq 5, 3) := by decide +kernel
theorem dL_isSo_402 : decode cL_isSo 402 = .ok (.iconst 0, 1) := by decide +kernel
theorem dL_isSo_403 : decode cL_isSo 403 = .ok (.ireturn, 1) := by decide +kernel
theorem dL_isSo_404 : decode cL_isSo 404 = .ok (.iinc 10 1, 3) := by decide +kernel
theorem dL_isSo_407 : decode cL_isSo 407 = .ok (.goto (-25), 3) := by decide +kernel
theorem dL_isSo_410 : decode cL_isSo 410 = .ok (.aload_n 0, 1) := by decide +kernel
theorem dL_isSo_411 : decode cL_isSo 411 = .ok (.invokevirtual 67, 3) := by decide +kernel
theorem dL_isSo_414 : decode cL_isSo 414 = .ok (.iload 8, 2) := by decide +kernel
theorem dL_isSo_416 : decode cL_isSo 416 = .ok (.if_icmp .ne 66, 3) := by decide +kernel
theorem dL_isSo_419 : decode cL_isSo 419 = .ok (.aload_n 0, 1) := by decide +kernel
theorem dL_isSo_420 : decode cL_isSo 420 = .ok (.iload 8, 2) := by decide +kernel
theorem dL_isSo_422 : decode cL_isSo 422 = .ok (.invokevirtual 51, 3) := by decide +kernel
theorem dL_isSo_425 : decode cL_isSo 425 = .ok (.iconst (-1), 1) := by decide +kernel
theorem dL_isSo_426 : decode cL_isSo 426 = .ok (.if_icmp .ne 56, 3) := by decide +kernel
theorem dL_isSo_429 : decode cL_isSo 429 = .ok (.aload_n 0, 1) := by decide +kernel
theorem dL_isSo_430 : decode cL_isSo 430 = .ok (.invokevirtual 70, 3) := by decide +kernel
theorem dL_isSo_433 : decode cL_isSo 433 = .ok (.iload 8, 2) := by decide +kernel
theorem dL_isSo_435 : decode cL_isSo 435 = .ok (.aload_n 1, 1) := by decide +kernel
theorem dL_isSo_436 : decode cL_isSo 436 = .ok (.getfield 28, 3) := by decide +kernel
theorem dL_isSo_439 : decode cL_isSo 439 = .ok (.if_icmp .ne 8, 3) := by decide +kernel
theorem dL_isSo_442 : decode cL_isSo 442 = .ok (.iload 9, 2) := by decide +kernel
theorem dL_isSo_444 : decode cL_isSo 444 = .ok (.goto 4, 3) := by decide +kernel
theorem dL_isSo_447 : decode cL_isSo 447 = .ok (.iconst (-1), 1) := by decide +kernel
theorem dL_isSo_448 : decode cL_isSo 448 = .ok (.if_icmp .ne 34, 3) := by decide +kernel
theorem dL_isSo_451 : decode cL_isSo 451 = .ok (.aload_n 0, 1) := by decide +kernel
theorem dL_isSo_452 : decode cL_isSo 452 = .ok (.invokevirtual 73, 3) := by decide +kernel
theorem dL_isSo_455 : decode cL_isSo 455 = .ok (.iload 5, 2) := by decide +kernel
theorem dL_isSo_457 : decode cL_isSo 457 = .ok (.if_icmp .ne 25, 3) := by decide +kernel
theorem dL_isSo_460 : decode cL_isSo 460 = .ok (.aload_n 0, 1) := by decide +kernel
theorem dL_isSo_461 : decode cL_isSo 461 = .ok (.invokevirtual 76, 3) := by decide +kernel
theorem dL_isSo_464 : decode cL_isSo 464 = .ok (.iload 6, 2) := by decide +kernel
theorem dL_isSo_466 : decode cL_isSo 466 = .ok (.if_icmp .ne 16, 3) := by decide +kernel
theorem dL_isSo_469 : decode cL_isSo 469 = .ok (.aload_n 0, 1) := by decide +kernel
theorem dL_isSo_470 : decode cL_isSo 470 = .ok (.invokevirtual 79, 3) := by decide +kernel
theorem dL_isSo_473 : decode cL_isSo 473 = .ok (.iload 7, 2) := by decide +kernel
theorem dL_isSo_475 : decode cL_isSo 475 = .ok (.if_icmp .ne 7, 3) := by decide +kernel
theorem dL_isSo_478 : decode cL_isSo 478 = .ok (.iconst 1, 1) := by decide +kernel
theorem dL_isSo_479 : decode cL_isSo 479 = .ok (.goto 4, 3) := by decide +kernel
theorem dL_isSo_482 : decode cL_isSo 482 = .ok (.iconst 0, 1) := by decide +kernel
theorem dL_isSo_483 : decode cL_isSo 483 = .ok (.ireturn, 1) := by decide +kernel
theorem dL_isCounted_0 : decode cL_isCounted 0 = .ok (.aload_n 1, 1) := by decide +kernel
theorem dL_isCounted_1 : decode cL_isCounted 1 = .ok (.getfield 28, 3) := by decide +kernel
theorem dL_isCounted_4 : decode cL_isCounted 4 = .ok (.newarray .int, 2) := by decide +kernel
theorem dL_isCounted_6 : decode cL_isCounted 6 = .ok (.astore_n 2, 1) := by decide +kernel
theorem dL_isCounted_7 : decode cL_isCounted 7 = .ok (.aload_n 1, 1) := by decide +kernel
theorem dL_isCounted_8 : decode cL_isCounted 8 = .ok (.getfield 28, 3) := by decide +kernel
theorem dL_isCounted_11 : decode cL_isCounted 11 = .ok (.newarray .int, 2) := by decide +kernel
theorem dL_isCounted_13 : decode cL_isCounted 13 = .ok (.astore_n 3, 1) := by decide +kernel
theorem dL_isCounted_14 : decode cL_isCounted 14 = .ok (.aload_n 1, 1) := by decide +kernel
theorem dL_isCounted_15 : decode cL_isCounted 15 = .ok (.getfield 28, 3) := by decide +kernel
theorem dL_isCounted_18 : decode cL_isCounted 18 = .ok (.newarray .boolean, 2) := by decide +kernel
theorem dL_isCounted_20 : decode cL_isCounted 20 = .ok (.astore 4, 2) := by decide +kernel
theorem dL_isCounted_22 : decode cL_isCounted 22 = .ok (.iconst 0, 1) := by decide +kernel
theorem dL_isCounted_23 : decode cL_isCounted 23 = .ok (.istore 5, 2) := by decide +kernel
theorem dL_isCounted_25 : decode cL_isCounted 25 = .ok (.iload 5, 2) := by decide +kernel
theorem dL_isCounted_27 : decode cL_isCounted 27 = .ok (.aload_n 1, 1) := by decide +kernel
theorem dL_isCounted_28 : decode cL_isCounted 28 = .ok (.getfield 34, 3) := by decide +kernel
theorem dL_isCounted_31 : decode cL_isCounted 31 = .ok (.if_icmp .ge 297, 3) := by decide +kernel
theorem dL_isCounted_34 : decode cL_isCounted 34 = .ok (.iconst 0, 1) := by decide +kernel
theorem dL_isCounted_35 : decode cL_isCounted 35 = .ok (.istore 6, 2) := by decide +kernel
theorem dL_isCounted_37 : decode cL_isCounted 37 = .ok (.iconst 0, 1) := by decide +kernel
theorem dL_isCounted_38 : decode cL_isCounted 38 = .ok (.istore 7, 2) := by decide +kernel
theorem dL_isCounted_40 : decode cL_isCounted 40 = .ok (.iload 7, 2) := by decide +kernel
theorem dL_isCounted_42 : decode cL_isCounted 42 = .ok (.aload_n 1, 1) := by decide +kernel
theorem dL_isCounted_43 : decode cL_isCounted 43 = .ok (.getfield 28, 3) := by decide +kernel
theorem dL_isCounted_46 : decode cL_isCounted 46 = .ok (.if_icmp .ge 81, 3) := by decide +kernel
theorem dL_isCounted_49 : decode cL_isCounted 49 = .ok (.aload 4, 2) := by decide +kernel
theorem dL_isCounted_51 : decode cL_isCounted 51 = .ok (.iload 7, 2) := by decide +kernel
theorem dL_isCounted_53 : decode cL_isCounted 53 = .ok (.baload, 1) := by decide +kernel
theorem dL_isCounted_54 : decode cL_isCounted 54 = .ok (.ifCond .ne 26, 3) := by decide +kernel
theorem dL_isCounted_57 : decode cL_isCounted 57 = .ok (.aload_n 1, 1) := by decide +kernel
theorem dL_isCounted_58 : decode cL_isCounted 58 = .ok (.getfield 41, 3) := by decide +kernel
theorem dL_isCounted_61 : decode cL_isCounted 61 = .ok (.iload 7, 2) := by decide +kernel
theorem dL_isCounted_63 : decode cL_isCounted 63 = .ok (.iaload, 1) := by decide +kernel
theorem dL_isCounted_64 : decode cL_isCounted 64 = .ok (.iload 5, 2) := by decide +kernel
theorem dL_isCounted_66 : decode cL_isCounted 66 = .ok (.if_icmp .gt 14, 3) := by decide +kernel
theorem dL_isCounted_69 : decode cL_isCounted 69 = .ok (.aload_n 2, 1) := by decide +kernel
theorem dL_isCounted_70 : decode cL_isCounted 70 = .ok (.iload 7, 2) := by decide +kernel
theorem dL_isCounted_72 : decode cL_isCounted 72 = .ok (.iaload, 1) := by decide +kernel
theorem dL_isCounted_73 : decode cL_isCounted 73 = .ok (.ifCond .ne 7, 3) := by decide +kernel
theorem dL_isCounted_76 : decode cL_isCounted 76 = .ok (.iconst 1, 1) := by decide +kernel
theorem dL_isCounted_77 : decode cL_isCounted 77 = .ok (.goto 4, 3) := by decide +kernel
theorem dL_isCounted_80 : decode cL_isCounted 80 = .ok (.iconst 0, 1) := by decide +kernel
theorem dL_isCounted_81 : decode cL_isCounted 81 = .ok (.istore 8, 2) := by decide +kernel
theorem dL_isCounted_83 : decode cL_isCounted 83 = .ok (.aload_n 0, 1) := by decide +kernel
theorem dL_isCounted_84 : decode cL_isCounted 84 = .ok (.iload 5, 2) := by decide +kernel
theorem dL_isCounted_86 : decode cL_isCounted 86 = .ok (.iload 7, 2) := by decide +kernel
theorem dL_isCounted_88 : decode cL_isCounted 88 = .ok (.invokevirtual 37, 3) := by decide +kernel
theorem dL_isCounted_91 : decode cL_isCounted 91 = .ok (.iload 8, 2) := by decide +kernel
theorem dL_isCounted_93 : decode cL_isCounted 93 = .ok (.ifCond .eq 7, 3) := by decide +kernel
theorem dL_isCounted_96 : decode cL_isCounted 96 = .ok (.iconst 1, 1) := by decide +kernel
theorem dL_isCounted_97 : decode cL_isCounted 97 = .ok (.goto 4, 3) := by decide +kernel
theorem dL_isCounted_100 : decode cL_isCounted 100 = .ok (.iconst 0, 1) := by decide +kernel
theorem dL_isCounted_101 : decode cL_isCounted 101 = .ok (.if_icmp .eq 5, 3) := by decide +kernel
theorem dL_isCounted_104 : decode cL_isCounted 104 = .ok (.iconst 0, 1) := by decide +kernel
theorem dL_isCounted_105 : decode cL_isCounted 105 = .ok (.ireturn, 1) := by decide +kernel
theorem dL_isCounted_106 : decode cL_isCounted 106 = .ok (.iload 6, 2) := by decide +kernel
theorem dL_isCounted_108 : decode cL_isCounted 108 = .ok (.iload 8, 2) := by decide +kernel
theorem dL_isCounted_110 : decode cL_isCounted 110 = .ok (.ifCond .eq 7, 3) := by decide +kernel
theorem dL_isCounted_113 : decode cL_isCounted 113 = .ok (.iconst 1, 1) := by decide +kernel
theorem dL_isCounted_114 : decode cL_isCounted 114 = .ok (.goto 4, 3) := by decide +kernel
theorem dL_isCounted_117 : decode cL_isCounted 117 = .ok (.iconst 0, 1) := by decide +kernel
theorem dL_isCounted_118 : decode cL_isCounted 118 = .ok (.iadd, 1) := by decide +kernel
theorem dL_isCounted_119 : decode cL_isCounted 119 = .ok (.istore 6, 2) := by decide +kernel
theorem dL_isCounted_121 : decode cL_isCounted 121 = .ok (.iinc 7 1, 3) := by decide +kernel
theorem dL_isCounted_124 : decode cL_isCounted 124 = .ok (.goto (-84), 3) := by decide +kernel
theorem dL_isCounted_127 : decode cL_isCounted 127 = .ok (.aload_n 1, 1) := by decide +kernel
theorem dL_isCounted_128 : decode cL_isCounted 128 = .ok (.iload 5, 2) := by decide +kernel
theorem dL_isCounted_130 : decode cL_isCounted 130 = .ok (.iload 6, 2) := by decide +kernel
theorem dL_isCounted_132 : decode cL_isCounted 132 = .ok (.invokevirtual 45, 3) := by decide +kernel
theorem dL_isCounted_135 : decode cL_isCounted 135 = .ok (.istore 7, 2) := by decide +kernel
theorem dL_isCounted_137 : decode cL_isCounted 137 = .ok (.iconst 0, 1) := by decide +kernel
theorem dL_isCounted_138 : decode cL_isCounted 138 = .ok (.istore 8, 2) := by decide +kernel
theorem dL_isCounted_140 : decode cL_isCounted 140 = .ok (.iconst 0, 1) := by decide +kernel
theorem dL_isCounted_141 : decode cL_isCounted 141 = .ok (.istore 9, 2) := by decide +kernel
theorem dL_isCounted_143 : decode cL_isCounted 143 = .ok (.iload 9, 2) := by decide +kernel
theorem dL_isCounted_145 : decode cL_isCounted 145 = .ok (.aload_n 1, 1) := by decide +kernel
theorem dL_isCounted_146 : decode cL_isCounted 146 = .ok (.getfield 28, 3) := by decide +kernel
theorem dL_isCounted_149 : decode cL_isCounted 149 = .ok (.if_icmp .ge 149, 3) := by decide +kernel
theorem dL_isCounted_152 : decode cL_isCounted 152 = .ok (.aload 4, 2) := by decide +kernel
theorem dL_isCounted_154 : decode cL_isCounted 154 = .ok (.iload 9, 2) := by decide +kernel
theorem dL_isCounted_156 : decode cL_isCounted 156 = .ok (.baload, 1) := by decide +kernel
theorem dL_isCounted_157 : decode cL_isCounted 157 = .ok (.ifCond .ne 135, 3) := by decide +kernel
theorem dL_isCounted_160 : decode cL_isCounted 160 = .ok (.aload_n 1, 1) := by decide +kernel
theorem dL_isCounted_161 : decode cL_isCounted 161 = .ok (.getfield 41, 3) := by decide +kernel
theorem dL_isCounted_164 : decode cL_isCounted 164 = .ok (.iload 9, 2) := by decide +kernel
theorem dL_isCounted_166 : decode cL_isCounted 166 = .ok (.iaload, 1) := by decide +kernel
theorem dL_isCounted_167 : decode cL_isCounted 167 = .ok (.iload 5, 2) := by decide +kernel
theorem dL_isCounted_169 : decode cL_isCounted 169 = .ok (.if_icmp .le 6, 3) := by decide +kernel
theorem dL_isCounted_172 : decode cL_isCounted 172 = .ok (.goto 120, 3) := by decide +kernel
theorem dL_isCounted_175 : decode cL_isCounted 175 = .ok (.aload_n 2, 1) := by decide +kernel
theorem dL_isCounted_176 : decode cL_isCounted 176 = .ok (.iload 9, 2) := by decide +kernel
theorem dL_isCounted_178 : decode cL_isCounted 178 = .ok (.iaload, 1) := by decide +kernel
theorem dL_isCounted_179 : decode cL_isCounted 179 = .ok (.ifCond .le 24, 3) := by decide +kernel
theorem dL_isCounted_182 : decode cL_isCounted 182 = .ok (.aload_n 2, 1) := by decide +kernel
theorem dL_isCounted_183 : decode cL_isCounted 183 = .ok (.iload 9, 2) := by decide +kernel
theorem dL_isCounted_185 : decode cL_isCounted 185 = .ok (.dup2, 1) := by decide +kernel
theorem dL_isCounted_186 : decode cL_isCounted 186 = .ok (.iaload, 1) := by decide +kernel
theorem dL_isCounted_187 : decode cL_isCounted 187 = .ok (.iload 7, 2) := by decide +kernel
theorem dL_isCounted_189 : decode cL_isCounted 189 = .ok (.iconst 2, 1) := by decide +kernel
theorem dL_isCounted_190 : decode cL_isCounted 190 = .ok (.if_icmp .ne 7, 3) := by decide +kernel
theorem dL_isCounted_193 : decode cL_isCounted 193 = .ok (.iconst 1, 1) := by decide +kernel
theorem dL_isCounted_194 : decode cL_isCounted 194 = .ok (.goto 4, 3) := by decide +kernel
theorem dL_isCounted_197 : decode cL_isCounted 197 = .ok (.iconst (-1), 1) := by decide +kernel
theorem dL_isCounted_198 : decode cL_isCounted 198 = .ok (.iadd, 1) := by decide +kernel
theorem dL_isCounted_199 : decode cL_isCounted 199 = .ok (.iastore, 1) := by decide +kernel
theorem dL_isCounted_200 : decode cL_isCounted 200 = .ok (.goto 71, 3) := by decide +kernel
theorem dL_isCounted_203 : decode cL_isCounted 203 = .ok (.iload 7, 2) := by decide +kernel
theorem dL_isCounted_205 : decode cL_isCounted 205 = .ok (.iconst 2, 1) := by decide +kernel
theorem dL_isCounted_206 : decode cL_isCounted 206 = .ok (.if_icmp .ne 43, 3) := by decide +kernel
theorem dL_isCounted_209 : decode cL_isCounted 209 = .ok (.aload_n 2, 1) := by decide +kernel
theorem dL_isCounted_210 : decode cL_isCounted 210 = .ok (.iload 9, 2) := by decide +kernel
theorem dL_isCounted_212 : decode cL_isCounted 212 = .ok (.aload_n 1, 1) := by decide +kernel
theorem dL_isCounted_213 : decode cL_isCounted 213 = .ok (.getfield 82, 3) := by decide +kernel
theorem dL_isCounted_216 : decode cL_isCounted 216 = .ok (.iload 9, 2) := by decide +kernel
theorem dL_isCounted_218 : decode cL_isCounted 218 = .ok (.aaload, 1) := by decide +kernel
theorem dL_isCounted_219 : decode cL_isCounted 219 = .ok (.aload_n 3, 1) := by decide +kernel
theorem dL_isCounted_220 : decode cL_isCounted 220 = .ok (.iload 9, 2) := by decide +kernel
theorem dL_isCounted_222 : decode cL_isCounted 222 = .ok (.dup2, 1) := by decide +kernel
theorem dL_isCounted_223 : decode cL_isCounted 223 = .ok (.iaload, 1) := by decide +kernel
theorem dL_isCounted_224 : decode cL_isCounted 224 = .ok (.dup_x2, 1) := by decide +kernel
theorem dL_isCounted_225 : decode cL_isCounted 225 = .ok (.iconst 1, 1) := by decide +kernel
theorem dL_isCounted_226 : decode cL_isCounted 226 = .ok (.iadd, 1) := by decide +kernel
theorem dL_isCounted_227 : decode cL_isCounted 227 = .ok (.iastore, 1) := by decide +kernel
theorem dL_isCounted_228 : decode cL_isCounted 228 = .ok (.aload_n 1, 1) := by decide +kernel
theorem dL_isCounted_229 : decode cL_isCounted 229 = .ok (.getfield 82, 3) := by decide +kernel
theorem dL_isCounted_232 : decode cL_isCounted 232 = .ok (.iload 9, 2) := by decide +kernel
theorem dL_isCounted_234 : decode cL_isCounted 234 = .ok (.aaload, 1) := by decide +kernel
theorem dL_isCounted_235 : decode cL_isCounted 235 = .ok (.invokevirtual 8, 3) := by decide +kernel
theorem dL_isCounted_238 : decode cL_isCounted 238 = .ok (.irem, 1) := by decide +kernel
theorem dL_isCounted_239 : decode cL_isCounted 239 = .ok (.invokevirtual 14, 3) := by decide +kernel
theorem dL_isCounted_242 : decode cL_isCounted 242 = .ok (.bipush 48, 2) := by decide +kernel
theorem dL_isCounted_244 : decode cL_isCounted 244 = .ok (.isub, 1) := by decide +kernel
theorem dL_isCounted_245 : decode cL_isCounted 245 = .ok (.iastore, 1) := by decide +kernel
theorem dL_isCounted_246 : decode cL_isCounted 246 = .ok (.goto 25, 3) := by decide +kernel
theorem dL_isCounted_249 : decode cL_isCounted 249 = .ok (.aload 4, 2) := by decide +kernel
theorem dL_isCounted_251 : decode cL_isCounted 251 = .ok (.iload 9, 2) := by decide +kernel
theorem dL_isCounted_253 : decode cL_isCounted 253 = .ok (.iload 7, 2) := by decide +kernel
theorem dL_isCounted_255 : decode cL_isCounted 255 = .ok (.iconst 1, 1) := by decide +kernel
theorem dL_isCounted_256 : decode cL_isCounted 256 = .ok (.if_icmp .ne 13, 3) := by decide +kernel
theorem dL_isCounted_259 : decode cL_isCounted 259 = .ok (.iload 6, 2) := by decide +kernel
theorem dL_isCounted_261 : decode cL_isCounted 261 = .ok (.iconst 1, 1) := by decide +kernel
theorem dL_isCounted_262 : decode cL_isCounted 262 = .ok (.if_icmp .ne 7, 3) := by decide +kernel
theorem dL_isCounted_265 : decode cL_isCounted 265 = .ok (.iconst 1, 1) := by decide +kernel
theorem dL_isCounted_266 : decode cL_isCounted 266 = .ok (.goto 4, 3) := by decide +kernel
theorem dL_isCounted_269 : decode cL_isCounted 269 = .ok (.iconst 0, 1) := by decide +kernel
theorem dL_isCounted_270 : decode cL_isCounted 270 = .ok (.bastore, 1) := by decide +kernel
theorem dL_isCounted_271 : decode cL_isCounted 271 = .ok (.aload 4, 2) := by decide +kernel
theorem dL_isCounted_273 : decode cL_isCounted 273 = .ok (.iload 9, 2) := by decide +kernel
theorem dL_isCounted_275 : decode cL_isCounted 275 = .ok (.baload, 1) := by decide +kernel
theorem dL_isCounted_276 : decode cL_isCounted 276 = .ok (.ifCond .ne 16, 3) := by decide +kernel
theorem dL_isCounted_279 : decode cL_isCounted 279 = .ok (.iload 8, 2) := by decide +kernel
theorem dL_isCounted_281 : decode cL_isCounted 281 = .ok (.aload_n 2, 1) := by decide +kernel
theorem dL_isCounted_282 : decode cL_isCounted 282 = .ok (.iload 9, 2) := by decide +kernel
theorem dL_isCounted_284 : decode cL_isCounted 284 = .ok (.iaload, 1) := by decide +kernel
theorem dL_isCounted_285 : decode cL_isCounted 285 = .ok (.iconst 1, 1) := by decide +kernel
theorem dL_isCounted_286 : decode cL_isCounted 286 = .ok (.iadd, 1) := by decide +kernel
theorem dL_isCounted_287 : decode cL_isCounted 287 = .ok (.invokestatic 54, 3) := by decide +kernel
theorem dL_isCounted_290 : decode cL_isCounted 290 = .ok (.istore 8, 2) := by decide +kernel
theorem dL_isCounted_292 : decode cL_isCounted 292 = .ok (.iinc 9 1, 3) := by decide +kernel
theorem dL_isCounted_295 : decode cL_isCounted 295 = .ok (.goto (-152), 3) := by decide +kernel
theorem dL_isCounted_298 : decode cL_isCounted 298 = .ok (.aload_n 0, 1) := by decide +kernel
theorem dL_isCounted_299 : decode cL_isCounted 299 = .ok (.iload 5, 2) := by decide +kernel
theorem dL_isCounted_301 : decode cL_isCounted 301 = .ok (.iconst 3, 1) := by decide +kernel
theorem dL_isCounted_302 : decode cL_isCounted 302 = .ok (.invokevirtual 48, 3) := by decide +kernel
theorem dL_isCounted_305 : decode cL_isCounted 305 = .ok (.iload 8, 2) := by decide +kernel
theorem dL_isCounted_307 : decode cL_isCounted 307 = .ok (.if_icmp .ne 13, 3) := by decide +kernel
theorem dL_isCounted_310 : decode cL_isCounted 310 = .ok (.aload_n 0, 1) := by decide +kernel
theorem dL_isCounted_311 : decode cL_isCounted 311 = .ok (.iload 5, 2) := by decide +kernel
theorem dL_isCounted_313 : decode cL_isCounted 313 = .ok (.iconst 4, 1) := by decide +kernel
theorem dL_isCounted_314 : decode cL_isCounted 314 = .ok (.invokevirtual 48, 3) := by decide +kernel
theorem dL_isCounted_317 : decode cL_isCounted 317 = .ok (.ifCond .eq 5, 3) := by decide +kernel
theorem dL_isCounted_320 : decode cL_isCounted 320 = .ok (.iconst 0, 1) := by decide +kernel
theorem dL_isCounted_321 : decode cL_isCounted 321 = .ok (.ireturn, 1) := by decide +kernel
theorem dL_isCounted_322 : decode cL_isCounted 322 = .ok (.iinc 5 1, 3) := by decide +kernel
theorem dL_isCounted_325 : decode cL_isCounted 325 = .ok (.goto (-300), 3) := by decide +kernel
theorem dL_isCounted_328 : decode cL_isCounted 328 = .ok (.iconst 0, 1) := by decide +kernel
theorem dL_isCounted_329 : decode cL_isCounted 329 = .ok (.istore 5, 2) := by decide +kernel
theorem dL_isCounted_331 : decode cL_isCounted 331 = .ok (.iload 5, 2) := by decide +kernel
theorem dL_isCounted_333 : decode cL_isCounted 333 = .ok (.aload_n 1, 1) := by decide +kernel
theorem dL_isCounted_334 : decode cL_isCounted 334 = .ok (.getfield 28, 3) := by decide +kernel
theorem dL_isCounted_337 : decode cL_isCounted 337 = .ok (.if_icmp .ge 24, 3) := by decide +kernel
theorem dL_isCounted_340 : decode cL_isCounted 340 = .ok (.aload_n 0, 1) := by decide +kernel
theorem dL_isCounted_341 : decode cL_isCounted 341 = .ok (.iload 5, 2) := by decide +kernel
theorem dL_isCounted_343 : decode cL_isCounted 343 = .ok (.invokevirtual 86, 3) := by decide +kernel
theorem dL_isCounted_346 : decode cL_isCounted 346 = .ok (.aload_n 3, 1) := by decide +kernel
theorem dL_isCounted_347 : decode cL_isCounted 347 = .ok (.iload 5, 2) := by decide +kernel
theorem dL_isCounted_349 : decode cL_isCounted 349 = .ok (.iaload, 1) := by decide +kernel
theorem dL_isCounted_350 : decode cL_isCounted 350 = .ok (.if_icmp .eq 5, 3) := by decide +kernel
theorem dL_isCounted_353 : decode cL_isCounted 353 = .ok (.iconst 0, 1) := by decide +kernel
theorem dL_isCounted_354 : decode cL_isCounted 354 = .ok (.ireturn, 1) := by decide +kernel
theorem dL_isCounted_355 : decode cL_isCounted 355 = .ok (.iinc 5 1, 3) := by decide +kernel
theorem dL_isCounted_358 : decode cL_isCounted 358 = .ok (.goto (-27), 3) := by decide +kernel
theorem dL_isCounted_361 : decode cL_isCounted 361 = .ok (.aload_n 0, 1) := by decide +kernel
theorem dL_isCounted_362 : decode cL_isCounted 362 = .ok (.invokevirtual 89, 3) := by decide +kernel
theorem dL_isCounted_365 : decode cL_isCounted 365 = .ok (.ifCond .ne 7, 3) := by decide +kernel
theorem dL_isCounted_368 : decode cL_isCounted 368 = .ok (.iconst 1, 1) := by decide +kernel
theorem dL_isCounted_369 : decode cL_isCounted 369 = .ok (.goto 4, 3) := by decide +kernel
theorem dL_isCounted_372 : decode cL_isCounted 372 = .ok (.iconst 0, 1) := by decide +kernel
theorem dL_isCounted_373 : decode cL_isCounted 373 = .ok (.ireturn, 1) := by decide +kernel
theorem dL_law_0 : decode cL_law 0 = .ok (.new 19, 3) := by decide +kernel
theorem dL_law_3 : decode cL_law 3 = .ok (.dup, 1) := by decide +kernel
theorem dL_law_4 : decode cL_law 4 = .ok (.invokespecial 92, 3) := by decide +kernel
theorem dL_law_7 : decode cL_law 7 = .ok (.astore_n 1, 1) := by decide +kernel
theorem dL_law_8 : decode cL_law 8 = .ok (.new 29, 3) := by decide +kernel
theorem dL_law_11 : decode cL_law 11 = .ok (.dup, 1) := by decide +kernel
theorem dL_law_12 : decode cL_law 12 = .ok (.aload_n 0, 1) := by decide +kernel
theorem dL_law_13 : decode cL_law 13 = .ok (.iconst 1, 1) := by decide +kernel
theorem dL_law_14 : decode cL_law 14 = .ok (.invokespecial 93, 3) := by decide +kernel
theorem dL_law_17 : decode cL_law 17 = .ok (.astore_n 2, 1) := by decide +kernel
theorem dL_law_18 : decode cL_law 18 = .ok (.aload_n 1, 1) := by decide +kernel
theorem dL_law_19 : decode cL_law 19 = .ok (.aload_n 2, 1) := by decide +kernel
theorem dL_law_20 : decode cL_law 20 = .ok (.getfield 96, 3) := by decide +kernel
theorem dL_law_23 : decode cL_law 23 = .ok (.invokestatic 100, 3) := by decide +kernel
theorem dL_law_26 : decode cL_law 26 = .ok (.ifCond .eq 45, 3) := by decide +kernel
theorem dL_law_29 : decode cL_law 29 = .ok (.aload_n 1, 1) := by decide +kernel
theorem dL_law_30 : decode cL_law 30 = .ok (.invokevirtual 106, 3) := by decide +kernel
theorem dL_law_33 : decode cL_law 33 = .ok (.iconst 1, 1) := by decide +kernel
theorem dL_law_34 : decode cL_law 34 = .ok (.aload_n 2, 1) := by decide +kernel
theorem dL_law_35 : decode cL_law 35 = .ok (.getfield 28, 3) := by decide +kernel
theorem dL_law_38 : decode cL_law 38 = .ok (.iadd, 1) := by decide +kernel
theorem dL_law_39 : decode cL_law 39 = .ok (.aload_n 2, 1) := by decide +kernel
theorem dL_law_40 : decode cL_law 40 = .ok (.getfield 109, 3) := by decide +kernel
theorem dL_law_43 : decode cL_law 43 = .ok (.iadd, 1) := by decide +kernel
theorem dL_law_44 : decode cL_law 44 = .ok (.if_icmp .ne 27, 3) := by decide +kernel
theorem dL_law_47 : decode cL_law 47 = .ok (.aload_n 1, 1) := by decide +kernel
theorem dL_law_48 : decode cL_law 48 = .ok (.aload_n 2, 1) := by decide +kernel
theorem dL_law_49 : decode cL_law 49 = .ok (.invokestatic 112, 3) := by decide +kernel
theorem dL_law_52 : decode cL_law 52 = .ok (.ifCond .eq 19, 3) := by decide +kernel
theorem dL_law_55 : decode cL_law 55 = .ok (.aload_n 2, 1) := by decide +kernel
theorem dL_law_56 : decode cL_law 56 = .ok (.getfield 116, 3) := by decide +kernel
theorem dL_law_59 : decode cL_law 59 = .ok (.iconst 2, 1) := by decide +kernel
theorem dL_law_60 : decode cL_law 60 = .ok (.if_icmp .ne 13, 3) := by decide +kernel
theorem dL_law_63 : decode cL_law 63 = .ok (.aload_n 1, 1) := by decide +kernel
theorem dL_law_64 : decode cL_law 64 = .ok (.aload_n 2, 1) := by decide +kernel
theorem dL_law_65 : decode cL_law 65 = .ok (.invokestatic 119, 3) := by decide +kernel
theorem dL_law_68 : decode cL_law 68 = .ok (.ifCond .ne 5, 3) := by decide +kernel
theorem dL_law_71 : decode cL_law 71 = .ok (.iconst 0, 1) := by decide +kernel
theorem dL_law_72 : decode cL_law 72 = .ok (.ireturn, 1) := by decide +kernel
theorem dL_law_73 : decode cL_law 73 = .ok (.aload_n 1, 1) := by decide +kernel
theorem dL_law_74 : decode cL_law 74 = .ok (.invokevirtual 67, 3) := by decide +kernel
theorem dL_law_77 : decode cL_law 77 = .ok (.istore_n 3, 1) := by decide +kernel
theorem dL_law_78 : decode cL_law 78 = .ok (.iconst 0, 1) := by decide +kernel
theorem dL_law_79 : decode cL_law 79 = .ok (.istore 4, 2) := by decide +kernel
theorem dL_law_81 : decode cL_law 81 = .ok (.iload 4, 2) := by decide +kernel
theorem dL_law_83 : decode cL_law 83 = .ok (.iconst 4, 1) := by decide +kernel
theorem dL_law_84 : decode cL_law 84 = .ok (.if_icmp .ge 136, 3) := by decide +kernel
theorem dL_law_87 : decode cL_law 87 = .ok (.aload_n 1, 1) := by decide +kernel
theorem dL_law_88 : decode cL_law 88 = .ok (.iload 4, 2) := by decide +kernel
theorem dL_law_90 : decode cL_law 90 = .ok (.iconst 1, 1) := by decide +kernel
theorem dL_law_91 : decode cL_law 91 = .ok (.invokevirtual 122, 3) := by decide +kernel
theorem dL_law_94 : decode cL_law 94 = .ok (.istore 5, 2) := by decide +kernel
theorem dL_law_96 : decode cL_law 96 = .ok (.iload 4, 2) := by decide +kernel
theorem dL_law_98 : decode cL_law 98 = .ok (.aload_n 2, 1) := by decide +kernel
theorem dL_law_99 : decode cL_law 99 = .ok (.getfield 116, 3) := by decide +kernel
theorem dL_law_102 : decode cL_law 102 = .ok (.if_icmp .ne 22, 3) := by decide +kernel
theorem dL_law_105 : decode cL_law 105 = .ok (.aload_n 1, 1) := by decide +kernel
theorem dL_law_106 : decode cL_law 106 = .ok (.iload 4, 2) := by decide +kernel
theorem dL_law_108 : decode cL_law 108 = .ok (.invokevirtual 125, 3) := by decide +kernel
theorem dL_law_111 : decode cL_law 111 = .ok (.bipush (-5), 2) := by decide +kernel
theorem dL_law_113 : decode cL_law 113 = .ok (.if_icmp .ne 9, 3) := by decide +kernel
theorem dL_law_116 : decode cL_law 116 = .ok (.iload 5, 2) := by decide +kernel
theorem dL_law_118 : decode cL_law 118 = .ok (.iload_n 3, 1) := by decide +kernel
theorem dL_law_119 : decode cL_law 119 = .ok (.if_icmp .eq 95, 3) := by decide +kernel
theorem dL_law_122 : decode cL_law 122 = .ok (.iconst 0, 1) := by decide +kernel
theorem dL_law_123 : decode cL_law 123 = .ok (.ireturn, 1) := by decide +kernel
theorem dL_law_124 : decode cL_law 124 = .ok (.aload_n 1, 1) := by decide +kernel
theorem dL_law_125 : decode cL_law 125 = .ok (.iload 4, 2) := by decide +kernel
theorem dL_law_127 : decode cL_law 127 = .ok (.iconst 0, 1) := by decide +kernel
theorem dL_law_128 : decode cL_law 128 = .ok (.invokevirtual 122, 3) := by decide +kernel
theorem dL_law_131 : decode cL_law 131 = .ok (.istore 6, 2) := by decide +kernel
theorem dL_law_133 : decode cL_law 133 = .ok (.aload_n 1, 1) := by decide +kernel
theorem dL_law_134 : decode cL_law 134 = .ok (.iload 4, 2) := by decide +kernel
theorem dL_law_136 : decode cL_law 136 = .ok (.invokevirtual 125, 3) := by decide +kernel
theorem dL_law_139 : decode cL_law 139 = .ok (.iload 5, 2) := by decide +kernel
theorem dL_law_141 : decode cL_law 141 = .ok (.if_icmp .ne 62, 3) := by decide +kernel
theorem dL_law_144 : decode cL_law 144 = .ok (.aload_n 1, 1) := by decide +kernel
theorem dL_law_145 : decode cL_law 145 = .ok (.invokevirtual 70, 3) := by decide +kernel
theorem dL_law_148 : decode cL_law 148 = .ok (.iload 6, 2) := by decide +kernel
theorem dL_law_150 : decode cL_law 150 = .ok (.if_icmp .ne 53, 3) := by decide +kernel
theorem dL_law_153 : decode cL_law 153 = .ok (.aload_n 1, 1) := by decide +kernel
theorem dL_law_154 : decode cL_law 154 = .ok (.invokevirtual 73, 3) := by decide +kernel
theorem dL_law_157 : decode cL_law 157 = .ok (.aload_n 1, 1) := by decide +kernel
theorem dL_law_158 : decode cL_law 158 = .ok (.iload 4, 2) := by decide +kernel
theorem dL_law_160 : decode cL_law 160 = .ok (.iconst 2, 1) := by decide +kernel
theorem dL_law_161 : decode cL_law 161 = .ok (.invokevirtual 122, 3) := by decide +kernel
theorem dL_law_164 : decode cL_law 164 = .ok (.if_icmp .ne 39, 3) := by decide +kernel
theorem dL_law_167 : decode cL_law 167 = .ok (.aload_n 1, 1) := by decide +kernel
theorem dL_law_168 : decode cL_law 168 = .ok (.invokevirtual 76, 3) := by decide +kernel
theorem dL_law_171 : decode cL_law 171 = .ok (.aload_n 1, 1) := by decide +kernel
theorem dL_law_172 : decode cL_law 172 = .ok (.iload 4, 2) := by decide +kernel
theorem dL_law_174 : decode cL_law 174 = .ok (.iconst 3, 1) := by decide +kernel
theorem dL_law_175 : decode cL_law 175 = .ok (.invokevirtual 122, 3) := by decide +kernel
theorem dL_law_178 : decode cL_law 178 = .ok (.if_icmp .ne 25, 3) := by decide +kernel
theorem dL_law_181 : decode cL_law 181 = .ok (.aload_n 1, 1) := by decide +kernel
theorem dL_law_182 : decode cL_law 182 = .ok (.aload_n 2, 1) := by decide +kernel
theorem dL_law_183 : decode cL_law 183 = .ok (.invokestatic 112, 3) := by decide +kernel
theorem dL_law_186 : decode cL_law 186 = .ok (.ifCond .eq 17, 3) := by decide +kernel
theorem dL_law_189 : decode cL_law 189 = .ok (.iload 4, 2) := by decide +kernel
theorem dL_law_191 : decode cL_law 191 = .ok (.iconst 2, 1) := by decide +kernel
theorem dL_law_192 : decode cL_law 192 = .ok (.if_icmp .ne 13, 3) := by decide +kernel
theorem dL_law_195 : decode cL_law 195 = .ok (.aload_n 1, 1) := by decide +kernel
theorem dL_law_196 : decode cL_law 196 = .ok (.aload_n 2, 1) := by decide +kernel
theorem dL_law_197 : decode cL_law 197 = .ok (.invokestatic 119, 3) := by decide +kernel
theorem dL_law_200 : decode cL_law 200 = .ok (.ifCond .ne 5, 3) := by decide +kernel
theorem dL_law_203 : decode cL_law 203 = .ok (.iconst 0, 1) := by decide +kernel
theorem dL_law_204 : decode cL_law 204 = .ok (.ireturn, 1) := by decide +kernel
theorem dL_law_205 : decode cL_law 205 = .ok (.aload_n 1, 1) := by decide +kernel
theorem dL_law_206 : decode cL_law 206 = .ok (.invokevirtual 128, 3) := by decide +kernel
theorem dL_law_209 : decode cL_law 209 = .ok (.ifCond .eq 5, 3) := by decide +kernel
theorem dL_law_212 : decode cL_law 212 = .ok (.iconst 0, 1) := by decide +kernel
theorem dL_law_213 : decode cL_law 213 = .ok (.ireturn, 1) := by decide +kernel
theorem dL_law_214 : decode cL_law 214 = .ok (.iinc 4 1, 3) := by decide +kernel
theorem dL_law_217 : decode cL_law 217 = .ok (.goto (-136), 3) := by decide +kernel
theorem dL_law_220 : decode cL_law 220 = .ok (.aload_n 1, 1) := by decide +kernel
theorem dL_law_221 : decode cL_law 221 = .ok (.invokevirtual 67, 3) := by decide +kernel
theorem dL_law_224 : decode cL_law 224 = .ok (.iload_n 3, 1) := by decide +kernel
theorem dL_law_225 : decode cL_law 225 = .ok (.if_icmp .ne 19, 3) := by decide +kernel
theorem dL_law_228 : decode cL_law 228 = .ok (.aload_n 1, 1) := by decide +kernel
theorem dL_law_229 : decode cL_law 229 = .ok (.iconst 0, 1) := by decide +kernel
theorem dL_law_230 : decode cL_law 230 = .ok (.invokevirtual 131, 3) := by decide +kernel
theorem dL_law_233 : decode cL_law 233 = .ok (.aload_n 2, 1) := by decide +kernel
theorem dL_law_234 : decode cL_law 234 = .ok (.getfield 116, 3) := by decide +kernel
theorem dL_law_237 : decode cL_law 237 = .ok (.if_icmp .ne 7, 3) := by decide +kernel
theorem dL_law_240 : decode cL_law 240 = .ok (.iconst 1, 1) := by decide +kernel
theorem dL_law_241 : decode cL_law 241 = .ok (.goto 4, 3) := by decide +kernel
theorem dL_law_244 : decode cL_law 244 = .ok (.iconst 0, 1) := by decide +kernel
theorem dL_law_245 : decode cL_law 245 = .ok (.ireturn, 1) := by decide +kernel
end
section
/-! the tables' words that keep, and each one's place -/
/-- a private method of a superclass, asked of an object of a class that can be made -/
theorem mk_selPriv {y : MethodName} {C : String} {n : Nat} {s : State} {args : Array Value} (hins : (Cond.instantiable C n).before args s = true) (hsame : (Cond.sameMethod y.cls y.cls y.name y.desc).before args s = true) (hpriv : (Cond.privateMethod y).before args s = true) (hinst : (Cond.instanceMethod y).before args s = true) : (Cond.selects C y y).before args s = true := by
  obtain ⟨c, k, hc, hk, -, hniab, -, -⟩ := Cond.instantiable_spec hins
  obtain ⟨cn, ck, r1, hcn, hck, hni, hf, hn1⟩ := Cond.sameMethod_found hsame
  obtain ⟨mk, methM, hnamed, hmethM, -, -⟩ := Cond.instanceMethod_spec hinst
  have e : mk = r1 := Option.some.inj (hnamed.symm.trans hn1)
  subst e
  have hsel : selectMethod {} s.vm c mk = .method mk := selectMethod_private hmethM (Cond.privateMethod_at hpriv mk methM hnamed hmethM)
  have hcls : mk.cls = cn := Option.some.inj ((findClass_of_methodNamed hnamed).symm.trans hcn)
  simp only [Cond.before, Cond.holds, Cond.value, hc, hf, hnamed, hsel, hcls, hck]
  simp; exact hni
def mk_pv : List MethodName := [yJ5_ensureCapacityInternal_d00df, yJ5_newCapacity_0f7a4, yJ5_putStringAt_47b60, yJ5_inflateIfNeededFor_a7421]
def mk_tbl : List Cond := mk_pv.map (fun y => Cond.selects RJ4 y y) ++ lw_tbl
def mk_WL : List Cond := mk_tbl.filter goodWord
theorem mk_WL_good : ∀ w ∈ mk_WL, goodWord w = true := fun _ h => (List.mem_filter.mp h).2
theorem mk_WL_in : ∀ w ∈ mk_WL, w ∈ mk_tbl := fun _ h => (List.mem_filter.mp h).1
theorem mk_inT {w : Cond} (h : w ∈ tables_1) (hg : goodWord w = true) : w ∈ mk_WL := List.mem_filter.mpr ⟨List.mem_append_right _ (List.mem_append_right _ h), hg⟩
theorem mk_t1 {w : Cond} (k : Nat) (h : tables_1_1[k]? = some w) (hg : goodWord w = true) : w ∈ mk_WL := mk_inT (List.mem_append_left _ (List.mem_of_getElem? h)) hg
theorem mk_t2 {w : Cond} (k : Nat) (h : tables_1_2[k]? = some w) (hg : goodWord w = true) : w ∈ mk_WL := mk_inT (List.mem_append_right _ (List.mem_append_left _ (List.mem_of_getElem? h))) hg
theorem mk_t3 {w : Cond} (k : Nat) (h : tables_1_3[k]? = some w) (hg : goodWord w = true) : w ∈ mk_WL := mk_inT (List.mem_append_right _ (List.mem_append_right _ (List.mem_append_left _ (List.mem_of_getElem? h)))) hg
theorem mk_t4 {w : Cond} (k : Nat) (h : tables_1_4[k]? = some w) (hg : goodWord w = true) : w ∈ mk_WL := mk_inT (List.mem_append_right _ (List.mem_append_right _ (List.mem_append_right _ (List.mem_append_left _ (List.mem_of_getElem? h))))) hg
theorem mk_t5 {w : Cond} (k : Nat) (h : tables_1_5[k]? = some w) (hg : goodWord w = true) : w ∈ mk_WL := mk_inT (List.mem_append_right _ (List.mem_append_right _ (List.mem_append_right _ (List.mem_append_right _ (List.mem_of_getElem? h))))) hg
theorem mw_0 : (Jvm.Cond.initialized "SplitChannelLaw") ∈ mk_WL := mk_t1 0 rfl rfl
theorem mw_1 : (Jvm.Cond.initialized "SplitChannel") ∈ mk_WL := mk_t1 1 rfl rfl
theorem mw_2 : (Jvm.Cond.initialized "SplitChannel$Reader") ∈ mk_WL := mk_t1 2 rfl rfl
theorem mw_3 : (Jvm.Cond.initialized "SplitChannel$Tape") ∈ mk_WL := mk_t1 3 rfl rfl
theorem mw_4 : (Jvm.Cond.initialized "SplitChannel$Plan") ∈ mk_WL := mk_t1 4 rfl rfl
theorem mw_5 : (Jvm.Cond.initialized "SplitChannel$Play") ∈ mk_WL := mk_t1 5 rfl rfl
theorem mw_6 : (Jvm.Cond.initialized "SplitChannel$Stack") ∈ mk_WL := mk_t1 6 rfl rfl
theorem mw_7 : (Jvm.Cond.initialized "SplitChannel$Course") ∈ mk_WL := mk_t1 7 rfl rfl
theorem mw_8 : (Jvm.Cond.initialized "SplitChannel$Acts") ∈ mk_WL := mk_t1 8 rfl rfl
theorem mw_9 : (Jvm.Cond.initialized "SplitChannel$Means") ∈ mk_WL := mk_t1 9 rfl rfl
theorem mw_10 : (Jvm.Cond.initialized "SplitChannelLaw$Channel") ∈ mk_WL := mk_t1 10 rfl rfl
theorem mw_11 : (Jvm.Cond.initialized "java/lang/AbstractStringBuilder") ∈ mk_WL := mk_t1 11 rfl rfl
theorem mw_12 : (Jvm.Cond.initialized "java/lang/StringBuilder") ∈ mk_WL := mk_t1 12 rfl rfl
theorem mw_13 : (Jvm.Cond.initialized "java/lang/String") ∈ mk_WL := mk_t1 13 rfl rfl
theorem mw_14 : (Jvm.Cond.initialized "java/lang/StringUTF16") ∈ mk_WL := mk_t1 14 rfl rfl
theorem mw_15 : (Jvm.Cond.initialized "jdk/internal/util/ArraysSupport") ∈ mk_WL := mk_t1 15 rfl rfl
theorem mw_16 : (Jvm.Cond.initialized "java/lang/Math") ∈ mk_WL := mk_t1 16 rfl rfl
theorem mw_17 : (Jvm.Cond.initialized "java/util/Arrays") ∈ mk_WL := mk_t1 17 rfl rfl
theorem mw_18 : (Jvm.Cond.initialized "java/lang/System") ∈ mk_WL := mk_t1 18 rfl rfl
theorem mw_19 : (Jvm.Cond.initialized "jdk/internal/util/Preconditions") ∈ mk_WL := mk_t1 19 rfl rfl
theorem mw_20 : (Jvm.Cond.initialized "java/lang/StringLatin1") ∈ mk_WL := mk_t1 20 rfl rfl
theorem mw_21 : (Jvm.Cond.initialized "java/lang/Number") ∈ mk_WL := mk_t1 21 rfl rfl
theorem mw_22 : (Jvm.Cond.initialized "java/lang/Integer") ∈ mk_WL := mk_t1 22 rfl rfl
theorem mw_23 : (Jvm.Cond.classLink "SplitChannelLaw" (19 : Nat) "SplitChannel") ∈ mk_WL := mk_t1 23 rfl rfl
theorem mw_24 : (Jvm.Cond.instantiable "SplitChannel" (9 : Nat)) ∈ mk_WL := mk_t1 24 rfl rfl
theorem mw_25 : (Jvm.Cond.methodLink "SplitChannelLaw" (92 : Nat) ({ cls := "SplitChannel", name := "<init>", desc := "()V" } : Jvm.MethodName)) ∈ mk_WL := mk_t1 25 rfl rfl
theorem mw_26 : (Jvm.Cond.instanceMethod ({ cls := "SplitChannel", name := "<init>", desc := "()V" } : Jvm.MethodName)) ∈ mk_WL := mk_t1 26 rfl rfl
theorem mw_27 : (Jvm.Cond.code ({ cls := "SplitChannel", name := "<init>", desc := "()V" } : Jvm.MethodName) prog_1_method_1_code (1 : Nat) (Option.none : Option Jvm.ClassFile.FieldType)) ∈ mk_WL := mk_t1 27 rfl rfl
theorem mw_28 : (Jvm.Cond.methodLink "SplitChannel" (1 : Nat) ({ cls := "java/lang/Object", name := "<init>", desc := "()V" } : Jvm.MethodName)) ∈ mk_WL := mk_t1 28 rfl rfl
theorem mw_29 : (Jvm.Cond.instanceMethod ({ cls := "java/lang/Object", name := "<init>", desc := "()V" } : Jvm.MethodName)) ∈ mk_WL := mk_t1 29 rfl rfl
theorem mw_30 : (Jvm.Cond.code ({ cls := "java/lang/Object", name := "<init>", desc := "()V" } : Jvm.MethodName) object_method_1_code (1 : Nat) (Option.none : Option Jvm.ClassFile.FieldType)) ∈ mk_WL := mk_t1 30 rfl rfl
theorem mw_31 : (Jvm.Cond.classLink "SplitChannel" (7 : Nat) "SplitChannel$Reader") ∈ mk_WL := mk_t1 31 rfl rfl
theorem mw_32 : (Jvm.Cond.instantiable "SplitChannel$Reader" (8 : Nat)) ∈ mk_WL := mk_t1 32 rfl rfl
theorem mw_34 : (Jvm.Cond.instanceMethod ({ cls := "SplitChannel$Reader", name := "<init>", desc := "()V" } : Jvm.MethodName)) ∈ mk_WL := mk_t1 34 rfl rfl
theorem mw_35 : (Jvm.Cond.code ({ cls := "SplitChannel$Reader", name := "<init>", desc := "()V" } : Jvm.MethodName) prog_7_method_1_code (1 : Nat) (Option.none : Option Jvm.ClassFile.FieldType)) ∈ mk_WL := mk_t1 35 rfl rfl
theorem mw_36 : (Jvm.Cond.methodLink "SplitChannel$Reader" (3 : Nat) ({ cls := "java/lang/Object", name := "<init>", desc := "()V" } : Jvm.MethodName)) ∈ mk_WL := mk_t1 36 rfl rfl
theorem mw_37 : (Jvm.Cond.classLink "SplitChannel$Reader" (9 : Nat) "SplitChannel$Tape") ∈ mk_WL := mk_t1 37 rfl rfl
theorem mw_38 : (Jvm.Cond.instantiable "SplitChannel$Tape" (2 : Nat)) ∈ mk_WL := mk_t1 38 rfl rfl
theorem mw_40 : (Jvm.Cond.instanceMethod ({ cls := "SplitChannel$Tape", name := "<init>", desc := "()V" } : Jvm.MethodName)) ∈ mk_WL := mk_t1 40 rfl rfl
theorem mw_41 : (Jvm.Cond.code ({ cls := "SplitChannel$Tape", name := "<init>", desc := "()V" } : Jvm.MethodName) prog_9_method_1_code (1 : Nat) (Option.none : Option Jvm.ClassFile.FieldType)) ∈ mk_WL := mk_t1 41 rfl rfl
theorem mw_42 : (Jvm.Cond.methodLink "SplitChannel$Tape" (3 : Nat) ({ cls := "java/lang/Object", name := "<init>", desc := "()V" } : Jvm.MethodName)) ∈ mk_WL := mk_t1 42 rfl rfl
theorem mw_43 : (Jvm.Cond.fieldLink "SplitChannel$Tape" (9 : Nat) "SplitChannel$Tape" "bytes" "[I") ∈ mk_WL := mk_t1 43 rfl rfl
theorem mw_44 : (Jvm.Cond.fieldLink "SplitChannel$Reader" (135 : Nat) "SplitChannel$Tape" "bytes" "[I") ∈ mk_WL := mk_t1 44 rfl rfl
theorem mw_45 : (Jvm.Cond.fieldLink "SplitChannel" (64 : Nat) "SplitChannel$Tape" "length" "I") ∈ mk_WL := mk_t1 45 rfl rfl
theorem mw_46 : (Jvm.Cond.fieldLink "SplitChannel$Tape" (15 : Nat) "SplitChannel$Tape" "length" "I") ∈ mk_WL := mk_t1 46 rfl rfl
theorem mw_47 : (Jvm.Cond.fieldLink "SplitChannel$Reader" (159 : Nat) "SplitChannel$Tape" "length" "I") ∈ mk_WL := mk_t1 47 rfl rfl
theorem mw_48 : (Jvm.Cond.laysFinal "SplitChannel$Tape" "SplitChannel$Tape" "bytes" "[I") ∈ mk_WL := mk_t1 48 rfl rfl
theorem mw_50 : (Jvm.Cond.lays "SplitChannel$Tape" "SplitChannel$Tape" "length" "I") ∈ mk_WL := mk_t1 50 rfl rfl
theorem mw_52 : (Jvm.Cond.superclass "SplitChannel$Tape" "java/lang/Object") ∈ mk_WL := mk_t1 52 rfl rfl
theorem mw_53 : (Jvm.Cond.arrayClass Jvm.ClassFile.FieldType.int) ∈ mk_WL := mk_t1 53 rfl rfl
theorem mw_54 : (Jvm.Cond.classLink "SplitChannel$Reader" (18 : Nat) "SplitChannel$Plan") ∈ mk_WL := mk_t1 54 rfl rfl
theorem mw_55 : (Jvm.Cond.instantiable "SplitChannel$Plan" (12 : Nat)) ∈ mk_WL := mk_t1 55 rfl rfl
theorem mw_57 : (Jvm.Cond.instanceMethod ({ cls := "SplitChannel$Plan", name := "<init>", desc := "()V" } : Jvm.MethodName)) ∈ mk_WL := mk_t1 57 rfl rfl
theorem mw_58 : (Jvm.Cond.code ({ cls := "SplitChannel$Plan", name := "<init>", desc := "()V" } : Jvm.MethodName) prog_5_method_1_code (1 : Nat) (Option.none : Option Jvm.ClassFile.FieldType)) ∈ mk_WL := mk_t1 58 rfl rfl
theorem mw_59 : (Jvm.Cond.methodLink "SplitChannel$Plan" (3 : Nat) ({ cls := "java/lang/Object", name := "<init>", desc := "()V" } : Jvm.MethodName)) ∈ mk_WL := mk_t1 59 rfl rfl
theorem mw_60 : (Jvm.Cond.fieldLink "SplitChannel$Plan" (27 : Nat) "SplitChannel$Plan" "law" "I") ∈ mk_WL := mk_t1 60 rfl rfl
theorem mw_61 : (Jvm.Cond.fieldLink "SplitChannel$Acts" (38 : Nat) "SplitChannel$Plan" "law" "I") ∈ mk_WL := mk_t1 61 rfl rfl
theorem mw_62 : (Jvm.Cond.fieldLink "SplitChannel$Reader" (86 : Nat) "SplitChannel$Plan" "law" "I") ∈ mk_WL := mk_t1 62 rfl rfl
theorem mw_63 : (Jvm.Cond.fieldLink "SplitChannel" (87 : Nat) "SplitChannel$Plan" "law" "I") ∈ mk_WL := mk_t1 63 rfl rfl
theorem mw_64 : (Jvm.Cond.fieldLink "SplitChannel$Plan" (31 : Nat) "SplitChannel$Plan" "slots" "I") ∈ mk_WL := mk_t1 64 rfl rfl
theorem mw_65 : (Jvm.Cond.fieldLink "SplitChannel$Play" (77 : Nat) "SplitChannel$Plan" "slots" "I") ∈ mk_WL := mk_t1 65 rfl rfl
theorem mw_66 : (Jvm.Cond.fieldLink "SplitChannel$Reader" (90 : Nat) "SplitChannel$Plan" "slots" "I") ∈ mk_WL := mk_t1 66 rfl rfl
theorem mw_67 : (Jvm.Cond.fieldLink "SplitChannel" (103 : Nat) "SplitChannel$Plan" "slots" "I") ∈ mk_WL := mk_t1 67 rfl rfl
theorem mw_68 : (Jvm.Cond.fieldLink "SplitChannel$Plan" (34 : Nat) "SplitChannel$Plan" "skips" "I") ∈ mk_WL := mk_t1 68 rfl rfl
theorem mw_69 : (Jvm.Cond.fieldLink "SplitChannel$Reader" (94 : Nat) "SplitChannel$Plan" "skips" "I") ∈ mk_WL := mk_t1 69 rfl rfl
theorem mw_70 : (Jvm.Cond.fieldLink "SplitChannel$Play" (137 : Nat) "SplitChannel$Plan" "skips" "I") ∈ mk_WL := mk_t1 70 rfl rfl
theorem mw_71 : (Jvm.Cond.fieldLink "SplitChannel" (106 : Nat) "SplitChannel$Plan" "skips" "I") ∈ mk_WL := mk_t1 71 rfl rfl
theorem mw_72 : (Jvm.Cond.fieldLink "SplitChannel$Plan" (37 : Nat) "SplitChannel$Plan" "window" "I") ∈ mk_WL := mk_t1 72 rfl rfl
theorem mw_73 : (Jvm.Cond.fieldLink "SplitChannel$Reader" (98 : Nat) "SplitChannel$Plan" "window" "I") ∈ mk_WL := mk_t1 73 rfl rfl
theorem mw_74 : (Jvm.Cond.fieldLink "SplitChannel$Play" (140 : Nat) "SplitChannel$Plan" "window" "I") ∈ mk_WL := mk_t1 74 rfl rfl
theorem mw_75 : (Jvm.Cond.fieldLink "SplitChannel" (109 : Nat) "SplitChannel$Plan" "window" "I") ∈ mk_WL := mk_t1 75 rfl rfl
theorem mw_76 : (Jvm.Cond.fieldLink "SplitChannel$Plan" (40 : Nat) "SplitChannel$Plan" "lines" "I") ∈ mk_WL := mk_t1 76 rfl rfl
theorem mw_77 : (Jvm.Cond.fieldLink "SplitChannel$Reader" (48 : Nat) "SplitChannel$Plan" "lines" "I") ∈ mk_WL := mk_t1 77 rfl rfl
theorem mw_78 : (Jvm.Cond.fieldLink "SplitChannel" (94 : Nat) "SplitChannel$Plan" "lines" "I") ∈ mk_WL := mk_t1 78 rfl rfl
theorem mw_79 : (Jvm.Cond.fieldLink "SplitChannel$Plan" (43 : Nat) "SplitChannel$Plan" "senders" "I") ∈ mk_WL := mk_t1 79 rfl rfl
theorem mw_80 : (Jvm.Cond.fieldLink "SplitChannel$Play" (93 : Nat) "SplitChannel$Plan" "senders" "I") ∈ mk_WL := mk_t1 80 rfl rfl
theorem mw_81 : (Jvm.Cond.fieldLink "SplitChannel$Acts" (30 : Nat) "SplitChannel$Plan" "senders" "I") ∈ mk_WL := mk_t1 81 rfl rfl
theorem mw_82 : (Jvm.Cond.fieldLink "SplitChannel$Reader" (103 : Nat) "SplitChannel$Plan" "senders" "I") ∈ mk_WL := mk_t1 82 rfl rfl
theorem mw_83 : (Jvm.Cond.fieldLink "SplitChannel" (112 : Nat) "SplitChannel$Plan" "senders" "I") ∈ mk_WL := mk_t1 83 rfl rfl
theorem mw_84 : (Jvm.Cond.fieldLink "SplitChannel$Plan" (46 : Nat) "SplitChannel$Plan" "noises" "I") ∈ mk_WL := mk_t1 84 rfl rfl
theorem mw_85 : (Jvm.Cond.fieldLink "SplitChannel$Acts" (35 : Nat) "SplitChannel$Plan" "noises" "I") ∈ mk_WL := mk_t1 85 rfl rfl
theorem mw_86 : (Jvm.Cond.fieldLink "SplitChannel$Reader" (120 : Nat) "SplitChannel$Plan" "noises" "I") ∈ mk_WL := mk_t1 86 rfl rfl
theorem mw_87 : (Jvm.Cond.fieldLink "SplitChannel" (115 : Nat) "SplitChannel$Plan" "noises" "I") ∈ mk_WL := mk_t1 87 rfl rfl
theorem mw_88 : (Jvm.Cond.fieldLink "SplitChannel$Play" (211 : Nat) "SplitChannel$Plan" "noises" "I") ∈ mk_WL := mk_t1 88 rfl rfl
theorem mw_89 : (Jvm.Cond.fieldLink "SplitChannel$Plan" (9 : Nat) "SplitChannel$Plan" "comes" "[I") ∈ mk_WL := mk_t1 89 rfl rfl
theorem mw_90 : (Jvm.Cond.fieldLink "SplitChannel$Play" (96 : Nat) "SplitChannel$Plan" "comes" "[I") ∈ mk_WL := mk_t1 90 rfl rfl
theorem mw_91 : (Jvm.Cond.fieldLink "SplitChannel$Plan" (15 : Nat) "SplitChannel$Plan" "bitCounts" "[I") ∈ mk_WL := mk_t1 91 rfl rfl
theorem mw_92 : (Jvm.Cond.fieldLink "SplitChannel$Play" (185 : Nat) "SplitChannel$Plan" "bitCounts" "[I") ∈ mk_WL := mk_t1 92 rfl rfl
theorem mw_93 : (Jvm.Cond.fieldLink "SplitChannel$Plan" (18 : Nat) "SplitChannel$Plan" "bits" "[I") ∈ mk_WL := mk_t1 93 rfl rfl
theorem mw_94 : (Jvm.Cond.fieldLink "SplitChannel$Play" (188 : Nat) "SplitChannel$Plan" "bits" "[I") ∈ mk_WL := mk_t1 94 rfl rfl
theorem mw_95 : (Jvm.Cond.fieldLink "SplitChannel$Plan" (21 : Nat) "SplitChannel$Plan" "noiseSlots" "[I") ∈ mk_WL := mk_t1 95 rfl rfl
theorem mw_96 : (Jvm.Cond.fieldLink "SplitChannel$Play" (214 : Nat) "SplitChannel$Plan" "noiseSlots" "[I") ∈ mk_WL := mk_t1 96 rfl rfl
theorem mw_97 : (Jvm.Cond.fieldLink "SplitChannel$Plan" (24 : Nat) "SplitChannel$Plan" "noiseKinds" "[I") ∈ mk_WL := mk_t1 97 rfl rfl
theorem mw_98 : (Jvm.Cond.fieldLink "SplitChannel$Play" (217 : Nat) "SplitChannel$Plan" "noiseKinds" "[I") ∈ mk_WL := mk_t1 98 rfl rfl
theorem mw_99 : (Jvm.Cond.lays "SplitChannel$Plan" "SplitChannel$Plan" "law" "I") ∈ mk_WL := mk_t1 99 rfl rfl
theorem mw_101 : (Jvm.Cond.lays "SplitChannel$Plan" "SplitChannel$Plan" "slots" "I") ∈ mk_WL := mk_t1 101 rfl rfl
theorem mw_103 : (Jvm.Cond.lays "SplitChannel$Plan" "SplitChannel$Plan" "skips" "I") ∈ mk_WL := mk_t1 103 rfl rfl
theorem mw_105 : (Jvm.Cond.lays "SplitChannel$Plan" "SplitChannel$Plan" "window" "I") ∈ mk_WL := mk_t1 105 rfl rfl
theorem mw_107 : (Jvm.Cond.lays "SplitChannel$Plan" "SplitChannel$Plan" "lines" "I") ∈ mk_WL := mk_t1 107 rfl rfl
theorem mw_109 : (Jvm.Cond.lays "SplitChannel$Plan" "SplitChannel$Plan" "senders" "I") ∈ mk_WL := mk_t1 109 rfl rfl
theorem mw_111 : (Jvm.Cond.lays "SplitChannel$Plan" "SplitChannel$Plan" "noises" "I") ∈ mk_WL := mk_t1 111 rfl rfl
theorem mw_113 : (Jvm.Cond.laysFinal "SplitChannel$Plan" "SplitChannel$Plan" "comes" "[I") ∈ mk_WL := mk_t1 113 rfl rfl
theorem mw_115 : (Jvm.Cond.laysFinal "SplitChannel$Plan" "SplitChannel$Plan" "bitCounts" "[I") ∈ mk_WL := mk_t1 115 rfl rfl
theorem mw_117 : (Jvm.Cond.laysFinal "SplitChannel$Plan" "SplitChannel$Plan" "bits" "[I") ∈ mk_WL := mk_t1 117 rfl rfl
theorem mw_119 : (Jvm.Cond.laysFinal "SplitChannel$Plan" "SplitChannel$Plan" "noiseSlots" "[I") ∈ mk_WL := mk_t1 119 rfl rfl
theorem mw_121 : (Jvm.Cond.laysFinal "SplitChannel$Plan" "SplitChannel$Plan" "noiseKinds" "[I") ∈ mk_WL := mk_t1 121 rfl rfl
theorem mw_123 : (Jvm.Cond.superclass "SplitChannel$Plan" "java/lang/Object") ∈ mk_WL := mk_t1 123 rfl rfl
theorem mw_124 : (Jvm.Cond.fieldLink "SplitChannel$Reader" (12 : Nat) "SplitChannel$Reader" "tape" "LSplitChannel$Tape;") ∈ mk_WL := mk_t1 124 rfl rfl
theorem mw_125 : (Jvm.Cond.fieldLink "SplitChannel" (16 : Nat) "SplitChannel$Reader" "tape" "LSplitChannel$Tape;") ∈ mk_WL := mk_t1 125 rfl rfl
theorem mw_126 : (Jvm.Cond.fieldLink "SplitChannel$Reader" (21 : Nat) "SplitChannel$Reader" "draft" "LSplitChannel$Plan;") ∈ mk_WL := mk_t1 126 rfl rfl
theorem mw_127 : (Jvm.Cond.fieldLink "SplitChannel" (21 : Nat) "SplitChannel$Reader" "draft" "LSplitChannel$Plan;") ∈ mk_WL := mk_t1 127 rfl rfl
theorem mw_128 : (Jvm.Cond.fieldLink "SplitChannel$Reader" (41 : Nat) "SplitChannel$Reader" "kind" "I") ∈ mk_WL := mk_t1 128 rfl rfl
theorem mw_129 : (Jvm.Cond.fieldLink "SplitChannel$Reader" (113 : Nat) "SplitChannel$Reader" "start" "I") ∈ mk_WL := mk_t1 129 rfl rfl
theorem mw_130 : (Jvm.Cond.fieldLink "SplitChannel$Reader" (35 : Nat) "SplitChannel$Reader" "next" "I") ∈ mk_WL := mk_t1 130 rfl rfl
theorem mw_131 : (Jvm.Cond.fieldLink "SplitChannel$Reader" (83 : Nat) "SplitChannel$Reader" "value" "I") ∈ mk_WL := mk_t1 131 rfl rfl
theorem mw_132 : (Jvm.Cond.fieldLink "SplitChannel$Reader" (32 : Nat) "SplitChannel$Reader" "fault" "I") ∈ mk_WL := mk_t1 132 rfl rfl
theorem mw_133 : (Jvm.Cond.fieldLink "SplitChannel$Reader" (25 : Nat) "SplitChannel$Reader" "place" "I") ∈ mk_WL := mk_t1 133 rfl rfl
theorem mw_134 : (Jvm.Cond.laysFinal "SplitChannel$Reader" "SplitChannel$Reader" "tape" "LSplitChannel$Tape;") ∈ mk_WL := mk_t1 134 rfl rfl
theorem mw_136 : (Jvm.Cond.laysFinal "SplitChannel$Reader" "SplitChannel$Reader" "draft" "LSplitChannel$Plan;") ∈ mk_WL := mk_t1 136 rfl rfl
theorem mw_138 : (Jvm.Cond.lays "SplitChannel$Reader" "SplitChannel$Reader" "kind" "I") ∈ mk_WL := mk_t1 138 rfl rfl
theorem mw_140 : (Jvm.Cond.lays "SplitChannel$Reader" "SplitChannel$Reader" "start" "I") ∈ mk_WL := mk_t1 140 rfl rfl
theorem mw_142 : (Jvm.Cond.lays "SplitChannel$Reader" "SplitChannel$Reader" "next" "I") ∈ mk_WL := mk_t1 142 rfl rfl
theorem mw_144 : (Jvm.Cond.lays "SplitChannel$Reader" "SplitChannel$Reader" "value" "I") ∈ mk_WL := mk_t1 144 rfl rfl
theorem mw_146 : (Jvm.Cond.lays "SplitChannel$Reader" "SplitChannel$Reader" "fault" "I") ∈ mk_WL := mk_t1 146 rfl rfl
theorem mw_148 : (Jvm.Cond.lays "SplitChannel$Reader" "SplitChannel$Reader" "place" "I") ∈ mk_WL := mk_t1 148 rfl rfl
theorem mw_150 : (Jvm.Cond.superclass "SplitChannel$Reader" "java/lang/Object") ∈ mk_WL := mk_t1 150 rfl rfl
theorem mw_151 : (Jvm.Cond.classLink "SplitChannel" (26 : Nat) "SplitChannel$Play") ∈ mk_WL := mk_t1 151 rfl rfl
theorem mw_152 : (Jvm.Cond.instantiable "SplitChannel$Play" (13 : Nat)) ∈ mk_WL := mk_t1 152 rfl rfl
theorem mw_154 : (Jvm.Cond.instanceMethod ({ cls := "SplitChannel$Play", name := "<init>", desc := "()V" } : Jvm.MethodName)) ∈ mk_WL := mk_t1 154 rfl rfl
theorem mw_155 : (Jvm.Cond.code ({ cls := "SplitChannel$Play", name := "<init>", desc := "()V" } : Jvm.MethodName) prog_6_method_1_code (1 : Nat) (Option.none : Option Jvm.ClassFile.FieldType)) ∈ mk_WL := mk_t1 155 rfl rfl
theorem mw_156 : (Jvm.Cond.methodLink "SplitChannel$Play" (3 : Nat) ({ cls := "java/lang/Object", name := "<init>", desc := "()V" } : Jvm.MethodName)) ∈ mk_WL := mk_t1 156 rfl rfl
theorem mw_157 : (Jvm.Cond.classLink "SplitChannel$Play" (9 : Nat) "SplitChannel$Plan") ∈ mk_WL := mk_t1 157 rfl rfl
theorem mw_159 : (Jvm.Cond.classLink "SplitChannel$Play" (18 : Nat) "SplitChannel$Stack") ∈ mk_WL := mk_t1 159 rfl rfl
theorem mw_160 : (Jvm.Cond.instantiable "SplitChannel$Stack" (4 : Nat)) ∈ mk_WL := mk_t1 160 rfl rfl
theorem mw_162 : (Jvm.Cond.instanceMethod ({ cls := "SplitChannel$Stack", name := "<init>", desc := "()V" } : Jvm.MethodName)) ∈ mk_WL := mk_t1 162 rfl rfl
theorem mw_163 : (Jvm.Cond.code ({ cls := "SplitChannel$Stack", name := "<init>", desc := "()V" } : Jvm.MethodName) prog_8_method_1_code (1 : Nat) (Option.none : Option Jvm.ClassFile.FieldType)) ∈ mk_WL := mk_t1 163 rfl rfl
theorem mw_164 : (Jvm.Cond.methodLink "SplitChannel$Stack" (3 : Nat) ({ cls := "java/lang/Object", name := "<init>", desc := "()V" } : Jvm.MethodName)) ∈ mk_WL := mk_t1 164 rfl rfl
theorem mw_165 : (Jvm.Cond.fieldLink "SplitChannel$Stack" (11 : Nat) "SplitChannel$Stack" "who" "[I") ∈ mk_WL := mk_t1 165 rfl rfl
theorem mw_166 : (Jvm.Cond.fieldLink "SplitChannel$Stack" (15 : Nat) "SplitChannel$Stack" "from" "[I") ∈ mk_WL := mk_t1 166 rfl rfl
theorem mw_167 : (Jvm.Cond.fieldLink "SplitChannel$Play" (170 : Nat) "SplitChannel$Stack" "from" "[I") ∈ mk_WL := mk_t1 167 rfl rfl
theorem mw_168 : (Jvm.Cond.fieldLink "SplitChannel$Stack" (18 : Nat) "SplitChannel$Stack" "to" "[I") ∈ mk_WL := mk_t1 168 rfl rfl
theorem mw_169 : (Jvm.Cond.fieldLink "SplitChannel$Play" (173 : Nat) "SplitChannel$Stack" "to" "[I") ∈ mk_WL := mk_t1 169 rfl rfl
theorem mw_170 : (Jvm.Cond.fieldLink "SplitChannel$Stack" (21 : Nat) "SplitChannel$Stack" "size" "I") ∈ mk_WL := mk_t1 170 rfl rfl
theorem mw_171 : (Jvm.Cond.fieldLink "SplitChannel$Play" (65 : Nat) "SplitChannel$Stack" "size" "I") ∈ mk_WL := mk_t1 171 rfl rfl
theorem mw_172 : (Jvm.Cond.laysFinal "SplitChannel$Stack" "SplitChannel$Stack" "who" "[I") ∈ mk_WL := mk_t1 172 rfl rfl
theorem mw_174 : (Jvm.Cond.laysFinal "SplitChannel$Stack" "SplitChannel$Stack" "from" "[I") ∈ mk_WL := mk_t1 174 rfl rfl
theorem mw_176 : (Jvm.Cond.laysFinal "SplitChannel$Stack" "SplitChannel$Stack" "to" "[I") ∈ mk_WL := mk_t1 176 rfl rfl
theorem mw_178 : (Jvm.Cond.lays "SplitChannel$Stack" "SplitChannel$Stack" "size" "I") ∈ mk_WL := mk_t1 178 rfl rfl
theorem mw_180 : (Jvm.Cond.superclass "SplitChannel$Stack" "java/lang/Object") ∈ mk_WL := mk_t1 180 rfl rfl
theorem mw_181 : (Jvm.Cond.classLink "SplitChannel$Play" (29 : Nat) "SplitChannel$Course") ∈ mk_WL := mk_t1 181 rfl rfl
theorem mw_182 : (Jvm.Cond.instantiable "SplitChannel$Course" (14 : Nat)) ∈ mk_WL := mk_t1 182 rfl rfl
theorem mw_184 : (Jvm.Cond.instanceMethod ({ cls := "SplitChannel$Course", name := "<init>", desc := "()V" } : Jvm.MethodName)) ∈ mk_WL := mk_t1 184 rfl rfl
theorem mw_185 : (Jvm.Cond.code ({ cls := "SplitChannel$Course", name := "<init>", desc := "()V" } : Jvm.MethodName) prog_3_method_1_code (1 : Nat) (Option.none : Option Jvm.ClassFile.FieldType)) ∈ mk_WL := mk_t1 185 rfl rfl
theorem mw_186 : (Jvm.Cond.methodLink "SplitChannel$Course" (3 : Nat) ({ cls := "java/lang/Object", name := "<init>", desc := "()V" } : Jvm.MethodName)) ∈ mk_WL := mk_t1 186 rfl rfl
theorem mw_187 : (Jvm.Cond.fieldLink "SplitChannel$Course" (9 : Nat) "SplitChannel$Course" "sent" "[I") ∈ mk_WL := mk_t1 187 rfl rfl
theorem mw_188 : (Jvm.Cond.fieldLink "SplitChannel" (140 : Nat) "SplitChannel$Course" "sent" "[I") ∈ mk_WL := mk_t1 188 rfl rfl
theorem mw_189 : (Jvm.Cond.fieldLink "SplitChannel$Play" (199 : Nat) "SplitChannel$Course" "sent" "[I") ∈ mk_WL := mk_t1 189 rfl rfl
theorem mw_190 : (Jvm.Cond.fieldLink "SplitChannel$Course" (15 : Nat) "SplitChannel$Course" "heard" "[I") ∈ mk_WL := mk_t1 190 rfl rfl
theorem mw_191 : (Jvm.Cond.fieldLink "SplitChannel" (149 : Nat) "SplitChannel$Course" "heard" "[I") ∈ mk_WL := mk_t1 191 rfl rfl
theorem mw_192 : (Jvm.Cond.fieldLink "SplitChannel$Play" (202 : Nat) "SplitChannel$Course" "heard" "[I") ∈ mk_WL := mk_t1 192 rfl rfl
theorem mw_193 : (Jvm.Cond.fieldLink "SplitChannel$Course" (18 : Nat) "SplitChannel$Course" "through" "[I") ∈ mk_WL := mk_t1 193 rfl rfl
theorem mw_194 : (Jvm.Cond.fieldLink "SplitChannel" (152 : Nat) "SplitChannel$Course" "through" "[I") ∈ mk_WL := mk_t1 194 rfl rfl
theorem mw_195 : (Jvm.Cond.fieldLink "SplitChannel$Course" (21 : Nat) "SplitChannel$Course" "depth" "[I") ∈ mk_WL := mk_t1 195 rfl rfl
theorem mw_196 : (Jvm.Cond.fieldLink "SplitChannel$Play" (134 : Nat) "SplitChannel$Course" "depth" "[I") ∈ mk_WL := mk_t1 196 rfl rfl
theorem mw_197 : (Jvm.Cond.fieldLink "SplitChannel" (155 : Nat) "SplitChannel$Course" "depth" "[I") ∈ mk_WL := mk_t1 197 rfl rfl
theorem mw_198 : (Jvm.Cond.fieldLink "SplitChannel$Course" (24 : Nat) "SplitChannel$Course" "skipped" "[I") ∈ mk_WL := mk_t1 198 rfl rfl
theorem mw_199 : (Jvm.Cond.fieldLink "SplitChannel$Play" (124 : Nat) "SplitChannel$Course" "skipped" "[I") ∈ mk_WL := mk_t1 199 rfl rfl
theorem mw_200 : (Jvm.Cond.fieldLink "SplitChannel" (158 : Nat) "SplitChannel$Course" "skipped" "[I") ∈ mk_WL := mk_t1 200 rfl rfl
theorem mw_201 : (Jvm.Cond.fieldLink "SplitChannel$Course" (27 : Nat) "SplitChannel$Course" "slotThrough" "[I") ∈ mk_WL := mk_t1 201 rfl rfl
theorem mw_202 : (Jvm.Cond.fieldLink "SplitChannel" (161 : Nat) "SplitChannel$Course" "slotThrough" "[I") ∈ mk_WL := mk_t1 202 rfl rfl
theorem mw_203 : (Jvm.Cond.fieldLink "SplitChannel$Course" (30 : Nat) "SplitChannel$Course" "tried" "[I") ∈ mk_WL := mk_t1 203 rfl rfl
theorem mw_204 : (Jvm.Cond.fieldLink "SplitChannel" (164 : Nat) "SplitChannel$Course" "tried" "[I") ∈ mk_WL := mk_t1 204 rfl rfl
theorem mw_205 : (Jvm.Cond.fieldLink "SplitChannel$Play" (205 : Nat) "SplitChannel$Course" "tried" "[I") ∈ mk_WL := mk_t1 205 rfl rfl
theorem mw_206 : (Jvm.Cond.fieldLink "SplitChannel$Course" (33 : Nat) "SplitChannel$Course" "bitsTaken" "[I") ∈ mk_WL := mk_t1 206 rfl rfl
theorem mw_207 : (Jvm.Cond.fieldLink "SplitChannel$Play" (182 : Nat) "SplitChannel$Course" "bitsTaken" "[I") ∈ mk_WL := mk_t1 207 rfl rfl
theorem mw_208 : (Jvm.Cond.fieldLink "SplitChannel" (167 : Nat) "SplitChannel$Course" "bitsTaken" "[I") ∈ mk_WL := mk_t1 208 rfl rfl
theorem mw_209 : (Jvm.Cond.fieldLink "SplitChannel$Course" (36 : Nat) "SplitChannel$Course" "throughOrder" "[I") ∈ mk_WL := mk_t1 209 rfl rfl
theorem mw_210 : (Jvm.Cond.fieldLink "SplitChannel" (176 : Nat) "SplitChannel$Course" "throughOrder" "[I") ∈ mk_WL := mk_t1 210 rfl rfl
theorem mw_211 : (Jvm.Cond.fieldLink "SplitChannel$Course" (54 : Nat) "SplitChannel$Course" "throughCount" "I") ∈ mk_WL := mk_t1 211 rfl rfl
theorem mw_212 : (Jvm.Cond.fieldLink "SplitChannel$Play" (90 : Nat) "SplitChannel$Course" "throughCount" "I") ∈ mk_WL := mk_t1 212 rfl rfl
theorem mw_213 : (Jvm.Cond.fieldLink "SplitChannel" (173 : Nat) "SplitChannel$Course" "throughCount" "I") ∈ mk_WL := mk_t1 213 rfl rfl
theorem mw_214 : (Jvm.Cond.fieldLink "SplitChannel$Course" (39 : Nat) "SplitChannel$Course" "epochFirst" "[I") ∈ mk_WL := mk_t1 214 rfl rfl
theorem mw_215 : (Jvm.Cond.fieldLink "SplitChannel$Course" (42 : Nat) "SplitChannel$Course" "epochLast" "[I") ∈ mk_WL := mk_t1 215 rfl rfl
theorem mw_216 : (Jvm.Cond.fieldLink "SplitChannel$Play" (160 : Nat) "SplitChannel$Course" "epochLast" "[I") ∈ mk_WL := mk_t1 216 rfl rfl
theorem mw_217 : (Jvm.Cond.fieldLink "SplitChannel$Course" (45 : Nat) "SplitChannel$Course" "epochWho" "[I") ∈ mk_WL := mk_t1 217 rfl rfl
theorem mw_218 : (Jvm.Cond.fieldLink "SplitChannel$Course" (58 : Nat) "SplitChannel$Course" "epochCount" "I") ∈ mk_WL := mk_t1 218 rfl rfl
theorem mw_219 : (Jvm.Cond.fieldLink "SplitChannel$Play" (163 : Nat) "SplitChannel$Course" "epochCount" "I") ∈ mk_WL := mk_t1 219 rfl rfl
theorem mw_220 : (Jvm.Cond.fieldLink "SplitChannel" (194 : Nat) "SplitChannel$Course" "epochCount" "I") ∈ mk_WL := mk_t1 220 rfl rfl
theorem mw_221 : (Jvm.Cond.laysFinal "SplitChannel$Course" "SplitChannel$Course" "sent" "[I") ∈ mk_WL := mk_t1 221 rfl rfl
theorem mw_223 : (Jvm.Cond.laysFinal "SplitChannel$Course" "SplitChannel$Course" "heard" "[I") ∈ mk_WL := mk_t1 223 rfl rfl
theorem mw_225 : (Jvm.Cond.laysFinal "SplitChannel$Course" "SplitChannel$Course" "through" "[I") ∈ mk_WL := mk_t1 225 rfl rfl
theorem mw_227 : (Jvm.Cond.laysFinal "SplitChannel$Course" "SplitChannel$Course" "depth" "[I") ∈ mk_WL := mk_t1 227 rfl rfl
theorem mw_229 : (Jvm.Cond.laysFinal "SplitChannel$Course" "SplitChannel$Course" "skipped" "[I") ∈ mk_WL := mk_t1 229 rfl rfl
theorem mw_231 : (Jvm.Cond.laysFinal "SplitChannel$Course" "SplitChannel$Course" "slotThrough" "[I") ∈ mk_WL := mk_t1 231 rfl rfl
theorem mw_233 : (Jvm.Cond.laysFinal "SplitChannel$Course" "SplitChannel$Course" "tried" "[I") ∈ mk_WL := mk_t1 233 rfl rfl
theorem mw_235 : (Jvm.Cond.laysFinal "SplitChannel$Course" "SplitChannel$Course" "bitsTaken" "[I") ∈ mk_WL := mk_t1 235 rfl rfl
theorem mw_237 : (Jvm.Cond.laysFinal "SplitChannel$Course" "SplitChannel$Course" "throughOrder" "[I") ∈ mk_WL := mk_t1 237 rfl rfl
theorem mw_239 : (Jvm.Cond.lays "SplitChannel$Course" "SplitChannel$Course" "throughCount" "I") ∈ mk_WL := mk_t1 239 rfl rfl
theorem mw_241 : (Jvm.Cond.laysFinal "SplitChannel$Course" "SplitChannel$Course" "epochFirst" "[I") ∈ mk_WL := mk_t2 1 rfl rfl
theorem mw_243 : (Jvm.Cond.laysFinal "SplitChannel$Course" "SplitChannel$Course" "epochLast" "[I") ∈ mk_WL := mk_t2 3 rfl rfl
theorem mw_245 : (Jvm.Cond.laysFinal "SplitChannel$Course" "SplitChannel$Course" "epochWho" "[I") ∈ mk_WL := mk_t2 5 rfl rfl
theorem mw_247 : (Jvm.Cond.lays "SplitChannel$Course" "SplitChannel$Course" "epochCount" "I") ∈ mk_WL := mk_t2 7 rfl rfl
theorem mw_249 : (Jvm.Cond.superclass "SplitChannel$Course" "java/lang/Object") ∈ mk_WL := mk_t2 9 rfl rfl
theorem mw_250 : (Jvm.Cond.fieldLink "SplitChannel$Play" (12 : Nat) "SplitChannel$Play" "plan" "LSplitChannel$Plan;") ∈ mk_WL := mk_t2 10 rfl rfl
theorem mw_251 : (Jvm.Cond.fieldLink "SplitChannel" (33 : Nat) "SplitChannel$Play" "plan" "LSplitChannel$Plan;") ∈ mk_WL := mk_t2 11 rfl rfl
theorem mw_252 : (Jvm.Cond.fieldLink "SplitChannel$Play" (21 : Nat) "SplitChannel$Play" "groups" "LSplitChannel$Stack;") ∈ mk_WL := mk_t2 12 rfl rfl
theorem mw_253 : (Jvm.Cond.fieldLink "SplitChannel$Play" (25 : Nat) "SplitChannel$Play" "counters" "[I") ∈ mk_WL := mk_t2 13 rfl rfl
theorem mw_254 : (Jvm.Cond.fieldLink "SplitChannel$Play" (32 : Nat) "SplitChannel$Play" "course" "LSplitChannel$Course;") ∈ mk_WL := mk_t2 14 rfl rfl
theorem mw_255 : (Jvm.Cond.fieldLink "SplitChannel" (37 : Nat) "SplitChannel$Play" "course" "LSplitChannel$Course;") ∈ mk_WL := mk_t2 15 rfl rfl
theorem mw_256 : (Jvm.Cond.fieldLink "SplitChannel$Play" (36 : Nat) "SplitChannel$Play" "law" "I") ∈ mk_WL := mk_t2 16 rfl rfl
theorem mw_257 : (Jvm.Cond.fieldLink "SplitChannel$Play" (40 : Nat) "SplitChannel$Play" "noNoise" "I") ∈ mk_WL := mk_t2 17 rfl rfl
theorem mw_258 : (Jvm.Cond.fieldLink "SplitChannel$Play" (43 : Nat) "SplitChannel$Play" "noSender" "I") ∈ mk_WL := mk_t2 18 rfl rfl
theorem mw_259 : (Jvm.Cond.fieldLink "SplitChannel$Play" (46 : Nat) "SplitChannel$Play" "present" "I") ∈ mk_WL := mk_t2 19 rfl rfl
theorem mw_260 : (Jvm.Cond.fieldLink "SplitChannel$Play" (49 : Nat) "SplitChannel$Play" "windowed" "I") ∈ mk_WL := mk_t2 20 rfl rfl
theorem mw_261 : (Jvm.Cond.fieldLink "SplitChannel$Play" (52 : Nat) "SplitChannel$Play" "edge" "I") ∈ mk_WL := mk_t2 21 rfl rfl
theorem mw_262 : (Jvm.Cond.fieldLink "SplitChannel$Play" (55 : Nat) "SplitChannel$Play" "justSplit" "Z") ∈ mk_WL := mk_t2 22 rfl rfl
theorem mw_263 : (Jvm.Cond.fieldLink "SplitChannel$Play" (59 : Nat) "SplitChannel$Play" "skipsInRow" "I") ∈ mk_WL := mk_t2 23 rfl rfl
theorem mw_264 : (Jvm.Cond.fieldLink "SplitChannel$Play" (62 : Nat) "SplitChannel$Play" "epochCounted" "Z") ∈ mk_WL := mk_t2 24 rfl rfl
theorem mw_265 : (Jvm.Cond.laysFinal "SplitChannel$Play" "SplitChannel$Play" "plan" "LSplitChannel$Plan;") ∈ mk_WL := mk_t2 25 rfl rfl
theorem mw_267 : (Jvm.Cond.laysFinal "SplitChannel$Play" "SplitChannel$Play" "groups" "LSplitChannel$Stack;") ∈ mk_WL := mk_t2 27 rfl rfl
theorem mw_269 : (Jvm.Cond.laysFinal "SplitChannel$Play" "SplitChannel$Play" "counters" "[I") ∈ mk_WL := mk_t2 29 rfl rfl
theorem mw_271 : (Jvm.Cond.lays "SplitChannel$Play" "SplitChannel$Play" "course" "LSplitChannel$Course;") ∈ mk_WL := mk_t2 31 rfl rfl
theorem mw_273 : (Jvm.Cond.lays "SplitChannel$Play" "SplitChannel$Play" "law" "I") ∈ mk_WL := mk_t2 33 rfl rfl
theorem mw_275 : (Jvm.Cond.lays "SplitChannel$Play" "SplitChannel$Play" "noNoise" "I") ∈ mk_WL := mk_t2 35 rfl rfl
theorem mw_277 : (Jvm.Cond.lays "SplitChannel$Play" "SplitChannel$Play" "noSender" "I") ∈ mk_WL := mk_t2 37 rfl rfl
theorem mw_279 : (Jvm.Cond.lays "SplitChannel$Play" "SplitChannel$Play" "present" "I") ∈ mk_WL := mk_t2 39 rfl rfl
theorem mw_281 : (Jvm.Cond.lays "SplitChannel$Play" "SplitChannel$Play" "windowed" "I") ∈ mk_WL := mk_t2 41 rfl rfl
theorem mw_283 : (Jvm.Cond.lays "SplitChannel$Play" "SplitChannel$Play" "edge" "I") ∈ mk_WL := mk_t2 43 rfl rfl
theorem mw_285 : (Jvm.Cond.lays "SplitChannel$Play" "SplitChannel$Play" "justSplit" "Z") ∈ mk_WL := mk_t2 45 rfl rfl
theorem mw_287 : (Jvm.Cond.lays "SplitChannel$Play" "SplitChannel$Play" "skipsInRow" "I") ∈ mk_WL := mk_t2 47 rfl rfl
theorem mw_289 : (Jvm.Cond.lays "SplitChannel$Play" "SplitChannel$Play" "epochCounted" "Z") ∈ mk_WL := mk_t2 49 rfl rfl
theorem mw_291 : (Jvm.Cond.superclass "SplitChannel$Play" "java/lang/Object") ∈ mk_WL := mk_t2 51 rfl rfl
theorem mw_292 : (Jvm.Cond.classLink "SplitChannel" (44 : Nat) "SplitChannel$Course") ∈ mk_WL := mk_t2 52 rfl rfl
theorem mw_294 : (Jvm.Cond.classLink "SplitChannel" (50 : Nat) "SplitChannel$Acts") ∈ mk_WL := mk_t2 54 rfl rfl
theorem mw_295 : (Jvm.Cond.instantiable "SplitChannel$Acts" (3 : Nat)) ∈ mk_WL := mk_t2 55 rfl rfl
theorem mw_297 : (Jvm.Cond.instanceMethod ({ cls := "SplitChannel$Acts", name := "<init>", desc := "()V" } : Jvm.MethodName)) ∈ mk_WL := mk_t2 57 rfl rfl
theorem mw_298 : (Jvm.Cond.code ({ cls := "SplitChannel$Acts", name := "<init>", desc := "()V" } : Jvm.MethodName) prog_2_method_1_code (1 : Nat) (Option.none : Option Jvm.ClassFile.FieldType)) ∈ mk_WL := mk_t2 58 rfl rfl
theorem mw_299 : (Jvm.Cond.methodLink "SplitChannel$Acts" (3 : Nat) ({ cls := "java/lang/Object", name := "<init>", desc := "()V" } : Jvm.MethodName)) ∈ mk_WL := mk_t2 59 rfl rfl
theorem mw_300 : (Jvm.Cond.fieldLink "SplitChannel$Acts" (9 : Nat) "SplitChannel$Acts" "kinds" "[I") ∈ mk_WL := mk_t2 60 rfl rfl
theorem mw_301 : (Jvm.Cond.fieldLink "SplitChannel$Acts" (15 : Nat) "SplitChannel$Acts" "lawsBefore" "[I") ∈ mk_WL := mk_t2 61 rfl rfl
theorem mw_302 : (Jvm.Cond.fieldLink "SplitChannel$Acts" (18 : Nat) "SplitChannel$Acts" "made" "I") ∈ mk_WL := mk_t2 62 rfl rfl
theorem mw_303 : (Jvm.Cond.fieldLink "SplitChannel" (84 : Nat) "SplitChannel$Acts" "made" "I") ∈ mk_WL := mk_t2 63 rfl rfl
theorem mw_304 : (Jvm.Cond.laysFinal "SplitChannel$Acts" "SplitChannel$Acts" "kinds" "[I") ∈ mk_WL := mk_t2 64 rfl rfl
theorem mw_306 : (Jvm.Cond.laysFinal "SplitChannel$Acts" "SplitChannel$Acts" "lawsBefore" "[I") ∈ mk_WL := mk_t2 66 rfl rfl
theorem mw_308 : (Jvm.Cond.lays "SplitChannel$Acts" "SplitChannel$Acts" "made" "I") ∈ mk_WL := mk_t2 68 rfl rfl
theorem mw_310 : (Jvm.Cond.superclass "SplitChannel$Acts" "java/lang/Object") ∈ mk_WL := mk_t2 70 rfl rfl
theorem mw_311 : (Jvm.Cond.classLink "SplitChannel" (57 : Nat) "SplitChannel$Means") ∈ mk_WL := mk_t2 71 rfl rfl
theorem mw_312 : (Jvm.Cond.instantiable "SplitChannel$Means" (5 : Nat)) ∈ mk_WL := mk_t2 72 rfl rfl
theorem mw_314 : (Jvm.Cond.instanceMethod ({ cls := "SplitChannel$Means", name := "<init>", desc := "()V" } : Jvm.MethodName)) ∈ mk_WL := mk_t2 74 rfl rfl
theorem mw_315 : (Jvm.Cond.code ({ cls := "SplitChannel$Means", name := "<init>", desc := "()V" } : Jvm.MethodName) prog_4_method_1_code (1 : Nat) (Option.none : Option Jvm.ClassFile.FieldType)) ∈ mk_WL := mk_t2 75 rfl rfl
theorem mw_316 : (Jvm.Cond.methodLink "SplitChannel$Means" (3 : Nat) ({ cls := "java/lang/Object", name := "<init>", desc := "()V" } : Jvm.MethodName)) ∈ mk_WL := mk_t2 76 rfl rfl
theorem mw_317 : (Jvm.Cond.fieldLink "SplitChannel$Means" (11 : Nat) "SplitChannel$Means" "above" "[J") ∈ mk_WL := mk_t2 77 rfl rfl
theorem mw_318 : (Jvm.Cond.fieldLink "SplitChannel$Means" (15 : Nat) "SplitChannel$Means" "below" "[J") ∈ mk_WL := mk_t2 78 rfl rfl
theorem mw_319 : (Jvm.Cond.fieldLink "SplitChannel$Means" (18 : Nat) "SplitChannel$Means" "ways" "[J") ∈ mk_WL := mk_t2 79 rfl rfl
theorem mw_320 : (Jvm.Cond.laysFinal "SplitChannel$Means" "SplitChannel$Means" "above" "[J") ∈ mk_WL := mk_t2 80 rfl rfl
theorem mw_322 : (Jvm.Cond.laysFinal "SplitChannel$Means" "SplitChannel$Means" "below" "[J") ∈ mk_WL := mk_t2 82 rfl rfl
theorem mw_324 : (Jvm.Cond.laysFinal "SplitChannel$Means" "SplitChannel$Means" "ways" "[J") ∈ mk_WL := mk_t2 84 rfl rfl
theorem mw_326 : (Jvm.Cond.lays "SplitChannel$Means" "SplitChannel$Means" "sumAbove" "J") ∈ mk_WL := mk_t2 86 rfl rfl
theorem mw_328 : (Jvm.Cond.lays "SplitChannel$Means" "SplitChannel$Means" "sumBelow" "J") ∈ mk_WL := mk_t2 88 rfl rfl
theorem mw_330 : (Jvm.Cond.superclass "SplitChannel$Means" "java/lang/Object") ∈ mk_WL := mk_t2 90 rfl rfl
theorem mw_331 : (Jvm.Cond.arrayClass Jvm.ClassFile.FieldType.long) ∈ mk_WL := mk_t2 91 rfl rfl
theorem mw_332 : (Jvm.Cond.fieldLink "SplitChannel" (10 : Nat) "SplitChannel" "reader" "LSplitChannel$Reader;") ∈ mk_WL := mk_t2 92 rfl rfl
theorem mw_333 : (Jvm.Cond.fieldLink "SplitChannel" (20 : Nat) "SplitChannel" "tape" "LSplitChannel$Tape;") ∈ mk_WL := mk_t2 93 rfl rfl
theorem mw_334 : (Jvm.Cond.fieldLink "SplitChannel" (25 : Nat) "SplitChannel" "draft" "LSplitChannel$Plan;") ∈ mk_WL := mk_t2 94 rfl rfl
theorem mw_335 : (Jvm.Cond.fieldLink "SplitChannel" (29 : Nat) "SplitChannel" "play" "LSplitChannel$Play;") ∈ mk_WL := mk_t2 95 rfl rfl
theorem mw_336 : (Jvm.Cond.fieldLink "SplitChannel" (36 : Nat) "SplitChannel" "plan" "LSplitChannel$Plan;") ∈ mk_WL := mk_t2 96 rfl rfl
theorem mw_337 : (Jvm.Cond.fieldLink "SplitChannel" (41 : Nat) "SplitChannel" "now" "LSplitChannel$Course;") ∈ mk_WL := mk_t2 97 rfl rfl
theorem mw_338 : (Jvm.Cond.fieldLink "SplitChannel" (47 : Nat) "SplitChannel" "other" "LSplitChannel$Course;") ∈ mk_WL := mk_t2 98 rfl rfl
theorem mw_339 : (Jvm.Cond.fieldLink "SplitChannel" (53 : Nat) "SplitChannel" "acts" "LSplitChannel$Acts;") ∈ mk_WL := mk_t2 99 rfl rfl
theorem mw_340 : (Jvm.Cond.fieldLink "SplitChannel" (60 : Nat) "SplitChannel" "means" "LSplitChannel$Means;") ∈ mk_WL := mk_t2 100 rfl rfl
theorem mw_341 : (Jvm.Cond.laysFinal "SplitChannel" "SplitChannel" "reader" "LSplitChannel$Reader;") ∈ mk_WL := mk_t2 101 rfl rfl
theorem mw_343 : (Jvm.Cond.laysFinal "SplitChannel" "SplitChannel" "tape" "LSplitChannel$Tape;") ∈ mk_WL := mk_t2 103 rfl rfl
theorem mw_345 : (Jvm.Cond.laysFinal "SplitChannel" "SplitChannel" "draft" "LSplitChannel$Plan;") ∈ mk_WL := mk_t2 105 rfl rfl
theorem mw_347 : (Jvm.Cond.laysFinal "SplitChannel" "SplitChannel" "play" "LSplitChannel$Play;") ∈ mk_WL := mk_t2 107 rfl rfl
theorem mw_349 : (Jvm.Cond.laysFinal "SplitChannel" "SplitChannel" "plan" "LSplitChannel$Plan;") ∈ mk_WL := mk_t2 109 rfl rfl
theorem mw_351 : (Jvm.Cond.laysFinal "SplitChannel" "SplitChannel" "now" "LSplitChannel$Course;") ∈ mk_WL := mk_t2 111 rfl rfl
theorem mw_353 : (Jvm.Cond.laysFinal "SplitChannel" "SplitChannel" "other" "LSplitChannel$Course;") ∈ mk_WL := mk_t2 113 rfl rfl
theorem mw_355 : (Jvm.Cond.laysFinal "SplitChannel" "SplitChannel" "acts" "LSplitChannel$Acts;") ∈ mk_WL := mk_t2 115 rfl rfl
theorem mw_357 : (Jvm.Cond.laysFinal "SplitChannel" "SplitChannel" "means" "LSplitChannel$Means;") ∈ mk_WL := mk_t2 117 rfl rfl
theorem mw_359 : (Jvm.Cond.superclass "SplitChannel" "java/lang/Object") ∈ mk_WL := mk_t2 119 rfl rfl
theorem mw_360 : (Jvm.Cond.methodLink "SplitChannelLaw" (106 : Nat) ({ cls := "SplitChannel", name := "channel", desc := "()I" } : Jvm.MethodName)) ∈ mk_WL := mk_t2 120 rfl rfl
theorem mw_361 : (Jvm.Cond.instanceMethod ({ cls := "SplitChannel", name := "channel", desc := "()I" } : Jvm.MethodName)) ∈ mk_WL := mk_t2 121 rfl rfl
theorem mw_362 : (Jvm.Cond.selects "SplitChannel" ({ cls := "SplitChannel", name := "channel", desc := "()I" } : Jvm.MethodName) ({ cls := "SplitChannel", name := "channel", desc := "()I" } : Jvm.MethodName)) ∈ mk_WL := mk_t2 122 rfl rfl
theorem mw_363 : (Jvm.Cond.code ({ cls := "SplitChannel", name := "channel", desc := "()I" } : Jvm.MethodName) prog_1_method_4_code (2 : Nat) (Option.some Jvm.ClassFile.FieldType.int)) ∈ mk_WL := mk_t2 123 rfl rfl
theorem mw_364 : (Jvm.Cond.methodLink "SplitChannel" (74 : Nat) ({ cls := "SplitChannel$Reader", name := "read", desc := "()Z" } : Jvm.MethodName)) ∈ mk_WL := mk_t2 124 rfl rfl
theorem mw_365 : (Jvm.Cond.instanceMethod ({ cls := "SplitChannel$Reader", name := "read", desc := "()Z" } : Jvm.MethodName)) ∈ mk_WL := mk_t2 125 rfl rfl
theorem mw_366 : (Jvm.Cond.selects "SplitChannel$Reader" ({ cls := "SplitChannel$Reader", name := "read", desc := "()Z" } : Jvm.MethodName) ({ cls := "SplitChannel$Reader", name := "read", desc := "()Z" } : Jvm.MethodName)) ∈ mk_WL := mk_t2 126 rfl rfl
theorem mw_367 : (Jvm.Cond.code ({ cls := "SplitChannel$Reader", name := "read", desc := "()Z" } : Jvm.MethodName) prog_7_method_2_code (2 : Nat) (Option.some Jvm.ClassFile.FieldType.boolean)) ∈ mk_WL := mk_t2 127 rfl rfl
theorem mw_368 : (Jvm.Cond.methodLink "SplitChannel$Reader" (29 : Nat) ({ cls := "SplitChannel$Plan", name := "clear", desc := "()V" } : Jvm.MethodName)) ∈ mk_WL := mk_t2 128 rfl rfl
theorem mw_369 : (Jvm.Cond.instanceMethod ({ cls := "SplitChannel$Plan", name := "clear", desc := "()V" } : Jvm.MethodName)) ∈ mk_WL := mk_t2 129 rfl rfl
theorem mw_370 : (Jvm.Cond.selects "SplitChannel$Plan" ({ cls := "SplitChannel$Plan", name := "clear", desc := "()V" } : Jvm.MethodName) ({ cls := "SplitChannel$Plan", name := "clear", desc := "()V" } : Jvm.MethodName)) ∈ mk_WL := mk_t2 130 rfl rfl
theorem mw_371 : (Jvm.Cond.code ({ cls := "SplitChannel$Plan", name := "clear", desc := "()V" } : Jvm.MethodName) prog_5_method_2_code (1 : Nat) (Option.none : Option Jvm.ClassFile.FieldType)) ∈ mk_WL := mk_t2 131 rfl rfl
theorem mw_372 : (Jvm.Cond.methodLink "SplitChannel$Reader" (38 : Nat) ({ cls := "SplitChannel$Reader", name := "step", desc := "()V" } : Jvm.MethodName)) ∈ mk_WL := mk_t2 132 rfl rfl
theorem mw_373 : (Jvm.Cond.instanceMethod ({ cls := "SplitChannel$Reader", name := "step", desc := "()V" } : Jvm.MethodName)) ∈ mk_WL := mk_t2 133 rfl rfl
theorem mw_374 : (Jvm.Cond.selects "SplitChannel$Reader" ({ cls := "SplitChannel$Reader", name := "step", desc := "()V" } : Jvm.MethodName) ({ cls := "SplitChannel$Reader", name := "step", desc := "()V" } : Jvm.MethodName)) ∈ mk_WL := mk_t2 134 rfl rfl
theorem mw_375 : (Jvm.Cond.code ({ cls := "SplitChannel$Reader", name := "step", desc := "()V" } : Jvm.MethodName) prog_7_method_14_code (2 : Nat) (Option.none : Option Jvm.ClassFile.FieldType)) ∈ mk_WL := mk_t2 135 rfl rfl
theorem mw_377 : (Jvm.Cond.static ({ cls := "SplitChannel", name := "at", desc := "([II)I" } : Jvm.MethodName)) ∈ mk_WL := mk_t2 137 rfl rfl
theorem mw_378 : (Jvm.Cond.code ({ cls := "SplitChannel", name := "at", desc := "([II)I" } : Jvm.MethodName) prog_1_method_40_code (2 : Nat) (Option.some Jvm.ClassFile.FieldType.int)) ∈ mk_WL := mk_t2 138 rfl rfl
theorem mw_379 : (Jvm.Cond.methodLink "SplitChannel$Reader" (161 : Nat) ({ cls := "SplitChannel$Reader", name := "isBlank", desc := "(I)Z" } : Jvm.MethodName)) ∈ mk_WL := mk_t2 139 rfl rfl
theorem mw_380 : (Jvm.Cond.static ({ cls := "SplitChannel$Reader", name := "isBlank", desc := "(I)Z" } : Jvm.MethodName)) ∈ mk_WL := mk_t2 140 rfl rfl
theorem mw_381 : (Jvm.Cond.code ({ cls := "SplitChannel$Reader", name := "isBlank", desc := "(I)Z" } : Jvm.MethodName) prog_7_method_15_code (1 : Nat) (Option.some Jvm.ClassFile.FieldType.boolean)) ∈ mk_WL := mk_t2 141 rfl rfl
theorem mw_382 : (Jvm.Cond.methodLink "SplitChannel$Reader" (164 : Nat) ({ cls := "SplitChannel$Reader", name := "kindOf", desc := "(I)I" } : Jvm.MethodName)) ∈ mk_WL := mk_t2 142 rfl rfl
theorem mw_383 : (Jvm.Cond.static ({ cls := "SplitChannel$Reader", name := "kindOf", desc := "(I)I" } : Jvm.MethodName)) ∈ mk_WL := mk_t2 143 rfl rfl
theorem mw_384 : (Jvm.Cond.code ({ cls := "SplitChannel$Reader", name := "kindOf", desc := "(I)I" } : Jvm.MethodName) prog_7_method_16_code (1 : Nat) (Option.some Jvm.ClassFile.FieldType.int)) ∈ mk_WL := mk_t2 144 rfl rfl
theorem mw_385 : (Jvm.Cond.methodLink "SplitChannel$Reader" (44 : Nat) ({ cls := "SplitChannel$Reader", name := "readLine", desc := "()Z" } : Jvm.MethodName)) ∈ mk_WL := mk_t2 145 rfl rfl
theorem mw_386 : (Jvm.Cond.instanceMethod ({ cls := "SplitChannel$Reader", name := "readLine", desc := "()Z" } : Jvm.MethodName)) ∈ mk_WL := mk_t2 146 rfl rfl
theorem mw_387 : (Jvm.Cond.selects "SplitChannel$Reader" ({ cls := "SplitChannel$Reader", name := "readLine", desc := "()Z" } : Jvm.MethodName) ({ cls := "SplitChannel$Reader", name := "readLine", desc := "()Z" } : Jvm.MethodName)) ∈ mk_WL := mk_t2 147 rfl rfl
theorem mw_388 : (Jvm.Cond.code ({ cls := "SplitChannel$Reader", name := "readLine", desc := "()Z" } : Jvm.MethodName) prog_7_method_3_code (1 : Nat) (Option.some Jvm.ClassFile.FieldType.boolean)) ∈ mk_WL := mk_t2 148 rfl rfl
theorem mw_390 : (Jvm.Cond.methodLink "SplitChannel$Reader" (53 : Nat) ({ cls := "SplitChannel$Reader", name := "isWord", desc := "(Ljava/lang/String;)Z" } : Jvm.MethodName)) ∈ mk_WL := mk_t2 150 rfl rfl
theorem mw_391 : (Jvm.Cond.instanceMethod ({ cls := "SplitChannel$Reader", name := "isWord", desc := "(Ljava/lang/String;)Z" } : Jvm.MethodName)) ∈ mk_WL := mk_t2 151 rfl rfl
theorem mw_392 : (Jvm.Cond.selects "SplitChannel$Reader" ({ cls := "SplitChannel$Reader", name := "isWord", desc := "(Ljava/lang/String;)Z" } : Jvm.MethodName) ({ cls := "SplitChannel$Reader", name := "isWord", desc := "(Ljava/lang/String;)Z" } : Jvm.MethodName)) ∈ mk_WL := mk_t2 152 rfl rfl
theorem mw_393 : (Jvm.Cond.code ({ cls := "SplitChannel$Reader", name := "isWord", desc := "(Ljava/lang/String;)Z" } : Jvm.MethodName) prog_7_method_13_code (3 : Nat) (Option.some Jvm.ClassFile.FieldType.boolean)) ∈ mk_WL := mk_t2 153 rfl rfl
theorem mw_394 : (Jvm.Cond.methodLink "SplitChannel$Reader" (149 : Nat) ({ cls := "java/lang/String", name := "length", desc := "()I" } : Jvm.MethodName)) ∈ mk_WL := mk_t2 154 rfl rfl
theorem mw_395 : (Jvm.Cond.instanceMethod ({ cls := "java/lang/String", name := "length", desc := "()I" } : Jvm.MethodName)) ∈ mk_WL := mk_t2 155 rfl rfl
theorem mw_396 : (Jvm.Cond.selects "java/lang/String" ({ cls := "java/lang/String", name := "length", desc := "()I" } : Jvm.MethodName) ({ cls := "java/lang/String", name := "length", desc := "()I" } : Jvm.MethodName)) ∈ mk_WL := mk_t2 156 rfl rfl
theorem mw_397 : (Jvm.Cond.code ({ cls := "java/lang/String", name := "length", desc := "()I" } : Jvm.MethodName) prog_18_method_54_code (1 : Nat) (Option.some Jvm.ClassFile.FieldType.int)) ∈ mk_WL := mk_t2 157 rfl rfl
theorem mw_398 : (Jvm.Cond.methodLink "java/lang/String" (335 : Nat) ({ cls := "java/lang/String", name := "coder", desc := "()B" } : Jvm.MethodName)) ∈ mk_WL := mk_t2 158 rfl rfl
theorem mw_399 : (Jvm.Cond.instanceMethod ({ cls := "java/lang/String", name := "coder", desc := "()B" } : Jvm.MethodName)) ∈ mk_WL := mk_t2 159 rfl rfl
theorem mw_400 : (Jvm.Cond.selects "java/lang/String" ({ cls := "java/lang/String", name := "coder", desc := "()B" } : Jvm.MethodName) ({ cls := "java/lang/String", name := "coder", desc := "()B" } : Jvm.MethodName)) ∈ mk_WL := mk_t2 160 rfl rfl
theorem mw_401 : (Jvm.Cond.code ({ cls := "java/lang/String", name := "coder", desc := "()B" } : Jvm.MethodName) prog_18_method_152_code (1 : Nat) (Option.some Jvm.ClassFile.FieldType.byte)) ∈ mk_WL := mk_t2 161 rfl rfl
theorem mw_402 : (Jvm.Cond.fieldLink "java/lang/String" (38 : Nat) "java/lang/String" "COMPACT_STRINGS" "Z") ∈ mk_WL := mk_t2 162 rfl rfl
theorem mw_404 : (Jvm.Cond.methodLink "SplitChannel$Reader" (155 : Nat) ({ cls := "java/lang/String", name := "charAt", desc := "(I)C" } : Jvm.MethodName)) ∈ mk_WL := mk_t2 164 rfl rfl
theorem mw_405 : (Jvm.Cond.instanceMethod ({ cls := "java/lang/String", name := "charAt", desc := "(I)C" } : Jvm.MethodName)) ∈ mk_WL := mk_t2 165 rfl rfl
theorem mw_406 : (Jvm.Cond.selects "java/lang/String" ({ cls := "java/lang/String", name := "charAt", desc := "(I)C" } : Jvm.MethodName) ({ cls := "java/lang/String", name := "charAt", desc := "(I)C" } : Jvm.MethodName)) ∈ mk_WL := mk_t2 166 rfl rfl
theorem mw_407 : (Jvm.Cond.code ({ cls := "java/lang/String", name := "charAt", desc := "(I)C" } : Jvm.MethodName) prog_18_method_56_code (2 : Nat) (Option.some Jvm.ClassFile.FieldType.char)) ∈ mk_WL := mk_t2 167 rfl rfl
theorem mw_408 : (Jvm.Cond.methodLink "java/lang/String" (492 : Nat) ({ cls := "java/lang/String", name := "isLatin1", desc := "()Z" } : Jvm.MethodName)) ∈ mk_WL := mk_t2 168 rfl rfl
theorem mw_409 : (Jvm.Cond.instanceMethod ({ cls := "java/lang/String", name := "isLatin1", desc := "()Z" } : Jvm.MethodName)) ∈ mk_WL := mk_t2 169 rfl rfl
theorem mw_410 : (Jvm.Cond.selects "java/lang/String" ({ cls := "java/lang/String", name := "isLatin1", desc := "()Z" } : Jvm.MethodName) ({ cls := "java/lang/String", name := "isLatin1", desc := "()Z" } : Jvm.MethodName)) ∈ mk_WL := mk_t2 170 rfl rfl
theorem mw_411 : (Jvm.Cond.code ({ cls := "java/lang/String", name := "isLatin1", desc := "()Z" } : Jvm.MethodName) prog_18_method_154_code (1 : Nat) (Option.some Jvm.ClassFile.FieldType.boolean)) ∈ mk_WL := mk_t2 171 rfl rfl
theorem mw_412 : (Jvm.Cond.methodLink "java/lang/String" (495 : Nat) ({ cls := "java/lang/StringLatin1", name := "charAt", desc := "([BI)C" } : Jvm.MethodName)) ∈ mk_WL := mk_t2 172 rfl rfl
theorem mw_413 : (Jvm.Cond.static ({ cls := "java/lang/StringLatin1", name := "charAt", desc := "([BI)C" } : Jvm.MethodName)) ∈ mk_WL := mk_t2 173 rfl rfl
theorem mw_414 : (Jvm.Cond.code ({ cls := "java/lang/StringLatin1", name := "charAt", desc := "([BI)C" } : Jvm.MethodName) prog_20_method_2_code (2 : Nat) (Option.some Jvm.ClassFile.FieldType.char)) ∈ mk_WL := mk_t2 174 rfl rfl
theorem mw_415 : (Jvm.Cond.methodLink "java/lang/StringLatin1" (9 : Nat) ({ cls := "java/lang/String", name := "checkIndex", desc := "(II)V" } : Jvm.MethodName)) ∈ mk_WL := mk_t2 175 rfl rfl
theorem mw_416 : (Jvm.Cond.static ({ cls := "java/lang/String", name := "checkIndex", desc := "(II)V" } : Jvm.MethodName)) ∈ mk_WL := mk_t2 176 rfl rfl
theorem mw_417 : (Jvm.Cond.code ({ cls := "java/lang/String", name := "checkIndex", desc := "(II)V" } : Jvm.MethodName) prog_18_method_155_code (2 : Nat) (Option.none : Option Jvm.ClassFile.FieldType)) ∈ mk_WL := mk_t2 177 rfl rfl
theorem mw_418 : (Jvm.Cond.fieldLink "java/lang/String" (1053 : Nat) "jdk/internal/util/Preconditions" "SIOOBE_FORMATTER" "Ljava/util/function/BiFunction;") ∈ mk_WL := mk_t2 178 rfl rfl
theorem mw_420 : (Jvm.Cond.methodLink "java/lang/String" (1059 : Nat) ({ cls := "jdk/internal/util/Preconditions", name := "checkIndex", desc := "(IILjava/util/function/BiFunction;)I" } : Jvm.MethodName)) ∈ mk_WL := mk_t2 180 rfl rfl
theorem mw_421 : (Jvm.Cond.static ({ cls := "jdk/internal/util/Preconditions", name := "checkIndex", desc := "(IILjava/util/function/BiFunction;)I" } : Jvm.MethodName)) ∈ mk_WL := mk_t2 181 rfl rfl
theorem mw_422 : (Jvm.Cond.code ({ cls := "jdk/internal/util/Preconditions", name := "checkIndex", desc := "(IILjava/util/function/BiFunction;)I" } : Jvm.MethodName) prog_25_method_11_code (3 : Nat) (Option.some Jvm.ClassFile.FieldType.int)) ∈ mk_WL := mk_t2 182 rfl rfl
theorem mw_423 : (Jvm.Cond.methodLink "java/lang/String" (498 : Nat) ({ cls := "java/lang/StringUTF16", name := "charAt", desc := "([BI)C" } : Jvm.MethodName)) ∈ mk_WL := mk_t2 183 rfl rfl
theorem mw_424 : (Jvm.Cond.static ({ cls := "java/lang/StringUTF16", name := "charAt", desc := "([BI)C" } : Jvm.MethodName)) ∈ mk_WL := mk_t2 184 rfl rfl
theorem mw_425 : (Jvm.Cond.code ({ cls := "java/lang/StringUTF16", name := "charAt", desc := "([BI)C" } : Jvm.MethodName) prog_21_method_83_code (2 : Nat) (Option.some Jvm.ClassFile.FieldType.char)) ∈ mk_WL := mk_t2 185 rfl rfl
theorem mw_426 : (Jvm.Cond.methodLink "java/lang/StringUTF16" (67 : Nat) ({ cls := "java/lang/StringUTF16", name := "checkIndex", desc := "(I[B)V" } : Jvm.MethodName)) ∈ mk_WL := mk_t2 186 rfl rfl
theorem mw_427 : (Jvm.Cond.static ({ cls := "java/lang/StringUTF16", name := "checkIndex", desc := "(I[B)V" } : Jvm.MethodName)) ∈ mk_WL := mk_t2 187 rfl rfl
theorem mw_428 : (Jvm.Cond.code ({ cls := "java/lang/StringUTF16", name := "checkIndex", desc := "(I[B)V" } : Jvm.MethodName) prog_21_method_91_code (2 : Nat) (Option.none : Option Jvm.ClassFile.FieldType)) ∈ mk_WL := mk_t2 188 rfl rfl
theorem mw_429 : (Jvm.Cond.methodLink "java/lang/StringUTF16" (48 : Nat) ({ cls := "java/lang/StringUTF16", name := "length", desc := "([B)I" } : Jvm.MethodName)) ∈ mk_WL := mk_t2 189 rfl rfl
theorem mw_430 : (Jvm.Cond.static ({ cls := "java/lang/StringUTF16", name := "length", desc := "([B)I" } : Jvm.MethodName)) ∈ mk_WL := mk_t2 190 rfl rfl
theorem mw_431 : (Jvm.Cond.code ({ cls := "java/lang/StringUTF16", name := "length", desc := "([B)I" } : Jvm.MethodName) prog_21_method_6_code (1 : Nat) (Option.some Jvm.ClassFile.FieldType.int)) ∈ mk_WL := mk_t2 191 rfl rfl
theorem mw_432 : (Jvm.Cond.methodLink "java/lang/StringUTF16" (414 : Nat) ({ cls := "java/lang/String", name := "checkIndex", desc := "(II)V" } : Jvm.MethodName)) ∈ mk_WL := mk_t2 192 rfl rfl
theorem mw_433 : (Jvm.Cond.methodLink "java/lang/StringUTF16" (71 : Nat) ({ cls := "java/lang/StringUTF16", name := "getChar", desc := "([BI)C" } : Jvm.MethodName)) ∈ mk_WL := mk_t2 193 rfl rfl
theorem mw_434 : (Jvm.Cond.static ({ cls := "java/lang/StringUTF16", name := "getChar", desc := "([BI)C" } : Jvm.MethodName)) ∈ mk_WL := mk_t2 194 rfl rfl
theorem mw_435 : (Jvm.Cond.code ({ cls := "java/lang/StringUTF16", name := "getChar", desc := "([BI)C" } : Jvm.MethodName) prog_21_method_5_code (2 : Nat) (Option.some Jvm.ClassFile.FieldType.char)) ∈ mk_WL := mk_t2 195 rfl rfl
theorem mw_436 : (Jvm.Cond.fieldLink "java/lang/StringUTF16" (44 : Nat) "java/lang/StringUTF16" "$assertionsDisabled" "Z") ∈ mk_WL := mk_t2 196 rfl rfl
theorem mw_438 : (Jvm.Cond.fieldLink "java/lang/StringUTF16" (59 : Nat) "java/lang/StringUTF16" "HI_BYTE_SHIFT" "I") ∈ mk_WL := mk_t2 198 rfl rfl
theorem mw_440 : (Jvm.Cond.fieldLink "java/lang/StringUTF16" (63 : Nat) "java/lang/StringUTF16" "LO_BYTE_SHIFT" "I") ∈ mk_WL := mk_t2 200 rfl rfl
theorem mw_442 : (Jvm.Cond.methodLink "SplitChannel$Reader" (57 : Nat) ({ cls := "SplitChannel$Reader", name := "readChannel", desc := "()Z" } : Jvm.MethodName)) ∈ mk_WL := mk_t2 202 rfl rfl
theorem mw_443 : (Jvm.Cond.instanceMethod ({ cls := "SplitChannel$Reader", name := "readChannel", desc := "()Z" } : Jvm.MethodName)) ∈ mk_WL := mk_t2 203 rfl rfl
theorem mw_444 : (Jvm.Cond.selects "SplitChannel$Reader" ({ cls := "SplitChannel$Reader", name := "readChannel", desc := "()Z" } : Jvm.MethodName) ({ cls := "SplitChannel$Reader", name := "readChannel", desc := "()Z" } : Jvm.MethodName)) ∈ mk_WL := mk_t2 204 rfl rfl
theorem mw_445 : (Jvm.Cond.code ({ cls := "SplitChannel$Reader", name := "readChannel", desc := "()Z" } : Jvm.MethodName) prog_7_method_4_code (1 : Nat) (Option.some Jvm.ClassFile.FieldType.boolean)) ∈ mk_WL := mk_t2 205 rfl rfl
theorem mw_447 : (Jvm.Cond.methodLink "SplitChannel$Reader" (76 : Nat) ({ cls := "SplitChannel$Reader", name := "readWord", desc := "(Ljava/lang/String;)Z" } : Jvm.MethodName)) ∈ mk_WL := mk_t2 207 rfl rfl
theorem mw_448 : (Jvm.Cond.instanceMethod ({ cls := "SplitChannel$Reader", name := "readWord", desc := "(Ljava/lang/String;)Z" } : Jvm.MethodName)) ∈ mk_WL := mk_t2 208 rfl rfl
theorem mw_449 : (Jvm.Cond.selects "SplitChannel$Reader" ({ cls := "SplitChannel$Reader", name := "readWord", desc := "(Ljava/lang/String;)Z" } : Jvm.MethodName) ({ cls := "SplitChannel$Reader", name := "readWord", desc := "(Ljava/lang/String;)Z" } : Jvm.MethodName)) ∈ mk_WL := mk_t2 209 rfl rfl
theorem mw_450 : (Jvm.Cond.code ({ cls := "SplitChannel$Reader", name := "readWord", desc := "(Ljava/lang/String;)Z" } : Jvm.MethodName) prog_7_method_7_code (2 : Nat) (Option.some Jvm.ClassFile.FieldType.boolean)) ∈ mk_WL := mk_t2 210 rfl rfl
theorem mw_451 : (Jvm.Cond.methodLink "SplitChannel$Reader" (60 : Nat) ({ cls := "SplitChannel$Reader", name := "refuse", desc := "(I)Z" } : Jvm.MethodName)) ∈ mk_WL := mk_t2 211 rfl rfl
theorem mw_452 : (Jvm.Cond.instanceMethod ({ cls := "SplitChannel$Reader", name := "refuse", desc := "(I)Z" } : Jvm.MethodName)) ∈ mk_WL := mk_t2 212 rfl rfl
theorem mw_453 : (Jvm.Cond.selects "SplitChannel$Reader" ({ cls := "SplitChannel$Reader", name := "refuse", desc := "(I)Z" } : Jvm.MethodName) ({ cls := "SplitChannel$Reader", name := "refuse", desc := "(I)Z" } : Jvm.MethodName)) ∈ mk_WL := mk_t2 213 rfl rfl
theorem mw_454 : (Jvm.Cond.code ({ cls := "SplitChannel$Reader", name := "refuse", desc := "(I)Z" } : Jvm.MethodName) prog_7_method_12_code (2 : Nat) (Option.some Jvm.ClassFile.FieldType.boolean)) ∈ mk_WL := mk_t2 214 rfl rfl
theorem mw_455 : (Jvm.Cond.methodLink "SplitChannel$Reader" (79 : Nat) ({ cls := "SplitChannel$Reader", name := "readNumber", desc := "(II)Z" } : Jvm.MethodName)) ∈ mk_WL := mk_t2 215 rfl rfl
theorem mw_456 : (Jvm.Cond.instanceMethod ({ cls := "SplitChannel$Reader", name := "readNumber", desc := "(II)Z" } : Jvm.MethodName)) ∈ mk_WL := mk_t2 216 rfl rfl
theorem mw_457 : (Jvm.Cond.selects "SplitChannel$Reader" ({ cls := "SplitChannel$Reader", name := "readNumber", desc := "(II)Z" } : Jvm.MethodName) ({ cls := "SplitChannel$Reader", name := "readNumber", desc := "(II)Z" } : Jvm.MethodName)) ∈ mk_WL := mk_t2 217 rfl rfl
theorem mw_458 : (Jvm.Cond.code ({ cls := "SplitChannel$Reader", name := "readNumber", desc := "(II)Z" } : Jvm.MethodName) prog_7_method_8_code (4 : Nat) (Option.some Jvm.ClassFile.FieldType.boolean)) ∈ mk_WL := mk_t2 218 rfl rfl
theorem mw_459 : (Jvm.Cond.constant "SplitChannel$Reader" (142 : Nat) (1000000 : Int32)) ∈ mk_WL := mk_t2 219 rfl rfl
theorem mw_463 : (Jvm.Cond.methodLink "SplitChannel$Reader" (100 : Nat) ({ cls := "SplitChannel$Reader", name := "readSign", desc := "()Z" } : Jvm.MethodName)) ∈ mk_WL := mk_t2 223 rfl rfl
theorem mw_464 : (Jvm.Cond.instanceMethod ({ cls := "SplitChannel$Reader", name := "readSign", desc := "()Z" } : Jvm.MethodName)) ∈ mk_WL := mk_t2 224 rfl rfl
theorem mw_465 : (Jvm.Cond.selects "SplitChannel$Reader" ({ cls := "SplitChannel$Reader", name := "readSign", desc := "()Z" } : Jvm.MethodName) ({ cls := "SplitChannel$Reader", name := "readSign", desc := "()Z" } : Jvm.MethodName)) ∈ mk_WL := mk_t2 225 rfl rfl
theorem mw_466 : (Jvm.Cond.code ({ cls := "SplitChannel$Reader", name := "readSign", desc := "()Z" } : Jvm.MethodName) prog_7_method_11_code (1 : Nat) (Option.some Jvm.ClassFile.FieldType.boolean)) ∈ mk_WL := mk_t2 226 rfl rfl
theorem mw_468 : (Jvm.Cond.methodLink "SplitChannel$Reader" (66 : Nat) ({ cls := "SplitChannel$Reader", name := "readSender", desc := "()Z" } : Jvm.MethodName)) ∈ mk_WL := mk_t2 228 rfl rfl
theorem mw_469 : (Jvm.Cond.instanceMethod ({ cls := "SplitChannel$Reader", name := "readSender", desc := "()Z" } : Jvm.MethodName)) ∈ mk_WL := mk_t2 229 rfl rfl
theorem mw_470 : (Jvm.Cond.selects "SplitChannel$Reader" ({ cls := "SplitChannel$Reader", name := "readSender", desc := "()Z" } : Jvm.MethodName) ({ cls := "SplitChannel$Reader", name := "readSender", desc := "()Z" } : Jvm.MethodName)) ∈ mk_WL := mk_t2 230 rfl rfl
theorem mw_471 : (Jvm.Cond.code ({ cls := "SplitChannel$Reader", name := "readSender", desc := "()Z" } : Jvm.MethodName) prog_7_method_5_code (2 : Nat) (Option.some Jvm.ClassFile.FieldType.boolean)) ∈ mk_WL := mk_t2 231 rfl rfl
theorem mw_474 : (Jvm.Cond.methodLink "SplitChannel$Reader" (110 : Nat) ({ cls := "SplitChannel$Reader", name := "readBits", desc := "()Z" } : Jvm.MethodName)) ∈ mk_WL := mk_t2 234 rfl rfl
theorem mw_475 : (Jvm.Cond.instanceMethod ({ cls := "SplitChannel$Reader", name := "readBits", desc := "()Z" } : Jvm.MethodName)) ∈ mk_WL := mk_t2 235 rfl rfl
theorem mw_476 : (Jvm.Cond.selects "SplitChannel$Reader" ({ cls := "SplitChannel$Reader", name := "readBits", desc := "()Z" } : Jvm.MethodName) ({ cls := "SplitChannel$Reader", name := "readBits", desc := "()Z" } : Jvm.MethodName)) ∈ mk_WL := mk_t2 236 rfl rfl
theorem mw_477 : (Jvm.Cond.code ({ cls := "SplitChannel$Reader", name := "readBits", desc := "()Z" } : Jvm.MethodName) prog_7_method_9_code (3 : Nat) (Option.some Jvm.ClassFile.FieldType.boolean)) ∈ mk_WL := mk_t2 237 rfl rfl
theorem mw_478 : (Jvm.Cond.methodLink "SplitChannel$Reader" (116 : Nat) ({ cls := "SplitChannel$Plan", name := "addSender", desc := "(III)V" } : Jvm.MethodName)) ∈ mk_WL := mk_t2 238 rfl rfl
theorem mw_479 : (Jvm.Cond.instanceMethod ({ cls := "SplitChannel$Plan", name := "addSender", desc := "(III)V" } : Jvm.MethodName)) ∈ mk_WL := mk_t2 239 rfl rfl
theorem mw_480 : (Jvm.Cond.selects "SplitChannel$Plan" ({ cls := "SplitChannel$Plan", name := "addSender", desc := "(III)V" } : Jvm.MethodName) ({ cls := "SplitChannel$Plan", name := "addSender", desc := "(III)V" } : Jvm.MethodName)) ∈ mk_WL := mk_t3 0 rfl rfl
theorem mw_481 : (Jvm.Cond.code ({ cls := "SplitChannel$Plan", name := "addSender", desc := "(III)V" } : Jvm.MethodName) prog_5_method_4_code (4 : Nat) (Option.none : Option Jvm.ClassFile.FieldType)) ∈ mk_WL := mk_t3 1 rfl rfl
theorem mw_483 : (Jvm.Cond.static ({ cls := "SplitChannel", name := "put", desc := "([III)V" } : Jvm.MethodName)) ∈ mk_WL := mk_t3 3 rfl rfl
theorem mw_484 : (Jvm.Cond.code ({ cls := "SplitChannel", name := "put", desc := "([III)V" } : Jvm.MethodName) prog_1_method_41_code (3 : Nat) (Option.none : Option Jvm.ClassFile.FieldType)) ∈ mk_WL := mk_t3 4 rfl rfl
theorem mw_486 : (Jvm.Cond.methodLink "SplitChannel$Reader" (71 : Nat) ({ cls := "SplitChannel$Reader", name := "readNoise", desc := "()Z" } : Jvm.MethodName)) ∈ mk_WL := mk_t3 6 rfl rfl
theorem mw_487 : (Jvm.Cond.instanceMethod ({ cls := "SplitChannel$Reader", name := "readNoise", desc := "()Z" } : Jvm.MethodName)) ∈ mk_WL := mk_t3 7 rfl rfl
theorem mw_488 : (Jvm.Cond.selects "SplitChannel$Reader" ({ cls := "SplitChannel$Reader", name := "readNoise", desc := "()Z" } : Jvm.MethodName) ({ cls := "SplitChannel$Reader", name := "readNoise", desc := "()Z" } : Jvm.MethodName)) ∈ mk_WL := mk_t3 8 rfl rfl
theorem mw_489 : (Jvm.Cond.code ({ cls := "SplitChannel$Reader", name := "readNoise", desc := "()Z" } : Jvm.MethodName) prog_7_method_6_code (2 : Nat) (Option.some Jvm.ClassFile.FieldType.boolean)) ∈ mk_WL := mk_t3 9 rfl rfl
theorem mw_490 : (Jvm.Cond.methodLink "SplitChannel$Reader" (123 : Nat) ({ cls := "SplitChannel$Plan", name := "isNoisy", desc := "(I)Z" } : Jvm.MethodName)) ∈ mk_WL := mk_t3 10 rfl rfl
theorem mw_491 : (Jvm.Cond.instanceMethod ({ cls := "SplitChannel$Plan", name := "isNoisy", desc := "(I)Z" } : Jvm.MethodName)) ∈ mk_WL := mk_t3 11 rfl rfl
theorem mw_492 : (Jvm.Cond.selects "SplitChannel$Plan" ({ cls := "SplitChannel$Plan", name := "isNoisy", desc := "(I)Z" } : Jvm.MethodName) ({ cls := "SplitChannel$Plan", name := "isNoisy", desc := "(I)Z" } : Jvm.MethodName)) ∈ mk_WL := mk_t3 12 rfl rfl
theorem mw_493 : (Jvm.Cond.code ({ cls := "SplitChannel$Plan", name := "isNoisy", desc := "(I)Z" } : Jvm.MethodName) prog_5_method_10_code (3 : Nat) (Option.some Jvm.ClassFile.FieldType.boolean)) ∈ mk_WL := mk_t3 13 rfl rfl
theorem mw_496 : (Jvm.Cond.methodLink "SplitChannel$Reader" (128 : Nat) ({ cls := "SplitChannel$Reader", name := "readKind", desc := "()Z" } : Jvm.MethodName)) ∈ mk_WL := mk_t3 16 rfl rfl
theorem mw_497 : (Jvm.Cond.instanceMethod ({ cls := "SplitChannel$Reader", name := "readKind", desc := "()Z" } : Jvm.MethodName)) ∈ mk_WL := mk_t3 17 rfl rfl
theorem mw_498 : (Jvm.Cond.selects "SplitChannel$Reader" ({ cls := "SplitChannel$Reader", name := "readKind", desc := "()Z" } : Jvm.MethodName) ({ cls := "SplitChannel$Reader", name := "readKind", desc := "()Z" } : Jvm.MethodName)) ∈ mk_WL := mk_t3 18 rfl rfl
theorem mw_499 : (Jvm.Cond.code ({ cls := "SplitChannel$Reader", name := "readKind", desc := "()Z" } : Jvm.MethodName) prog_7_method_10_code (1 : Nat) (Option.some Jvm.ClassFile.FieldType.boolean)) ∈ mk_WL := mk_t3 19 rfl rfl
theorem mw_503 : (Jvm.Cond.methodLink "SplitChannel$Reader" (131 : Nat) ({ cls := "SplitChannel$Plan", name := "addNoise", desc := "(II)V" } : Jvm.MethodName)) ∈ mk_WL := mk_t3 23 rfl rfl
theorem mw_504 : (Jvm.Cond.instanceMethod ({ cls := "SplitChannel$Plan", name := "addNoise", desc := "(II)V" } : Jvm.MethodName)) ∈ mk_WL := mk_t3 24 rfl rfl
theorem mw_505 : (Jvm.Cond.selects "SplitChannel$Plan" ({ cls := "SplitChannel$Plan", name := "addNoise", desc := "(II)V" } : Jvm.MethodName) ({ cls := "SplitChannel$Plan", name := "addNoise", desc := "(II)V" } : Jvm.MethodName)) ∈ mk_WL := mk_t3 25 rfl rfl
theorem mw_506 : (Jvm.Cond.code ({ cls := "SplitChannel$Plan", name := "addNoise", desc := "(II)V" } : Jvm.MethodName) prog_5_method_5_code (3 : Nat) (Option.none : Option Jvm.ClassFile.FieldType)) ∈ mk_WL := mk_t3 26 rfl rfl
theorem mw_507 : (Jvm.Cond.methodLink "SplitChannel" (78 : Nat) ({ cls := "SplitChannel$Plan", name := "become", desc := "(LSplitChannel$Plan;)V" } : Jvm.MethodName)) ∈ mk_WL := mk_t3 27 rfl rfl
theorem mw_508 : (Jvm.Cond.instanceMethod ({ cls := "SplitChannel$Plan", name := "become", desc := "(LSplitChannel$Plan;)V" } : Jvm.MethodName)) ∈ mk_WL := mk_t3 28 rfl rfl
theorem mw_509 : (Jvm.Cond.selects "SplitChannel$Plan" ({ cls := "SplitChannel$Plan", name := "become", desc := "(LSplitChannel$Plan;)V" } : Jvm.MethodName) ({ cls := "SplitChannel$Plan", name := "become", desc := "(LSplitChannel$Plan;)V" } : Jvm.MethodName)) ∈ mk_WL := mk_t3 29 rfl rfl
theorem mw_510 : (Jvm.Cond.code ({ cls := "SplitChannel$Plan", name := "become", desc := "(LSplitChannel$Plan;)V" } : Jvm.MethodName) prog_5_method_3_code (3 : Nat) (Option.none : Option Jvm.ClassFile.FieldType)) ∈ mk_WL := mk_t3 30 rfl rfl
theorem mw_511 : (Jvm.Cond.methodLink "SplitChannel$Plan" (49 : Nat) ({ cls := "SplitChannel$Plan", name := "clear", desc := "()V" } : Jvm.MethodName)) ∈ mk_WL := mk_t3 31 rfl rfl
theorem mw_512 : (Jvm.Cond.methodLink "SplitChannel$Plan" (56 : Nat) ({ cls := "SplitChannel$Plan", name := "addSender", desc := "(III)V" } : Jvm.MethodName)) ∈ mk_WL := mk_t3 32 rfl rfl
theorem mw_513 : (Jvm.Cond.methodLink "SplitChannel$Plan" (60 : Nat) ({ cls := "SplitChannel$Plan", name := "addNoise", desc := "(II)V" } : Jvm.MethodName)) ∈ mk_WL := mk_t3 33 rfl rfl
theorem mw_514 : (Jvm.Cond.methodLink "SplitChannel" (90 : Nat) ({ cls := "SplitChannel$Play", name := "run", desc := "(LSplitChannel$Course;III)I" } : Jvm.MethodName)) ∈ mk_WL := mk_t3 34 rfl rfl
theorem mw_515 : (Jvm.Cond.instanceMethod ({ cls := "SplitChannel$Play", name := "run", desc := "(LSplitChannel$Course;III)I" } : Jvm.MethodName)) ∈ mk_WL := mk_t3 35 rfl rfl
theorem mw_516 : (Jvm.Cond.selects "SplitChannel$Play" ({ cls := "SplitChannel$Play", name := "run", desc := "(LSplitChannel$Course;III)I" } : Jvm.MethodName) ({ cls := "SplitChannel$Play", name := "run", desc := "(LSplitChannel$Course;III)I" } : Jvm.MethodName)) ∈ mk_WL := mk_t3 36 rfl rfl
theorem mw_517 : (Jvm.Cond.code ({ cls := "SplitChannel$Play", name := "run", desc := "(LSplitChannel$Course;III)I" } : Jvm.MethodName) prog_6_method_2_code (6 : Nat) (Option.some Jvm.ClassFile.FieldType.int)) ∈ mk_WL := mk_t3 37 rfl rfl
theorem mw_518 : (Jvm.Cond.methodLink "SplitChannel$Play" (68 : Nat) ({ cls := "java/util/Arrays", name := "fill", desc := "([II)V" } : Jvm.MethodName)) ∈ mk_WL := mk_t3 38 rfl rfl
theorem mw_519 : (Jvm.Cond.static ({ cls := "java/util/Arrays", name := "fill", desc := "([II)V" } : Jvm.MethodName)) ∈ mk_WL := mk_t3 39 rfl rfl
theorem mw_520 : (Jvm.Cond.code ({ cls := "java/util/Arrays", name := "fill", desc := "([II)V" } : Jvm.MethodName) prog_23_method_103_code (4 : Nat) (Option.none : Option Jvm.ClassFile.FieldType)) ∈ mk_WL := mk_t3 40 rfl rfl
theorem mw_521 : (Jvm.Cond.methodLink "SplitChannel$Play" (74 : Nat) ({ cls := "SplitChannel$Course", name := "clear", desc := "()V" } : Jvm.MethodName)) ∈ mk_WL := mk_t3 41 rfl rfl
theorem mw_522 : (Jvm.Cond.instanceMethod ({ cls := "SplitChannel$Course", name := "clear", desc := "()V" } : Jvm.MethodName)) ∈ mk_WL := mk_t3 42 rfl rfl
theorem mw_523 : (Jvm.Cond.selects "SplitChannel$Course" ({ cls := "SplitChannel$Course", name := "clear", desc := "()V" } : Jvm.MethodName) ({ cls := "SplitChannel$Course", name := "clear", desc := "()V" } : Jvm.MethodName)) ∈ mk_WL := mk_t3 43 rfl rfl
theorem mw_524 : (Jvm.Cond.code ({ cls := "SplitChannel$Course", name := "clear", desc := "()V" } : Jvm.MethodName) prog_3_method_2_code (1 : Nat) (Option.none : Option Jvm.ClassFile.FieldType)) ∈ mk_WL := mk_t3 44 rfl rfl
theorem mw_525 : (Jvm.Cond.methodLink "SplitChannel$Course" (48 : Nat) ({ cls := "java/util/Arrays", name := "fill", desc := "([II)V" } : Jvm.MethodName)) ∈ mk_WL := mk_t3 45 rfl rfl
theorem mw_526 : (Jvm.Cond.methodLink "SplitChannel$Play" (80 : Nat) ({ cls := "SplitChannel$Play", name := "welcome", desc := "(I)V" } : Jvm.MethodName)) ∈ mk_WL := mk_t3 46 rfl rfl
theorem mw_527 : (Jvm.Cond.instanceMethod ({ cls := "SplitChannel$Play", name := "welcome", desc := "(I)V" } : Jvm.MethodName)) ∈ mk_WL := mk_t3 47 rfl rfl
theorem mw_528 : (Jvm.Cond.selects "SplitChannel$Play" ({ cls := "SplitChannel$Play", name := "welcome", desc := "(I)V" } : Jvm.MethodName) ({ cls := "SplitChannel$Play", name := "welcome", desc := "(I)V" } : Jvm.MethodName)) ∈ mk_WL := mk_t3 48 rfl rfl
theorem mw_529 : (Jvm.Cond.code ({ cls := "SplitChannel$Play", name := "welcome", desc := "(I)V" } : Jvm.MethodName) prog_6_method_3_code (3 : Nat) (Option.none : Option Jvm.ClassFile.FieldType)) ∈ mk_WL := mk_t3 49 rfl rfl
theorem mw_531 : (Jvm.Cond.methodLink "SplitChannel$Play" (84 : Nat) ({ cls := "SplitChannel$Play", name := "playByCounters", desc := "(I)V" } : Jvm.MethodName)) ∈ mk_WL := mk_t3 51 rfl rfl
theorem mw_532 : (Jvm.Cond.instanceMethod ({ cls := "SplitChannel$Play", name := "playByCounters", desc := "(I)V" } : Jvm.MethodName)) ∈ mk_WL := mk_t3 52 rfl rfl
theorem mw_533 : (Jvm.Cond.selects "SplitChannel$Play" ({ cls := "SplitChannel$Play", name := "playByCounters", desc := "(I)V" } : Jvm.MethodName) ({ cls := "SplitChannel$Play", name := "playByCounters", desc := "(I)V" } : Jvm.MethodName)) ∈ mk_WL := mk_t3 53 rfl rfl
theorem mw_534 : (Jvm.Cond.code ({ cls := "SplitChannel$Play", name := "playByCounters", desc := "(I)V" } : Jvm.MethodName) prog_6_method_14_code (6 : Nat) (Option.none : Option Jvm.ClassFile.FieldType)) ∈ mk_WL := mk_t3 54 rfl rfl
theorem mw_535 : (Jvm.Cond.methodLink "SplitChannel$Play" (110 : Nat) ({ cls := "SplitChannel$Play", name := "listen", desc := "(II)I" } : Jvm.MethodName)) ∈ mk_WL := mk_t3 55 rfl rfl
theorem mw_536 : (Jvm.Cond.instanceMethod ({ cls := "SplitChannel$Play", name := "listen", desc := "(II)I" } : Jvm.MethodName)) ∈ mk_WL := mk_t3 56 rfl rfl
theorem mw_537 : (Jvm.Cond.selects "SplitChannel$Play" ({ cls := "SplitChannel$Play", name := "listen", desc := "(II)I" } : Jvm.MethodName) ({ cls := "SplitChannel$Play", name := "listen", desc := "(II)I" } : Jvm.MethodName)) ∈ mk_WL := mk_t3 57 rfl rfl
theorem mw_538 : (Jvm.Cond.code ({ cls := "SplitChannel$Play", name := "listen", desc := "(II)I" } : Jvm.MethodName) prog_6_method_12_code (7 : Nat) (Option.some Jvm.ClassFile.FieldType.int)) ∈ mk_WL := mk_t3 58 rfl rfl
theorem mw_539 : (Jvm.Cond.methodLink "SplitChannel$Play" (191 : Nat) ({ cls := "java/lang/Integer", name := "bitCount", desc := "(I)I" } : Jvm.MethodName)) ∈ mk_WL := mk_t3 59 rfl rfl
theorem mw_540 : (Jvm.Cond.static ({ cls := "java/lang/Integer", name := "bitCount", desc := "(I)I" } : Jvm.MethodName)) ∈ mk_WL := mk_t3 60 rfl rfl
theorem mw_541 : (Jvm.Cond.code ({ cls := "java/lang/Integer", name := "bitCount", desc := "(I)I" } : Jvm.MethodName) prog_15_method_49_code (1 : Nat) (Option.some Jvm.ClassFile.FieldType.int)) ∈ mk_WL := mk_t3 61 rfl rfl
theorem mw_542 : (Jvm.Cond.constant "java/lang/Integer" (265 : Nat) (1431655765 : Int32)) ∈ mk_WL := mk_t3 62 rfl rfl
theorem mw_543 : (Jvm.Cond.constant "java/lang/Integer" (266 : Nat) (858993459 : Int32)) ∈ mk_WL := mk_t3 63 rfl rfl
theorem mw_544 : (Jvm.Cond.constant "java/lang/Integer" (267 : Nat) (252645135 : Int32)) ∈ mk_WL := mk_t3 64 rfl rfl
theorem mw_545 : (Jvm.Cond.methodLink "SplitChannel$Play" (143 : Nat) ({ cls := "java/lang/Math", name := "min", desc := "(II)I" } : Jvm.MethodName)) ∈ mk_WL := mk_t3 65 rfl rfl
theorem mw_546 : (Jvm.Cond.static ({ cls := "java/lang/Math", name := "min", desc := "(II)I" } : Jvm.MethodName)) ∈ mk_WL := mk_t3 66 rfl rfl
theorem mw_547 : (Jvm.Cond.code ({ cls := "java/lang/Math", name := "min", desc := "(II)I" } : Jvm.MethodName) prog_16_method_69_code (2 : Nat) (Option.some Jvm.ClassFile.FieldType.int)) ∈ mk_WL := mk_t3 67 rfl rfl
theorem mw_548 : (Jvm.Cond.methodLink "SplitChannel$Play" (196 : Nat) ({ cls := "SplitChannel$Play", name := "heardAt", desc := "(II)I" } : Jvm.MethodName)) ∈ mk_WL := mk_t3 68 rfl rfl
theorem mw_549 : (Jvm.Cond.instanceMethod ({ cls := "SplitChannel$Play", name := "heardAt", desc := "(II)I" } : Jvm.MethodName)) ∈ mk_WL := mk_t3 69 rfl rfl
theorem mw_550 : (Jvm.Cond.selects "SplitChannel$Play" ({ cls := "SplitChannel$Play", name := "heardAt", desc := "(II)I" } : Jvm.MethodName) ({ cls := "SplitChannel$Play", name := "heardAt", desc := "(II)I" } : Jvm.MethodName)) ∈ mk_WL := mk_t3 70 rfl rfl
theorem mw_551 : (Jvm.Cond.code ({ cls := "SplitChannel$Play", name := "heardAt", desc := "(II)I" } : Jvm.MethodName) prog_6_method_13_code (4 : Nat) (Option.some Jvm.ClassFile.FieldType.int)) ∈ mk_WL := mk_t3 71 rfl rfl
theorem mw_553 : (Jvm.Cond.methodLink "SplitChannel$Play" (208 : Nat) ({ cls := "SplitChannel$Course", name := "deliver", desc := "(II)V" } : Jvm.MethodName)) ∈ mk_WL := mk_t3 73 rfl rfl
theorem mw_554 : (Jvm.Cond.instanceMethod ({ cls := "SplitChannel$Course", name := "deliver", desc := "(II)V" } : Jvm.MethodName)) ∈ mk_WL := mk_t3 74 rfl rfl
theorem mw_555 : (Jvm.Cond.selects "SplitChannel$Course" ({ cls := "SplitChannel$Course", name := "deliver", desc := "(II)V" } : Jvm.MethodName) ({ cls := "SplitChannel$Course", name := "deliver", desc := "(II)V" } : Jvm.MethodName)) ∈ mk_WL := mk_t3 75 rfl rfl
theorem mw_556 : (Jvm.Cond.code ({ cls := "SplitChannel$Course", name := "deliver", desc := "(II)V" } : Jvm.MethodName) prog_3_method_3_code (3 : Nat) (Option.none : Option Jvm.ClassFile.FieldType)) ∈ mk_WL := mk_t3 76 rfl rfl
theorem mw_558 : (Jvm.Cond.methodLink "SplitChannel$Play" (220 : Nat) ({ cls := "SplitChannel$Play", name := "counterBehind", desc := "(IZZ)I" } : Jvm.MethodName)) ∈ mk_WL := mk_t3 78 rfl rfl
theorem mw_559 : (Jvm.Cond.instanceMethod ({ cls := "SplitChannel$Play", name := "counterBehind", desc := "(IZZ)I" } : Jvm.MethodName)) ∈ mk_WL := mk_t3 79 rfl rfl
theorem mw_560 : (Jvm.Cond.selects "SplitChannel$Play" ({ cls := "SplitChannel$Play", name := "counterBehind", desc := "(IZZ)I" } : Jvm.MethodName) ({ cls := "SplitChannel$Play", name := "counterBehind", desc := "(IZZ)I" } : Jvm.MethodName)) ∈ mk_WL := mk_t3 80 rfl rfl
theorem mw_561 : (Jvm.Cond.code ({ cls := "SplitChannel$Play", name := "counterBehind", desc := "(IZZ)I" } : Jvm.MethodName) prog_6_method_15_code (5 : Nat) (Option.some Jvm.ClassFile.FieldType.int)) ∈ mk_WL := mk_t3 81 rfl rfl
theorem mw_562 : (Jvm.Cond.methodLink "SplitChannel$Play" (179 : Nat) ({ cls := "SplitChannel$Play", name := "nextBit", desc := "(I)I" } : Jvm.MethodName)) ∈ mk_WL := mk_t3 82 rfl rfl
theorem mw_563 : (Jvm.Cond.instanceMethod ({ cls := "SplitChannel$Play", name := "nextBit", desc := "(I)I" } : Jvm.MethodName)) ∈ mk_WL := mk_t3 83 rfl rfl
theorem mw_564 : (Jvm.Cond.selects "SplitChannel$Play" ({ cls := "SplitChannel$Play", name := "nextBit", desc := "(I)I" } : Jvm.MethodName) ({ cls := "SplitChannel$Play", name := "nextBit", desc := "(I)I" } : Jvm.MethodName)) ∈ mk_WL := mk_t3 84 rfl rfl
theorem mw_565 : (Jvm.Cond.code ({ cls := "SplitChannel$Play", name := "nextBit", desc := "(I)I" } : Jvm.MethodName) prog_6_method_11_code (4 : Nat) (Option.some Jvm.ClassFile.FieldType.int)) ∈ mk_WL := mk_t3 85 rfl rfl
theorem mw_566 : (Jvm.Cond.methodLink "SplitChannel$Play" (224 : Nat) ({ cls := "java/lang/Math", name := "max", desc := "(II)I" } : Jvm.MethodName)) ∈ mk_WL := mk_t3 86 rfl rfl
theorem mw_567 : (Jvm.Cond.static ({ cls := "java/lang/Math", name := "max", desc := "(II)I" } : Jvm.MethodName)) ∈ mk_WL := mk_t3 87 rfl rfl
theorem mw_568 : (Jvm.Cond.code ({ cls := "java/lang/Math", name := "max", desc := "(II)I" } : Jvm.MethodName) prog_16_method_65_code (2 : Nat) (Option.some Jvm.ClassFile.FieldType.int)) ∈ mk_WL := mk_t3 88 rfl rfl
theorem mw_569 : (Jvm.Cond.methodLink "SplitChannel$Play" (87 : Nat) ({ cls := "SplitChannel$Play", name := "playByGroups", desc := "(I)V" } : Jvm.MethodName)) ∈ mk_WL := mk_t3 89 rfl rfl
theorem mw_570 : (Jvm.Cond.instanceMethod ({ cls := "SplitChannel$Play", name := "playByGroups", desc := "(I)V" } : Jvm.MethodName)) ∈ mk_WL := mk_t3 90 rfl rfl
theorem mw_571 : (Jvm.Cond.selects "SplitChannel$Play" ({ cls := "SplitChannel$Play", name := "playByGroups", desc := "(I)V" } : Jvm.MethodName) ({ cls := "SplitChannel$Play", name := "playByGroups", desc := "(I)V" } : Jvm.MethodName)) ∈ mk_WL := mk_t3 91 rfl rfl
theorem mw_572 : (Jvm.Cond.code ({ cls := "SplitChannel$Play", name := "playByGroups", desc := "(I)V" } : Jvm.MethodName) prog_6_method_4_code (5 : Nat) (Option.none : Option Jvm.ClassFile.FieldType)) ∈ mk_WL := mk_t3 92 rfl rfl
theorem mw_573 : (Jvm.Cond.methodLink "SplitChannel$Play" (103 : Nat) ({ cls := "SplitChannel$Play", name := "beginEpoch", desc := "(I)V" } : Jvm.MethodName)) ∈ mk_WL := mk_t3 93 rfl rfl
theorem mw_574 : (Jvm.Cond.instanceMethod ({ cls := "SplitChannel$Play", name := "beginEpoch", desc := "(I)V" } : Jvm.MethodName)) ∈ mk_WL := mk_t3 94 rfl rfl
theorem mw_575 : (Jvm.Cond.selects "SplitChannel$Play" ({ cls := "SplitChannel$Play", name := "beginEpoch", desc := "(I)V" } : Jvm.MethodName) ({ cls := "SplitChannel$Play", name := "beginEpoch", desc := "(I)V" } : Jvm.MethodName)) ∈ mk_WL := mk_t3 95 rfl rfl
theorem mw_576 : (Jvm.Cond.code ({ cls := "SplitChannel$Play", name := "beginEpoch", desc := "(I)V" } : Jvm.MethodName) prog_6_method_6_code (5 : Nat) (Option.none : Option Jvm.ClassFile.FieldType)) ∈ mk_WL := mk_t3 96 rfl rfl
theorem mw_577 : (Jvm.Cond.methodLink "SplitChannel$Play" (148 : Nat) ({ cls := "SplitChannel$Play", name := "within", desc := "(III)I" } : Jvm.MethodName)) ∈ mk_WL := mk_t3 97 rfl rfl
theorem mw_578 : (Jvm.Cond.instanceMethod ({ cls := "SplitChannel$Play", name := "within", desc := "(III)I" } : Jvm.MethodName)) ∈ mk_WL := mk_t3 98 rfl rfl
theorem mw_579 : (Jvm.Cond.selects "SplitChannel$Play" ({ cls := "SplitChannel$Play", name := "within", desc := "(III)I" } : Jvm.MethodName) ({ cls := "SplitChannel$Play", name := "within", desc := "(III)I" } : Jvm.MethodName)) ∈ mk_WL := mk_t3 99 rfl rfl
theorem mw_580 : (Jvm.Cond.code ({ cls := "SplitChannel$Play", name := "within", desc := "(III)I" } : Jvm.MethodName) prog_6_method_8_code (7 : Nat) (Option.some Jvm.ClassFile.FieldType.int)) ∈ mk_WL := mk_t3 100 rfl rfl
theorem mw_581 : (Jvm.Cond.methodLink "SplitChannel$Play" (166 : Nat) ({ cls := "SplitChannel$Plan", name := "moment", desc := "(I)I" } : Jvm.MethodName)) ∈ mk_WL := mk_t3 101 rfl rfl
theorem mw_582 : (Jvm.Cond.instanceMethod ({ cls := "SplitChannel$Plan", name := "moment", desc := "(I)I" } : Jvm.MethodName)) ∈ mk_WL := mk_t3 102 rfl rfl
theorem mw_583 : (Jvm.Cond.selects "SplitChannel$Plan" ({ cls := "SplitChannel$Plan", name := "moment", desc := "(I)I" } : Jvm.MethodName) ({ cls := "SplitChannel$Plan", name := "moment", desc := "(I)I" } : Jvm.MethodName)) ∈ mk_WL := mk_t3 103 rfl rfl
theorem mw_584 : (Jvm.Cond.code ({ cls := "SplitChannel$Plan", name := "moment", desc := "(I)I" } : Jvm.MethodName) prog_5_method_12_code (2 : Nat) (Option.some Jvm.ClassFile.FieldType.int)) ∈ mk_WL := mk_t3 104 rfl rfl
theorem mw_585 : (Jvm.Cond.methodLink "SplitChannel$Play" (152 : Nat) ({ cls := "SplitChannel$Stack", name := "push", desc := "(III)V" } : Jvm.MethodName)) ∈ mk_WL := mk_t3 105 rfl rfl
theorem mw_586 : (Jvm.Cond.instanceMethod ({ cls := "SplitChannel$Stack", name := "push", desc := "(III)V" } : Jvm.MethodName)) ∈ mk_WL := mk_t3 106 rfl rfl
theorem mw_587 : (Jvm.Cond.selects "SplitChannel$Stack" ({ cls := "SplitChannel$Stack", name := "push", desc := "(III)V" } : Jvm.MethodName) ({ cls := "SplitChannel$Stack", name := "push", desc := "(III)V" } : Jvm.MethodName)) ∈ mk_WL := mk_t3 107 rfl rfl
theorem mw_588 : (Jvm.Cond.code ({ cls := "SplitChannel$Stack", name := "push", desc := "(III)V" } : Jvm.MethodName) prog_8_method_2_code (4 : Nat) (Option.none : Option Jvm.ClassFile.FieldType)) ∈ mk_WL := mk_t3 108 rfl rfl
theorem mw_590 : (Jvm.Cond.methodLink "SplitChannel$Play" (156 : Nat) ({ cls := "SplitChannel$Course", name := "openEpoch", desc := "(II)V" } : Jvm.MethodName)) ∈ mk_WL := mk_t3 110 rfl rfl
theorem mw_591 : (Jvm.Cond.instanceMethod ({ cls := "SplitChannel$Course", name := "openEpoch", desc := "(II)V" } : Jvm.MethodName)) ∈ mk_WL := mk_t3 111 rfl rfl
theorem mw_592 : (Jvm.Cond.selects "SplitChannel$Course" ({ cls := "SplitChannel$Course", name := "openEpoch", desc := "(II)V" } : Jvm.MethodName) ({ cls := "SplitChannel$Course", name := "openEpoch", desc := "(II)V" } : Jvm.MethodName)) ∈ mk_WL := mk_t3 112 rfl rfl
theorem mw_593 : (Jvm.Cond.code ({ cls := "SplitChannel$Course", name := "openEpoch", desc := "(II)V" } : Jvm.MethodName) prog_3_method_4_code (3 : Nat) (Option.none : Option Jvm.ClassFile.FieldType)) ∈ mk_WL := mk_t3 113 rfl rfl
theorem mw_594 : (Jvm.Cond.methodLink "SplitChannel$Play" (106 : Nat) ({ cls := "SplitChannel$Stack", name := "topWho", desc := "()I" } : Jvm.MethodName)) ∈ mk_WL := mk_t3 114 rfl rfl
theorem mw_595 : (Jvm.Cond.instanceMethod ({ cls := "SplitChannel$Stack", name := "topWho", desc := "()I" } : Jvm.MethodName)) ∈ mk_WL := mk_t3 115 rfl rfl
theorem mw_596 : (Jvm.Cond.selects "SplitChannel$Stack" ({ cls := "SplitChannel$Stack", name := "topWho", desc := "()I" } : Jvm.MethodName) ({ cls := "SplitChannel$Stack", name := "topWho", desc := "()I" } : Jvm.MethodName)) ∈ mk_WL := mk_t3 116 rfl rfl
theorem mw_597 : (Jvm.Cond.code ({ cls := "SplitChannel$Stack", name := "topWho", desc := "()I" } : Jvm.MethodName) prog_8_method_4_code (1 : Nat) (Option.some Jvm.ClassFile.FieldType.int)) ∈ mk_WL := mk_t3 117 rfl rfl
theorem mw_599 : (Jvm.Cond.methodLink "SplitChannel$Play" (114 : Nat) ({ cls := "SplitChannel$Play", name := "splitTop", desc := "()V" } : Jvm.MethodName)) ∈ mk_WL := mk_t3 119 rfl rfl
theorem mw_600 : (Jvm.Cond.instanceMethod ({ cls := "SplitChannel$Play", name := "splitTop", desc := "()V" } : Jvm.MethodName)) ∈ mk_WL := mk_t3 120 rfl rfl
theorem mw_601 : (Jvm.Cond.selects "SplitChannel$Play" ({ cls := "SplitChannel$Play", name := "splitTop", desc := "()V" } : Jvm.MethodName) ({ cls := "SplitChannel$Play", name := "splitTop", desc := "()V" } : Jvm.MethodName)) ∈ mk_WL := mk_t3 121 rfl rfl
theorem mw_602 : (Jvm.Cond.code ({ cls := "SplitChannel$Play", name := "splitTop", desc := "()V" } : Jvm.MethodName) prog_6_method_9_code (6 : Nat) (Option.none : Option Jvm.ClassFile.FieldType)) ∈ mk_WL := mk_t3 122 rfl rfl
theorem mw_603 : (Jvm.Cond.methodLink "SplitChannel$Play" (176 : Nat) ({ cls := "SplitChannel$Play", name := "takeBits", desc := "(I)I" } : Jvm.MethodName)) ∈ mk_WL := mk_t3 123 rfl rfl
theorem mw_604 : (Jvm.Cond.instanceMethod ({ cls := "SplitChannel$Play", name := "takeBits", desc := "(I)I" } : Jvm.MethodName)) ∈ mk_WL := mk_t3 124 rfl rfl
theorem mw_605 : (Jvm.Cond.selects "SplitChannel$Play" ({ cls := "SplitChannel$Play", name := "takeBits", desc := "(I)I" } : Jvm.MethodName) ({ cls := "SplitChannel$Play", name := "takeBits", desc := "(I)I" } : Jvm.MethodName)) ∈ mk_WL := mk_t3 125 rfl rfl
theorem mw_606 : (Jvm.Cond.code ({ cls := "SplitChannel$Play", name := "takeBits", desc := "(I)I" } : Jvm.MethodName) prog_6_method_10_code (4 : Nat) (Option.some Jvm.ClassFile.FieldType.int)) ∈ mk_WL := mk_t3 126 rfl rfl
theorem mw_607 : (Jvm.Cond.methodLink "SplitChannel$Play" (121 : Nat) ({ cls := "SplitChannel$Stack", name := "pop", desc := "()V" } : Jvm.MethodName)) ∈ mk_WL := mk_t3 127 rfl rfl
theorem mw_608 : (Jvm.Cond.instanceMethod ({ cls := "SplitChannel$Stack", name := "pop", desc := "()V" } : Jvm.MethodName)) ∈ mk_WL := mk_t3 128 rfl rfl
theorem mw_609 : (Jvm.Cond.selects "SplitChannel$Stack" ({ cls := "SplitChannel$Stack", name := "pop", desc := "()V" } : Jvm.MethodName) ({ cls := "SplitChannel$Stack", name := "pop", desc := "()V" } : Jvm.MethodName)) ∈ mk_WL := mk_t3 129 rfl rfl
theorem mw_610 : (Jvm.Cond.code ({ cls := "SplitChannel$Stack", name := "pop", desc := "()V" } : Jvm.MethodName) prog_8_method_3_code (1 : Nat) (Option.none : Option Jvm.ClassFile.FieldType)) ∈ mk_WL := mk_t3 130 rfl rfl
theorem mw_611 : (Jvm.Cond.methodLink "SplitChannel$Play" (117 : Nat) ({ cls := "SplitChannel$Play", name := "maySkip", desc := "()Z" } : Jvm.MethodName)) ∈ mk_WL := mk_t3 131 rfl rfl
theorem mw_612 : (Jvm.Cond.instanceMethod ({ cls := "SplitChannel$Play", name := "maySkip", desc := "()Z" } : Jvm.MethodName)) ∈ mk_WL := mk_t3 132 rfl rfl
theorem mw_613 : (Jvm.Cond.selects "SplitChannel$Play" ({ cls := "SplitChannel$Play", name := "maySkip", desc := "()Z" } : Jvm.MethodName) ({ cls := "SplitChannel$Play", name := "maySkip", desc := "()Z" } : Jvm.MethodName)) ∈ mk_WL := mk_t3 133 rfl rfl
theorem mw_614 : (Jvm.Cond.code ({ cls := "SplitChannel$Play", name := "maySkip", desc := "()Z" } : Jvm.MethodName) prog_6_method_5_code (1 : Nat) (Option.some Jvm.ClassFile.FieldType.boolean)) ∈ mk_WL := mk_t3 134 rfl rfl
theorem mw_615 : (Jvm.Cond.methodLink "SplitChannel$Play" (131 : Nat) ({ cls := "SplitChannel$Play", name := "endEpoch", desc := "(I)V" } : Jvm.MethodName)) ∈ mk_WL := mk_t3 135 rfl rfl
theorem mw_616 : (Jvm.Cond.instanceMethod ({ cls := "SplitChannel$Play", name := "endEpoch", desc := "(I)V" } : Jvm.MethodName)) ∈ mk_WL := mk_t3 136 rfl rfl
theorem mw_617 : (Jvm.Cond.selects "SplitChannel$Play" ({ cls := "SplitChannel$Play", name := "endEpoch", desc := "(I)V" } : Jvm.MethodName) ({ cls := "SplitChannel$Play", name := "endEpoch", desc := "(I)V" } : Jvm.MethodName)) ∈ mk_WL := mk_t3 137 rfl rfl
theorem mw_618 : (Jvm.Cond.code ({ cls := "SplitChannel$Play", name := "endEpoch", desc := "(I)V" } : Jvm.MethodName) prog_6_method_7_code (4 : Nat) (Option.none : Option Jvm.ClassFile.FieldType)) ∈ mk_WL := mk_t3 138 rfl rfl
theorem mw_619 : (Jvm.Cond.arrayClass Jvm.ClassFile.FieldType.byte) ∈ mk_WL := mk_t3 139 rfl rfl
theorem mw_620 : (Jvm.Cond.methodLink "SplitChannelLaw" (131 : Nat) ({ cls := "SplitChannel", name := "count", desc := "(I)I" } : Jvm.MethodName)) ∈ mk_WL := mk_t3 140 rfl rfl
theorem mw_621 : (Jvm.Cond.instanceMethod ({ cls := "SplitChannel", name := "count", desc := "(I)I" } : Jvm.MethodName)) ∈ mk_WL := mk_t3 141 rfl rfl
theorem mw_622 : (Jvm.Cond.selects "SplitChannel" ({ cls := "SplitChannel", name := "count", desc := "(I)I" } : Jvm.MethodName) ({ cls := "SplitChannel", name := "count", desc := "(I)I" } : Jvm.MethodName)) ∈ mk_WL := mk_t3 142 rfl rfl
theorem mw_623 : (Jvm.Cond.code ({ cls := "SplitChannel", name := "count", desc := "(I)I" } : Jvm.MethodName) prog_1_method_6_code (2 : Nat) (Option.some Jvm.ClassFile.FieldType.int)) ∈ mk_WL := mk_t3 143 rfl rfl
theorem mw_624 : (Jvm.Cond.methodLink "SplitChannelLaw" (67 : Nat) ({ cls := "SplitChannel", name := "all", desc := "()I" } : Jvm.MethodName)) ∈ mk_WL := mk_t3 144 rfl rfl
theorem mw_625 : (Jvm.Cond.instanceMethod ({ cls := "SplitChannel", name := "all", desc := "()I" } : Jvm.MethodName)) ∈ mk_WL := mk_t3 145 rfl rfl
theorem mw_626 : (Jvm.Cond.selects "SplitChannel" ({ cls := "SplitChannel", name := "all", desc := "()I" } : Jvm.MethodName) ({ cls := "SplitChannel", name := "all", desc := "()I" } : Jvm.MethodName)) ∈ mk_WL := mk_t3 146 rfl rfl
theorem mw_627 : (Jvm.Cond.code ({ cls := "SplitChannel", name := "all", desc := "()I" } : Jvm.MethodName) prog_1_method_14_code (1 : Nat) (Option.some Jvm.ClassFile.FieldType.int)) ∈ mk_WL := mk_t3 147 rfl rfl
theorem mw_628 : (Jvm.Cond.methodLink "SplitChannel" (170 : Nat) ({ cls := "SplitChannel$Plan", name := "stands", desc := "()Z" } : Jvm.MethodName)) ∈ mk_WL := mk_t3 148 rfl rfl
theorem mw_629 : (Jvm.Cond.instanceMethod ({ cls := "SplitChannel$Plan", name := "stands", desc := "()Z" } : Jvm.MethodName)) ∈ mk_WL := mk_t3 149 rfl rfl
theorem mw_630 : (Jvm.Cond.selects "SplitChannel$Plan" ({ cls := "SplitChannel$Plan", name := "stands", desc := "()Z" } : Jvm.MethodName) ({ cls := "SplitChannel$Plan", name := "stands", desc := "()Z" } : Jvm.MethodName)) ∈ mk_WL := mk_t3 150 rfl rfl
theorem mw_631 : (Jvm.Cond.code ({ cls := "SplitChannel$Plan", name := "stands", desc := "()Z" } : Jvm.MethodName) prog_5_method_6_code (1 : Nat) (Option.some Jvm.ClassFile.FieldType.boolean)) ∈ mk_WL := mk_t3 151 rfl rfl
theorem mw_632 : (Jvm.Cond.methodLink "SplitChannelLaw" (70 : Nat) ({ cls := "SplitChannel", name := "done", desc := "()I" } : Jvm.MethodName)) ∈ mk_WL := mk_t3 152 rfl rfl
theorem mw_633 : (Jvm.Cond.instanceMethod ({ cls := "SplitChannel", name := "done", desc := "()I" } : Jvm.MethodName)) ∈ mk_WL := mk_t3 153 rfl rfl
theorem mw_634 : (Jvm.Cond.selects "SplitChannel" ({ cls := "SplitChannel", name := "done", desc := "()I" } : Jvm.MethodName) ({ cls := "SplitChannel", name := "done", desc := "()I" } : Jvm.MethodName)) ∈ mk_WL := mk_t3 154 rfl rfl
theorem mw_635 : (Jvm.Cond.code ({ cls := "SplitChannel", name := "done", desc := "()I" } : Jvm.MethodName) prog_1_method_15_code (1 : Nat) (Option.some Jvm.ClassFile.FieldType.int)) ∈ mk_WL := mk_t3 155 rfl rfl
theorem mw_636 : (Jvm.Cond.methodLink "SplitChannel" (179 : Nat) ({ cls := "SplitChannel$Course", name := "lastSlot", desc := "(I)I" } : Jvm.MethodName)) ∈ mk_WL := mk_t3 156 rfl rfl
theorem mw_637 : (Jvm.Cond.instanceMethod ({ cls := "SplitChannel$Course", name := "lastSlot", desc := "(I)I" } : Jvm.MethodName)) ∈ mk_WL := mk_t3 157 rfl rfl
theorem mw_638 : (Jvm.Cond.selects "SplitChannel$Course" ({ cls := "SplitChannel$Course", name := "lastSlot", desc := "(I)I" } : Jvm.MethodName) ({ cls := "SplitChannel$Course", name := "lastSlot", desc := "(I)I" } : Jvm.MethodName)) ∈ mk_WL := mk_t3 158 rfl rfl
theorem mw_639 : (Jvm.Cond.code ({ cls := "SplitChannel$Course", name := "lastSlot", desc := "(I)I" } : Jvm.MethodName) prog_3_method_5_code (2 : Nat) (Option.some Jvm.ClassFile.FieldType.int)) ∈ mk_WL := mk_t3 159 rfl rfl
theorem mw_641 : (Jvm.Cond.methodLink "SplitChannelLaw" (73 : Nat) ({ cls := "SplitChannel", name := "collided", desc := "()I" } : Jvm.MethodName)) ∈ mk_WL := mk_t3 161 rfl rfl
theorem mw_642 : (Jvm.Cond.instanceMethod ({ cls := "SplitChannel", name := "collided", desc := "()I" } : Jvm.MethodName)) ∈ mk_WL := mk_t3 162 rfl rfl
theorem mw_643 : (Jvm.Cond.selects "SplitChannel" ({ cls := "SplitChannel", name := "collided", desc := "()I" } : Jvm.MethodName) ({ cls := "SplitChannel", name := "collided", desc := "()I" } : Jvm.MethodName)) ∈ mk_WL := mk_t3 163 rfl rfl
theorem mw_644 : (Jvm.Cond.code ({ cls := "SplitChannel", name := "collided", desc := "()I" } : Jvm.MethodName) prog_1_method_17_code (1 : Nat) (Option.some Jvm.ClassFile.FieldType.int)) ∈ mk_WL := mk_t3 164 rfl rfl
theorem mw_645 : (Jvm.Cond.methodLink "SplitChannel" (185 : Nat) ({ cls := "SplitChannel$Course", name := "collisions", desc := "(I)I" } : Jvm.MethodName)) ∈ mk_WL := mk_t3 165 rfl rfl
theorem mw_646 : (Jvm.Cond.instanceMethod ({ cls := "SplitChannel$Course", name := "collisions", desc := "(I)I" } : Jvm.MethodName)) ∈ mk_WL := mk_t3 166 rfl rfl
theorem mw_647 : (Jvm.Cond.selects "SplitChannel$Course" ({ cls := "SplitChannel$Course", name := "collisions", desc := "(I)I" } : Jvm.MethodName) ({ cls := "SplitChannel$Course", name := "collisions", desc := "(I)I" } : Jvm.MethodName)) ∈ mk_WL := mk_t3 167 rfl rfl
theorem mw_648 : (Jvm.Cond.code ({ cls := "SplitChannel$Course", name := "collisions", desc := "(I)I" } : Jvm.MethodName) prog_3_method_7_code (4 : Nat) (Option.some Jvm.ClassFile.FieldType.int)) ∈ mk_WL := mk_t3 168 rfl rfl
theorem mw_649 : (Jvm.Cond.methodLink "SplitChannel$Course" (69 : Nat) ({ cls := "java/lang/Integer", name := "bitCount", desc := "(I)I" } : Jvm.MethodName)) ∈ mk_WL := mk_t3 169 rfl rfl
theorem mw_650 : (Jvm.Cond.methodLink "SplitChannelLaw" (76 : Nat) ({ cls := "SplitChannel", name := "skips", desc := "()I" } : Jvm.MethodName)) ∈ mk_WL := mk_t3 170 rfl rfl
theorem mw_651 : (Jvm.Cond.instanceMethod ({ cls := "SplitChannel", name := "skips", desc := "()I" } : Jvm.MethodName)) ∈ mk_WL := mk_t3 171 rfl rfl
theorem mw_652 : (Jvm.Cond.selects "SplitChannel" ({ cls := "SplitChannel", name := "skips", desc := "()I" } : Jvm.MethodName) ({ cls := "SplitChannel", name := "skips", desc := "()I" } : Jvm.MethodName)) ∈ mk_WL := mk_t3 172 rfl rfl
theorem mw_653 : (Jvm.Cond.code ({ cls := "SplitChannel", name := "skips", desc := "()I" } : Jvm.MethodName) prog_1_method_18_code (1 : Nat) (Option.some Jvm.ClassFile.FieldType.int)) ∈ mk_WL := mk_t3 173 rfl rfl
theorem mw_654 : (Jvm.Cond.methodLink "SplitChannel" (188 : Nat) ({ cls := "SplitChannel$Course", name := "skipsMade", desc := "(I)I" } : Jvm.MethodName)) ∈ mk_WL := mk_t3 174 rfl rfl
theorem mw_655 : (Jvm.Cond.instanceMethod ({ cls := "SplitChannel$Course", name := "skipsMade", desc := "(I)I" } : Jvm.MethodName)) ∈ mk_WL := mk_t3 175 rfl rfl
theorem mw_656 : (Jvm.Cond.selects "SplitChannel$Course" ({ cls := "SplitChannel$Course", name := "skipsMade", desc := "(I)I" } : Jvm.MethodName) ({ cls := "SplitChannel$Course", name := "skipsMade", desc := "(I)I" } : Jvm.MethodName)) ∈ mk_WL := mk_t3 176 rfl rfl
theorem mw_657 : (Jvm.Cond.code ({ cls := "SplitChannel$Course", name := "skipsMade", desc := "(I)I" } : Jvm.MethodName) prog_3_method_8_code (4 : Nat) (Option.some Jvm.ClassFile.FieldType.int)) ∈ mk_WL := mk_t3 177 rfl rfl
theorem mw_658 : (Jvm.Cond.methodLink "SplitChannelLaw" (122 : Nat) ({ cls := "SplitChannel", name := "by", desc := "(II)I" } : Jvm.MethodName)) ∈ mk_WL := mk_t3 178 rfl rfl
theorem mw_659 : (Jvm.Cond.instanceMethod ({ cls := "SplitChannel", name := "by", desc := "(II)I" } : Jvm.MethodName)) ∈ mk_WL := mk_t3 179 rfl rfl
theorem mw_660 : (Jvm.Cond.selects "SplitChannel" ({ cls := "SplitChannel", name := "by", desc := "(II)I" } : Jvm.MethodName) ({ cls := "SplitChannel", name := "by", desc := "(II)I" } : Jvm.MethodName)) ∈ mk_WL := mk_t3 180 rfl rfl
theorem mw_661 : (Jvm.Cond.code ({ cls := "SplitChannel", name := "by", desc := "(II)I" } : Jvm.MethodName) prog_1_method_23_code (3 : Nat) (Option.some Jvm.ClassFile.FieldType.int)) ∈ mk_WL := mk_t3 181 rfl rfl
theorem mw_662 : (Jvm.Cond.methodLink "SplitChannel" (206 : Nat) ({ cls := "SplitChannel", name := "isLaw", desc := "(I)Z" } : Jvm.MethodName)) ∈ mk_WL := mk_t3 182 rfl rfl
theorem mw_663 : (Jvm.Cond.static ({ cls := "SplitChannel", name := "isLaw", desc := "(I)Z" } : Jvm.MethodName)) ∈ mk_WL := mk_t3 183 rfl rfl
theorem mw_664 : (Jvm.Cond.code ({ cls := "SplitChannel", name := "isLaw", desc := "(I)Z" } : Jvm.MethodName) prog_1_method_37_code (1 : Nat) (Option.some Jvm.ClassFile.FieldType.boolean)) ∈ mk_WL := mk_t3 184 rfl rfl
theorem mw_665 : (Jvm.Cond.methodLink "SplitChannelLaw" (125 : Nat) ({ cls := "SplitChannel", name := "rule", desc := "(I)I" } : Jvm.MethodName)) ∈ mk_WL := mk_t3 185 rfl rfl
theorem mw_666 : (Jvm.Cond.instanceMethod ({ cls := "SplitChannel", name := "rule", desc := "(I)I" } : Jvm.MethodName)) ∈ mk_WL := mk_t3 186 rfl rfl
theorem mw_667 : (Jvm.Cond.selects "SplitChannel" ({ cls := "SplitChannel", name := "rule", desc := "(I)I" } : Jvm.MethodName) ({ cls := "SplitChannel", name := "rule", desc := "(I)I" } : Jvm.MethodName)) ∈ mk_WL := mk_t3 187 rfl rfl
theorem mw_668 : (Jvm.Cond.code ({ cls := "SplitChannel", name := "rule", desc := "(I)I" } : Jvm.MethodName) prog_1_method_34_code (2 : Nat) (Option.some Jvm.ClassFile.FieldType.int)) ∈ mk_WL := mk_t3 188 rfl rfl
theorem mw_669 : (Jvm.Cond.methodLink "SplitChannel" (257 : Nat) ({ cls := "SplitChannel$Acts", name := "note", desc := "(II)V" } : Jvm.MethodName)) ∈ mk_WL := mk_t3 189 rfl rfl
theorem mw_670 : (Jvm.Cond.instanceMethod ({ cls := "SplitChannel$Acts", name := "note", desc := "(II)V" } : Jvm.MethodName)) ∈ mk_WL := mk_t3 190 rfl rfl
theorem mw_671 : (Jvm.Cond.selects "SplitChannel$Acts" ({ cls := "SplitChannel$Acts", name := "note", desc := "(II)V" } : Jvm.MethodName) ({ cls := "SplitChannel$Acts", name := "note", desc := "(II)V" } : Jvm.MethodName)) ∈ mk_WL := mk_t3 191 rfl rfl
theorem mw_672 : (Jvm.Cond.code ({ cls := "SplitChannel$Acts", name := "note", desc := "(II)V" } : Jvm.MethodName) prog_2_method_2_code (3 : Nat) (Option.none : Option Jvm.ClassFile.FieldType)) ∈ mk_WL := mk_t3 192 rfl rfl
theorem mw_674 : (Jvm.Cond.methodLink "SplitChannelLaw" (128 : Nat) ({ cls := "SplitChannel", name := "undo", desc := "()I" } : Jvm.MethodName)) ∈ mk_WL := mk_t3 194 rfl rfl
theorem mw_675 : (Jvm.Cond.instanceMethod ({ cls := "SplitChannel", name := "undo", desc := "()I" } : Jvm.MethodName)) ∈ mk_WL := mk_t3 195 rfl rfl
theorem mw_676 : (Jvm.Cond.selects "SplitChannel" ({ cls := "SplitChannel", name := "undo", desc := "()I" } : Jvm.MethodName) ({ cls := "SplitChannel", name := "undo", desc := "()I" } : Jvm.MethodName)) ∈ mk_WL := mk_t3 196 rfl rfl
theorem mw_677 : (Jvm.Cond.code ({ cls := "SplitChannel", name := "undo", desc := "()I" } : Jvm.MethodName) prog_1_method_35_code (1 : Nat) (Option.some Jvm.ClassFile.FieldType.int)) ∈ mk_WL := mk_t3 197 rfl rfl
theorem mw_678 : (Jvm.Cond.methodLink "SplitChannel" (267 : Nat) ({ cls := "SplitChannel$Acts", name := "takeBack", desc := "(LSplitChannel$Plan;)V" } : Jvm.MethodName)) ∈ mk_WL := mk_t3 198 rfl rfl
theorem mw_679 : (Jvm.Cond.instanceMethod ({ cls := "SplitChannel$Acts", name := "takeBack", desc := "(LSplitChannel$Plan;)V" } : Jvm.MethodName)) ∈ mk_WL := mk_t3 199 rfl rfl
theorem mw_680 : (Jvm.Cond.selects "SplitChannel$Acts" ({ cls := "SplitChannel$Acts", name := "takeBack", desc := "(LSplitChannel$Plan;)V" } : Jvm.MethodName) ({ cls := "SplitChannel$Acts", name := "takeBack", desc := "(LSplitChannel$Plan;)V" } : Jvm.MethodName)) ∈ mk_WL := mk_t3 200 rfl rfl
theorem mw_681 : (Jvm.Cond.code ({ cls := "SplitChannel$Acts", name := "takeBack", desc := "(LSplitChannel$Plan;)V" } : Jvm.MethodName) prog_2_method_3_code (3 : Nat) (Option.none : Option Jvm.ClassFile.FieldType)) ∈ mk_WL := mk_t3 201 rfl rfl
theorem mw_683 : (Jvm.Cond.classLink "SplitChannelLaw" (29 : Nat) "SplitChannelLaw$Channel") ∈ mk_WL := mk_t3 203 rfl rfl
theorem mw_684 : (Jvm.Cond.instantiable "SplitChannelLaw$Channel" (9 : Nat)) ∈ mk_WL := mk_t3 204 rfl rfl
theorem mw_685 : (Jvm.Cond.methodLink "SplitChannelLaw" (93 : Nat) ({ cls := "SplitChannelLaw$Channel", name := "<init>", desc := "([IZ)V" } : Jvm.MethodName)) ∈ mk_WL := mk_t3 205 rfl rfl
theorem mw_686 : (Jvm.Cond.instanceMethod ({ cls := "SplitChannelLaw$Channel", name := "<init>", desc := "([IZ)V" } : Jvm.MethodName)) ∈ mk_WL := mk_t3 206 rfl rfl
theorem mw_687 : (Jvm.Cond.code ({ cls := "SplitChannelLaw$Channel", name := "<init>", desc := "([IZ)V" } : Jvm.MethodName) prog_11_method_1_code (7 : Nat) (Option.none : Option Jvm.ClassFile.FieldType)) ∈ mk_WL := mk_t3 207 rfl rfl
theorem mw_688 : (Jvm.Cond.methodLink "SplitChannelLaw$Channel" (1 : Nat) ({ cls := "java/lang/Object", name := "<init>", desc := "()V" } : Jvm.MethodName)) ∈ mk_WL := mk_t3 208 rfl rfl
theorem mw_690 : (Jvm.Cond.static ({ cls := "SplitChannelLaw", name := "cell", desc := "([II)I" } : Jvm.MethodName)) ∈ mk_WL := mk_t3 210 rfl rfl
theorem mw_691 : (Jvm.Cond.code ({ cls := "SplitChannelLaw", name := "cell", desc := "([II)I" } : Jvm.MethodName) method_2_code (2 : Nat) (Option.some Jvm.ClassFile.FieldType.int)) ∈ mk_WL := mk_t3 211 rfl rfl
theorem mw_692 : (Jvm.Cond.constant "SplitChannelLaw" (7 : Nat) (2147483647 : Int32)) ∈ mk_WL := mk_t3 212 rfl rfl
theorem mw_693 : (Jvm.Cond.classLink "SplitChannelLaw$Channel" (32 : Nat) "java/lang/String") ∈ mk_WL := mk_t3 213 rfl rfl
theorem mw_695 : (Jvm.Cond.classLink "SplitChannelLaw$Channel" (44 : Nat) "java/lang/StringBuilder") ∈ mk_WL := mk_t3 215 rfl rfl
theorem mw_696 : (Jvm.Cond.instantiable "java/lang/StringBuilder" (4 : Nat)) ∈ mk_WL := mk_t3 216 rfl rfl
theorem mw_697 : (Jvm.Cond.methodLink "SplitChannelLaw$Channel" (46 : Nat) ({ cls := "java/lang/StringBuilder", name := "<init>", desc := "()V" } : Jvm.MethodName)) ∈ mk_WL := mk_t3 217 rfl rfl
theorem mw_698 : (Jvm.Cond.instanceMethod ({ cls := "java/lang/StringBuilder", name := "<init>", desc := "()V" } : Jvm.MethodName)) ∈ mk_WL := mk_t3 218 rfl rfl
theorem mw_699 : (Jvm.Cond.code ({ cls := "java/lang/StringBuilder", name := "<init>", desc := "()V" } : Jvm.MethodName) prog_19_method_1_code (1 : Nat) (Option.none : Option Jvm.ClassFile.FieldType)) ∈ mk_WL := mk_t3 219 rfl rfl
theorem mw_700 : (Jvm.Cond.methodLink "java/lang/StringBuilder" (1 : Nat) ({ cls := "java/lang/AbstractStringBuilder", name := "<init>", desc := "(I)V" } : Jvm.MethodName)) ∈ mk_WL := mk_t3 220 rfl rfl
theorem mw_701 : (Jvm.Cond.instanceMethod ({ cls := "java/lang/AbstractStringBuilder", name := "<init>", desc := "(I)V" } : Jvm.MethodName)) ∈ mk_WL := mk_t3 221 rfl rfl
theorem mw_702 : (Jvm.Cond.code ({ cls := "java/lang/AbstractStringBuilder", name := "<init>", desc := "(I)V" } : Jvm.MethodName) prog_13_method_2_code (2 : Nat) (Option.none : Option Jvm.ClassFile.FieldType)) ∈ mk_WL := mk_t3 222 rfl rfl
theorem mw_703 : (Jvm.Cond.methodLink "java/lang/AbstractStringBuilder" (3 : Nat) ({ cls := "java/lang/Object", name := "<init>", desc := "()V" } : Jvm.MethodName)) ∈ mk_WL := mk_t3 223 rfl rfl
theorem mw_704 : (Jvm.Cond.fieldLink "java/lang/AbstractStringBuilder" (18 : Nat) "java/lang/String" "COMPACT_STRINGS" "Z") ∈ mk_WL := mk_t3 224 rfl rfl
theorem mw_705 : (Jvm.Cond.methodLink "java/lang/AbstractStringBuilder" (26 : Nat) ({ cls := "java/lang/StringUTF16", name := "newBytesFor", desc := "(I)[B" } : Jvm.MethodName)) ∈ mk_WL := mk_t3 225 rfl rfl
theorem mw_706 : (Jvm.Cond.static ({ cls := "java/lang/StringUTF16", name := "newBytesFor", desc := "(I)[B" } : Jvm.MethodName)) ∈ mk_WL := mk_t3 226 rfl rfl
theorem mw_707 : (Jvm.Cond.code ({ cls := "java/lang/StringUTF16", name := "newBytesFor", desc := "(I)[B" } : Jvm.MethodName) prog_21_method_2_code (1 : Nat) (Option.some (Jvm.ClassFile.FieldType.array Jvm.ClassFile.FieldType.byte))) ∈ mk_WL := mk_t3 227 rfl rfl
theorem mw_708 : (Jvm.Cond.methodLink "java/lang/StringUTF16" (11 : Nat) ({ cls := "java/lang/StringUTF16", name := "newBytesLength", desc := "(I)I" } : Jvm.MethodName)) ∈ mk_WL := mk_t3 228 rfl rfl
theorem mw_709 : (Jvm.Cond.static ({ cls := "java/lang/StringUTF16", name := "newBytesLength", desc := "(I)I" } : Jvm.MethodName)) ∈ mk_WL := mk_t3 229 rfl rfl
theorem mw_710 : (Jvm.Cond.code ({ cls := "java/lang/StringUTF16", name := "newBytesLength", desc := "(I)I" } : Jvm.MethodName) prog_21_method_3_code (1 : Nat) (Option.some Jvm.ClassFile.FieldType.int)) ∈ mk_WL := mk_t3 230 rfl rfl
theorem mw_711 : (Jvm.Cond.constant "java/lang/StringUTF16" (20 : Nat) (1073741823 : Int32)) ∈ mk_WL := mk_t3 231 rfl rfl
theorem mw_712 : (Jvm.Cond.fieldLink "java/lang/AbstractStringBuilder" (15 : Nat) "java/lang/AbstractStringBuilder" "value" "[B") ∈ mk_WL := mk_t3 232 rfl rfl
theorem mw_713 : (Jvm.Cond.fieldLink "java/lang/AbstractStringBuilder" (22 : Nat) "java/lang/AbstractStringBuilder" "coder" "B") ∈ mk_WL := mk_t3 233 rfl rfl
theorem mw_714 : (Jvm.Cond.fieldLink "java/lang/String" (1048 : Nat) "java/lang/AbstractStringBuilder" "maybeLatin1" "Z") ∈ mk_WL := mk_t3 234 rfl rfl
theorem mw_715 : (Jvm.Cond.fieldLink "java/lang/AbstractStringBuilder" (79 : Nat) "java/lang/AbstractStringBuilder" "count" "I") ∈ mk_WL := mk_t3 235 rfl rfl
theorem mw_716 : (Jvm.Cond.lays "java/lang/StringBuilder" "java/lang/AbstractStringBuilder" "value" "[B") ∈ mk_WL := mk_t3 236 rfl rfl
theorem mw_718 : (Jvm.Cond.lays "java/lang/StringBuilder" "java/lang/AbstractStringBuilder" "coder" "B") ∈ mk_WL := mk_t3 238 rfl rfl
theorem mw_720 : (Jvm.Cond.lays "java/lang/StringBuilder" "java/lang/AbstractStringBuilder" "maybeLatin1" "Z") ∈ mk_WL := mk_t4 0 rfl rfl
theorem mw_722 : (Jvm.Cond.lays "java/lang/StringBuilder" "java/lang/AbstractStringBuilder" "count" "I") ∈ mk_WL := mk_t4 2 rfl rfl
theorem mw_724 : (Jvm.Cond.superclass "java/lang/StringBuilder" "java/lang/AbstractStringBuilder") ∈ mk_WL := mk_t4 4 rfl rfl
theorem mw_726 : (Jvm.Cond.methodLink "SplitChannelLaw$Channel" (49 : Nat) ({ cls := "java/lang/StringBuilder", name := "append", desc := "(Ljava/lang/String;)Ljava/lang/StringBuilder;" } : Jvm.MethodName)) ∈ mk_WL := mk_t4 6 rfl rfl
theorem mw_727 : (Jvm.Cond.instanceMethod ({ cls := "java/lang/StringBuilder", name := "append", desc := "(Ljava/lang/String;)Ljava/lang/StringBuilder;" } : Jvm.MethodName)) ∈ mk_WL := mk_t4 7 rfl rfl
theorem mw_728 : (Jvm.Cond.selects "java/lang/StringBuilder" ({ cls := "java/lang/StringBuilder", name := "append", desc := "(Ljava/lang/String;)Ljava/lang/StringBuilder;" } : Jvm.MethodName) ({ cls := "java/lang/StringBuilder", name := "append", desc := "(Ljava/lang/String;)Ljava/lang/StringBuilder;" } : Jvm.MethodName)) ∈ mk_WL := mk_t4 8 rfl rfl
theorem mw_729 : (Jvm.Cond.code ({ cls := "java/lang/StringBuilder", name := "append", desc := "(Ljava/lang/String;)Ljava/lang/StringBuilder;" } : Jvm.MethodName) prog_19_method_7_code (2 : Nat) (Option.some (Jvm.ClassFile.FieldType.object "java/lang/StringBuilder"))) ∈ mk_WL := mk_t4 9 rfl rfl
theorem mw_730 : (Jvm.Cond.methodLink "java/lang/StringBuilder" (29 : Nat) ({ cls := "java/lang/AbstractStringBuilder", name := "append", desc := "(Ljava/lang/String;)Ljava/lang/AbstractStringBuilder;" } : Jvm.MethodName)) ∈ mk_WL := mk_t4 10 rfl rfl
theorem mw_731 : (Jvm.Cond.instanceMethod ({ cls := "java/lang/AbstractStringBuilder", name := "append", desc := "(Ljava/lang/String;)Ljava/lang/AbstractStringBuilder;" } : Jvm.MethodName)) ∈ mk_WL := mk_t4 11 rfl rfl
theorem mw_732 : (Jvm.Cond.code ({ cls := "java/lang/AbstractStringBuilder", name := "append", desc := "(Ljava/lang/String;)Ljava/lang/AbstractStringBuilder;" } : Jvm.MethodName) prog_13_method_22_code (3 : Nat) (Option.some (Jvm.ClassFile.FieldType.object "java/lang/AbstractStringBuilder"))) ∈ mk_WL := mk_t4 12 rfl rfl
theorem mw_733 : (Jvm.Cond.methodLink "java/lang/AbstractStringBuilder" (204 : Nat) ({ cls := "java/lang/AbstractStringBuilder", name := "appendNull", desc := "()Ljava/lang/AbstractStringBuilder;" } : Jvm.MethodName)) ∈ mk_WL := mk_t4 13 rfl rfl
theorem mw_735 : (Jvm.Cond.instanceMethod ({ cls := "java/lang/AbstractStringBuilder", name := "appendNull", desc := "()Ljava/lang/AbstractStringBuilder;" } : Jvm.MethodName)) ∈ mk_WL := mk_t4 15 rfl rfl
theorem mw_736 : (Jvm.Cond.code ({ cls := "java/lang/AbstractStringBuilder", name := "appendNull", desc := "()Ljava/lang/AbstractStringBuilder;" } : Jvm.MethodName) prog_13_method_26_code (3 : Nat) (Option.some (Jvm.ClassFile.FieldType.object "java/lang/AbstractStringBuilder"))) ∈ mk_WL := mk_t4 16 rfl rfl
theorem mw_737 : (Jvm.Cond.methodLink "java/lang/AbstractStringBuilder" (100 : Nat) ({ cls := "java/lang/AbstractStringBuilder", name := "ensureCapacityInternal", desc := "(I)V" } : Jvm.MethodName)) ∈ mk_WL := mk_t4 17 rfl rfl
theorem mw_739 : (Jvm.Cond.instanceMethod ({ cls := "java/lang/AbstractStringBuilder", name := "ensureCapacityInternal", desc := "(I)V" } : Jvm.MethodName)) ∈ mk_WL := mk_t4 19 rfl rfl
theorem mw_740 : (Jvm.Cond.code ({ cls := "java/lang/AbstractStringBuilder", name := "ensureCapacityInternal", desc := "(I)V" } : Jvm.MethodName) prog_13_method_9_code (3 : Nat) (Option.none : Option Jvm.ClassFile.FieldType)) ∈ mk_WL := mk_t4 20 rfl rfl
theorem mw_741 : (Jvm.Cond.methodLink "java/lang/AbstractStringBuilder" (104 : Nat) ({ cls := "java/lang/AbstractStringBuilder", name := "newCapacity", desc := "(I)I" } : Jvm.MethodName)) ∈ mk_WL := mk_t4 21 rfl rfl
theorem mw_743 : (Jvm.Cond.instanceMethod ({ cls := "java/lang/AbstractStringBuilder", name := "newCapacity", desc := "(I)I" } : Jvm.MethodName)) ∈ mk_WL := mk_t4 23 rfl rfl
theorem mw_744 : (Jvm.Cond.code ({ cls := "java/lang/AbstractStringBuilder", name := "newCapacity", desc := "(I)I" } : Jvm.MethodName) prog_13_method_10_code (6 : Nat) (Option.some Jvm.ClassFile.FieldType.int)) ∈ mk_WL := mk_t4 24 rfl rfl
theorem mw_745 : (Jvm.Cond.methodLink "java/lang/AbstractStringBuilder" (114 : Nat) ({ cls := "jdk/internal/util/ArraysSupport", name := "newLength", desc := "(III)I" } : Jvm.MethodName)) ∈ mk_WL := mk_t4 25 rfl rfl
theorem mw_746 : (Jvm.Cond.static ({ cls := "jdk/internal/util/ArraysSupport", name := "newLength", desc := "(III)I" } : Jvm.MethodName)) ∈ mk_WL := mk_t4 26 rfl rfl
theorem mw_747 : (Jvm.Cond.code ({ cls := "jdk/internal/util/ArraysSupport", name := "newLength", desc := "(III)I" } : Jvm.MethodName) prog_24_method_27_code (4 : Nat) (Option.some Jvm.ClassFile.FieldType.int)) ∈ mk_WL := mk_t4 27 rfl rfl
theorem mw_748 : (Jvm.Cond.methodLink "jdk/internal/util/ArraysSupport" (194 : Nat) ({ cls := "java/lang/Math", name := "max", desc := "(II)I" } : Jvm.MethodName)) ∈ mk_WL := mk_t4 28 rfl rfl
theorem mw_749 : (Jvm.Cond.constant "jdk/internal/util/ArraysSupport" (200 : Nat) (2147483639 : Int32)) ∈ mk_WL := mk_t4 29 rfl rfl
theorem mw_750 : (Jvm.Cond.methodLink "jdk/internal/util/ArraysSupport" (201 : Nat) ({ cls := "jdk/internal/util/ArraysSupport", name := "hugeLength", desc := "(II)I" } : Jvm.MethodName)) ∈ mk_WL := mk_t4 30 rfl rfl
theorem mw_751 : (Jvm.Cond.static ({ cls := "jdk/internal/util/ArraysSupport", name := "hugeLength", desc := "(II)I" } : Jvm.MethodName)) ∈ mk_WL := mk_t4 31 rfl rfl
theorem mw_752 : (Jvm.Cond.code ({ cls := "jdk/internal/util/ArraysSupport", name := "hugeLength", desc := "(II)I" } : Jvm.MethodName) prog_24_method_28_code (3 : Nat) (Option.some Jvm.ClassFile.FieldType.int)) ∈ mk_WL := mk_t4 32 rfl rfl
theorem mw_753 : (Jvm.Cond.constant "java/lang/AbstractStringBuilder" (39 : Nat) (2147483647 : Int32)) ∈ mk_WL := mk_t4 33 rfl rfl
theorem mw_754 : (Jvm.Cond.methodLink "java/lang/AbstractStringBuilder" (108 : Nat) ({ cls := "java/util/Arrays", name := "copyOf", desc := "([BI)[B" } : Jvm.MethodName)) ∈ mk_WL := mk_t4 34 rfl rfl
theorem mw_755 : (Jvm.Cond.static ({ cls := "java/util/Arrays", name := "copyOf", desc := "([BI)[B" } : Jvm.MethodName)) ∈ mk_WL := mk_t4 35 rfl rfl
theorem mw_756 : (Jvm.Cond.code ({ cls := "java/util/Arrays", name := "copyOf", desc := "([BI)[B" } : Jvm.MethodName) prog_23_method_121_code (3 : Nat) (Option.some (Jvm.ClassFile.FieldType.array Jvm.ClassFile.FieldType.byte))) ∈ mk_WL := mk_t4 36 rfl rfl
theorem mw_757 : (Jvm.Cond.methodLink "java/util/Arrays" (310 : Nat) ({ cls := "[B", name := "clone", desc := "()Ljava/lang/Object;" } : Jvm.MethodName)) ∈ mk_WL := mk_t4 37 rfl rfl
theorem mw_758 : (Jvm.Cond.sameMethod "[B" "java/lang/Object" "clone" "()Ljava/lang/Object;") ∈ mk_WL := mk_t4 38 rfl rfl
theorem mw_759 : (Jvm.Cond.native ({ cls := "java/lang/Object", name := "clone", desc := "()Ljava/lang/Object;" } : Jvm.MethodName)) ∈ mk_WL := mk_t4 39 rfl rfl
theorem mw_760 : (Jvm.Cond.instanceMethod ({ cls := "java/lang/Object", name := "clone", desc := "()Ljava/lang/Object;" } : Jvm.MethodName)) ∈ mk_WL := mk_t4 40 rfl rfl
theorem mw_761 : (Jvm.Cond.selects "[B" ({ cls := "[B", name := "clone", desc := "()Ljava/lang/Object;" } : Jvm.MethodName) ({ cls := "java/lang/Object", name := "clone", desc := "()Ljava/lang/Object;" } : Jvm.MethodName)) ∈ mk_WL := mk_t4 41 rfl rfl
theorem mw_763 : (Jvm.Cond.classLink "java/util/Arrays" (311 : Nat) "[B") ∈ mk_WL := mk_t4 43 rfl rfl
theorem mw_764 : (Jvm.Cond.methodLink "java/util/Arrays" (304 : Nat) ({ cls := "java/lang/Math", name := "min", desc := "(II)I" } : Jvm.MethodName)) ∈ mk_WL := mk_t4 44 rfl rfl
theorem mw_765 : (Jvm.Cond.methodLink "java/util/Arrays" (150 : Nat) ({ cls := "java/lang/System", name := "arraycopy", desc := "(Ljava/lang/Object;ILjava/lang/Object;II)V" } : Jvm.MethodName)) ∈ mk_WL := mk_t4 45 rfl rfl
theorem mw_766 : (Jvm.Cond.static ({ cls := "java/lang/System", name := "arraycopy", desc := "(Ljava/lang/Object;ILjava/lang/Object;II)V" } : Jvm.MethodName)) ∈ mk_WL := mk_t4 46 rfl rfl
theorem mw_767 : (Jvm.Cond.native ({ cls := "java/lang/System", name := "arraycopy", desc := "(Ljava/lang/Object;ILjava/lang/Object;II)V" } : Jvm.MethodName)) ∈ mk_WL := mk_t4 47 rfl rfl
theorem mw_768 : (Jvm.Cond.methodLink "java/lang/AbstractStringBuilder" (83 : Nat) ({ cls := "java/lang/AbstractStringBuilder", name := "isLatin1", desc := "()Z" } : Jvm.MethodName)) ∈ mk_WL := mk_t4 48 rfl rfl
theorem mw_769 : (Jvm.Cond.instanceMethod ({ cls := "java/lang/AbstractStringBuilder", name := "isLatin1", desc := "()Z" } : Jvm.MethodName)) ∈ mk_WL := mk_t4 49 rfl rfl
theorem mw_770 : (Jvm.Cond.sameMethod "java/lang/AbstractStringBuilder" "java/lang/AbstractStringBuilder" "isLatin1" "()Z") ∈ mk_WL := mk_t4 50 rfl rfl
theorem mw_771 : (Jvm.Cond.selects "java/lang/StringBuilder" ({ cls := "java/lang/AbstractStringBuilder", name := "isLatin1", desc := "()Z" } : Jvm.MethodName) ({ cls := "java/lang/AbstractStringBuilder", name := "isLatin1", desc := "()Z" } : Jvm.MethodName)) ∈ mk_WL := mk_t4 51 rfl rfl
theorem mw_772 : (Jvm.Cond.code ({ cls := "java/lang/AbstractStringBuilder", name := "isLatin1", desc := "()Z" } : Jvm.MethodName) prog_13_method_68_code (1 : Nat) (Option.some Jvm.ClassFile.FieldType.boolean)) ∈ mk_WL := mk_t4 52 rfl rfl
theorem mw_773 : (Jvm.Cond.methodLink "java/lang/AbstractStringBuilder" (226 : Nat) ({ cls := "java/lang/StringUTF16", name := "putCharsAt", desc := "([BICCCC)I" } : Jvm.MethodName)) ∈ mk_WL := mk_t4 53 rfl rfl
theorem mw_774 : (Jvm.Cond.static ({ cls := "java/lang/StringUTF16", name := "putCharsAt", desc := "([BICCCC)I" } : Jvm.MethodName)) ∈ mk_WL := mk_t4 54 rfl rfl
theorem mw_775 : (Jvm.Cond.code ({ cls := "java/lang/StringUTF16", name := "putCharsAt", desc := "([BICCCC)I" } : Jvm.MethodName) prog_21_method_81_code (7 : Nat) (Option.some Jvm.ClassFile.FieldType.int)) ∈ mk_WL := mk_t4 55 rfl rfl
theorem mw_776 : (Jvm.Cond.methodLink "java/lang/StringUTF16" (96 : Nat) ({ cls := "java/lang/StringUTF16", name := "checkBoundsBeginEnd", desc := "(II[B)V" } : Jvm.MethodName)) ∈ mk_WL := mk_t4 56 rfl rfl
theorem mw_777 : (Jvm.Cond.static ({ cls := "java/lang/StringUTF16", name := "checkBoundsBeginEnd", desc := "(II[B)V" } : Jvm.MethodName)) ∈ mk_WL := mk_t4 57 rfl rfl
theorem mw_778 : (Jvm.Cond.code ({ cls := "java/lang/StringUTF16", name := "checkBoundsBeginEnd", desc := "(II[B)V" } : Jvm.MethodName) prog_21_method_93_code (3 : Nat) (Option.none : Option Jvm.ClassFile.FieldType)) ∈ mk_WL := mk_t4 58 rfl rfl
theorem mw_779 : (Jvm.Cond.methodLink "java/lang/StringUTF16" (241 : Nat) ({ cls := "java/lang/String", name := "checkBoundsBeginEnd", desc := "(III)V" } : Jvm.MethodName)) ∈ mk_WL := mk_t4 59 rfl rfl
theorem mw_780 : (Jvm.Cond.static ({ cls := "java/lang/String", name := "checkBoundsBeginEnd", desc := "(III)V" } : Jvm.MethodName)) ∈ mk_WL := mk_t4 60 rfl rfl
theorem mw_781 : (Jvm.Cond.code ({ cls := "java/lang/String", name := "checkBoundsBeginEnd", desc := "(III)V" } : Jvm.MethodName) prog_18_method_158_code (3 : Nat) (Option.none : Option Jvm.ClassFile.FieldType)) ∈ mk_WL := mk_t4 61 rfl rfl
theorem mw_782 : (Jvm.Cond.methodLink "java/lang/String" (1062 : Nat) ({ cls := "jdk/internal/util/Preconditions", name := "checkFromToIndex", desc := "(IIILjava/util/function/BiFunction;)I" } : Jvm.MethodName)) ∈ mk_WL := mk_t4 62 rfl rfl
theorem mw_783 : (Jvm.Cond.static ({ cls := "jdk/internal/util/Preconditions", name := "checkFromToIndex", desc := "(IIILjava/util/function/BiFunction;)I" } : Jvm.MethodName)) ∈ mk_WL := mk_t4 63 rfl rfl
theorem mw_784 : (Jvm.Cond.code ({ cls := "jdk/internal/util/Preconditions", name := "checkFromToIndex", desc := "(IIILjava/util/function/BiFunction;)I" } : Jvm.MethodName) prog_25_method_12_code (4 : Nat) (Option.some Jvm.ClassFile.FieldType.int)) ∈ mk_WL := mk_t4 64 rfl rfl
theorem mw_785 : (Jvm.Cond.methodLink "java/lang/StringUTF16" (111 : Nat) ({ cls := "java/lang/StringUTF16", name := "putChar", desc := "([BII)V" } : Jvm.MethodName)) ∈ mk_WL := mk_t4 65 rfl rfl
theorem mw_786 : (Jvm.Cond.static ({ cls := "java/lang/StringUTF16", name := "putChar", desc := "([BII)V" } : Jvm.MethodName)) ∈ mk_WL := mk_t4 66 rfl rfl
theorem mw_787 : (Jvm.Cond.code ({ cls := "java/lang/StringUTF16", name := "putChar", desc := "([BII)V" } : Jvm.MethodName) prog_21_method_4_code (3 : Nat) (Option.none : Option Jvm.ClassFile.FieldType)) ∈ mk_WL := mk_t4 67 rfl rfl
theorem mw_788 : (Jvm.Cond.methodLink "java/lang/AbstractStringBuilder" (32 : Nat) ({ cls := "java/lang/String", name := "length", desc := "()I" } : Jvm.MethodName)) ∈ mk_WL := mk_t4 68 rfl rfl
theorem mw_789 : (Jvm.Cond.methodLink "java/lang/AbstractStringBuilder" (208 : Nat) ({ cls := "java/lang/AbstractStringBuilder", name := "putStringAt", desc := "(ILjava/lang/String;)V" } : Jvm.MethodName)) ∈ mk_WL := mk_t4 69 rfl rfl
theorem mw_791 : (Jvm.Cond.instanceMethod ({ cls := "java/lang/AbstractStringBuilder", name := "putStringAt", desc := "(ILjava/lang/String;)V" } : Jvm.MethodName)) ∈ mk_WL := mk_t4 71 rfl rfl
theorem mw_792 : (Jvm.Cond.code ({ cls := "java/lang/AbstractStringBuilder", name := "putStringAt", desc := "(ILjava/lang/String;)V" } : Jvm.MethodName) prog_13_method_73_code (3 : Nat) (Option.none : Option Jvm.ClassFile.FieldType)) ∈ mk_WL := mk_t4 72 rfl rfl
theorem mw_793 : (Jvm.Cond.methodLink "java/lang/AbstractStringBuilder" (397 : Nat) ({ cls := "java/lang/AbstractStringBuilder", name := "inflateIfNeededFor", desc := "(Ljava/lang/String;)V" } : Jvm.MethodName)) ∈ mk_WL := mk_t4 73 rfl rfl
theorem mw_795 : (Jvm.Cond.instanceMethod ({ cls := "java/lang/AbstractStringBuilder", name := "inflateIfNeededFor", desc := "(Ljava/lang/String;)V" } : Jvm.MethodName)) ∈ mk_WL := mk_t4 75 rfl rfl
theorem mw_796 : (Jvm.Cond.code ({ cls := "java/lang/AbstractStringBuilder", name := "inflateIfNeededFor", desc := "(Ljava/lang/String;)V" } : Jvm.MethodName) prog_13_method_71_code (2 : Nat) (Option.none : Option Jvm.ClassFile.FieldType)) ∈ mk_WL := mk_t4 76 rfl rfl
theorem mw_797 : (Jvm.Cond.methodLink "java/lang/AbstractStringBuilder" (40 : Nat) ({ cls := "java/lang/String", name := "coder", desc := "()B" } : Jvm.MethodName)) ∈ mk_WL := mk_t4 77 rfl rfl
theorem mw_798 : (Jvm.Cond.methodLink "java/lang/AbstractStringBuilder" (195 : Nat) ({ cls := "java/lang/AbstractStringBuilder", name := "inflate", desc := "()V" } : Jvm.MethodName)) ∈ mk_WL := mk_t4 78 rfl rfl
theorem mw_800 : (Jvm.Cond.instanceMethod ({ cls := "java/lang/AbstractStringBuilder", name := "inflate", desc := "()V" } : Jvm.MethodName)) ∈ mk_WL := mk_t4 80 rfl rfl
theorem mw_801 : (Jvm.Cond.code ({ cls := "java/lang/AbstractStringBuilder", name := "inflate", desc := "()V" } : Jvm.MethodName) prog_13_method_11_code (2 : Nat) (Option.none : Option Jvm.ClassFile.FieldType)) ∈ mk_WL := mk_t4 81 rfl rfl
theorem mw_802 : (Jvm.Cond.methodLink "java/lang/AbstractStringBuilder" (125 : Nat) ({ cls := "java/lang/StringLatin1", name := "inflate", desc := "([BI[BII)V" } : Jvm.MethodName)) ∈ mk_WL := mk_t4 82 rfl rfl
theorem mw_803 : (Jvm.Cond.static ({ cls := "java/lang/StringLatin1", name := "inflate", desc := "([BI[BII)V" } : Jvm.MethodName)) ∈ mk_WL := mk_t4 83 rfl rfl
theorem mw_804 : (Jvm.Cond.code ({ cls := "java/lang/StringLatin1", name := "inflate", desc := "([BI[BII)V" } : Jvm.MethodName) prog_20_method_50_code (5 : Nat) (Option.none : Option Jvm.ClassFile.FieldType)) ∈ mk_WL := mk_t4 84 rfl rfl
theorem mw_805 : (Jvm.Cond.methodLink "java/lang/StringLatin1" (240 : Nat) ({ cls := "java/lang/StringUTF16", name := "inflate", desc := "([BI[BII)V" } : Jvm.MethodName)) ∈ mk_WL := mk_t4 85 rfl rfl
theorem mw_806 : (Jvm.Cond.static ({ cls := "java/lang/StringUTF16", name := "inflate", desc := "([BI[BII)V" } : Jvm.MethodName)) ∈ mk_WL := mk_t4 86 rfl rfl
theorem mw_807 : (Jvm.Cond.code ({ cls := "java/lang/StringUTF16", name := "inflate", desc := "([BI[BII)V" } : Jvm.MethodName) prog_21_method_86_code (6 : Nat) (Option.none : Option Jvm.ClassFile.FieldType)) ∈ mk_WL := mk_t4 87 rfl rfl
theorem mw_808 : (Jvm.Cond.methodLink "java/lang/StringUTF16" (173 : Nat) ({ cls := "java/lang/StringUTF16", name := "checkBoundsOffCount", desc := "(II[B)V" } : Jvm.MethodName)) ∈ mk_WL := mk_t4 88 rfl rfl
theorem mw_809 : (Jvm.Cond.static ({ cls := "java/lang/StringUTF16", name := "checkBoundsOffCount", desc := "(II[B)V" } : Jvm.MethodName)) ∈ mk_WL := mk_t4 89 rfl rfl
theorem mw_810 : (Jvm.Cond.code ({ cls := "java/lang/StringUTF16", name := "checkBoundsOffCount", desc := "(II[B)V" } : Jvm.MethodName) prog_21_method_94_code (3 : Nat) (Option.none : Option Jvm.ClassFile.FieldType)) ∈ mk_WL := mk_t4 90 rfl rfl
theorem mw_811 : (Jvm.Cond.methodLink "java/lang/StringUTF16" (419 : Nat) ({ cls := "java/lang/String", name := "checkBoundsOffCount", desc := "(III)I" } : Jvm.MethodName)) ∈ mk_WL := mk_t4 91 rfl rfl
theorem mw_812 : (Jvm.Cond.static ({ cls := "java/lang/String", name := "checkBoundsOffCount", desc := "(III)I" } : Jvm.MethodName)) ∈ mk_WL := mk_t4 92 rfl rfl
theorem mw_813 : (Jvm.Cond.code ({ cls := "java/lang/String", name := "checkBoundsOffCount", desc := "(III)I" } : Jvm.MethodName) prog_18_method_157_code (3 : Nat) (Option.some Jvm.ClassFile.FieldType.int)) ∈ mk_WL := mk_t4 93 rfl rfl
theorem mw_814 : (Jvm.Cond.methodLink "java/lang/String" (1065 : Nat) ({ cls := "jdk/internal/util/Preconditions", name := "checkFromIndexSize", desc := "(IIILjava/util/function/BiFunction;)I" } : Jvm.MethodName)) ∈ mk_WL := mk_t4 94 rfl rfl
theorem mw_815 : (Jvm.Cond.static ({ cls := "jdk/internal/util/Preconditions", name := "checkFromIndexSize", desc := "(IIILjava/util/function/BiFunction;)I" } : Jvm.MethodName)) ∈ mk_WL := mk_t4 95 rfl rfl
theorem mw_816 : (Jvm.Cond.code ({ cls := "jdk/internal/util/Preconditions", name := "checkFromIndexSize", desc := "(IIILjava/util/function/BiFunction;)I" } : Jvm.MethodName) prog_25_method_13_code (4 : Nat) (Option.some Jvm.ClassFile.FieldType.int)) ∈ mk_WL := mk_t4 96 rfl rfl
theorem mw_817 : (Jvm.Cond.methodLink "java/lang/AbstractStringBuilder" (399 : Nat) ({ cls := "java/lang/String", name := "getBytes", desc := "([BIB)V" } : Jvm.MethodName)) ∈ mk_WL := mk_t4 97 rfl rfl
theorem mw_818 : (Jvm.Cond.instanceMethod ({ cls := "java/lang/String", name := "getBytes", desc := "([BIB)V" } : Jvm.MethodName)) ∈ mk_WL := mk_t4 98 rfl rfl
theorem mw_819 : (Jvm.Cond.selects "java/lang/String" ({ cls := "java/lang/String", name := "getBytes", desc := "([BIB)V" } : Jvm.MethodName) ({ cls := "java/lang/String", name := "getBytes", desc := "([BIB)V" } : Jvm.MethodName)) ∈ mk_WL := mk_t4 99 rfl rfl
theorem mw_820 : (Jvm.Cond.code ({ cls := "java/lang/String", name := "getBytes", desc := "([BIB)V" } : Jvm.MethodName) prog_18_method_147_code (4 : Nat) (Option.none : Option Jvm.ClassFile.FieldType)) ∈ mk_WL := mk_t4 100 rfl rfl
theorem mw_821 : (Jvm.Cond.methodLink "java/lang/String" (212 : Nat) ({ cls := "java/lang/System", name := "arraycopy", desc := "(Ljava/lang/Object;ILjava/lang/Object;II)V" } : Jvm.MethodName)) ∈ mk_WL := mk_t4 101 rfl rfl
theorem mw_822 : (Jvm.Cond.methodLink "java/lang/String" (106 : Nat) ({ cls := "java/lang/StringLatin1", name := "inflate", desc := "([BI[BII)V" } : Jvm.MethodName)) ∈ mk_WL := mk_t4 102 rfl rfl
theorem mw_823 : (Jvm.Cond.methodLink "SplitChannelLaw$Channel" (53 : Nat) ({ cls := "java/lang/StringBuilder", name := "append", desc := "(I)Ljava/lang/StringBuilder;" } : Jvm.MethodName)) ∈ mk_WL := mk_t4 103 rfl rfl
theorem mw_824 : (Jvm.Cond.instanceMethod ({ cls := "java/lang/StringBuilder", name := "append", desc := "(I)Ljava/lang/StringBuilder;" } : Jvm.MethodName)) ∈ mk_WL := mk_t4 104 rfl rfl
theorem mw_825 : (Jvm.Cond.selects "java/lang/StringBuilder" ({ cls := "java/lang/StringBuilder", name := "append", desc := "(I)Ljava/lang/StringBuilder;" } : Jvm.MethodName) ({ cls := "java/lang/StringBuilder", name := "append", desc := "(I)Ljava/lang/StringBuilder;" } : Jvm.MethodName)) ∈ mk_WL := mk_t4 105 rfl rfl
theorem mw_826 : (Jvm.Cond.code ({ cls := "java/lang/StringBuilder", name := "append", desc := "(I)Ljava/lang/StringBuilder;" } : Jvm.MethodName) prog_19_method_15_code (2 : Nat) (Option.some (Jvm.ClassFile.FieldType.object "java/lang/StringBuilder"))) ∈ mk_WL := mk_t4 106 rfl rfl
theorem mw_827 : (Jvm.Cond.methodLink "java/lang/StringBuilder" (53 : Nat) ({ cls := "java/lang/AbstractStringBuilder", name := "append", desc := "(I)Ljava/lang/AbstractStringBuilder;" } : Jvm.MethodName)) ∈ mk_WL := mk_t4 107 rfl rfl
theorem mw_828 : (Jvm.Cond.instanceMethod ({ cls := "java/lang/AbstractStringBuilder", name := "append", desc := "(I)Ljava/lang/AbstractStringBuilder;" } : Jvm.MethodName)) ∈ mk_WL := mk_t4 108 rfl rfl
theorem mw_829 : (Jvm.Cond.code ({ cls := "java/lang/AbstractStringBuilder", name := "append", desc := "(I)Ljava/lang/AbstractStringBuilder;" } : Jvm.MethodName) prog_13_method_32_code (4 : Nat) (Option.some (Jvm.ClassFile.FieldType.object "java/lang/AbstractStringBuilder"))) ∈ mk_WL := mk_t4 109 rfl rfl
theorem mw_830 : (Jvm.Cond.methodLink "java/lang/AbstractStringBuilder" (245 : Nat) ({ cls := "java/lang/Integer", name := "stringSize", desc := "(I)I" } : Jvm.MethodName)) ∈ mk_WL := mk_t4 110 rfl rfl
theorem mw_831 : (Jvm.Cond.static ({ cls := "java/lang/Integer", name := "stringSize", desc := "(I)I" } : Jvm.MethodName)) ∈ mk_WL := mk_t4 111 rfl rfl
theorem mw_832 : (Jvm.Cond.code ({ cls := "java/lang/Integer", name := "stringSize", desc := "(I)I" } : Jvm.MethodName) prog_15_method_13_code (4 : Nat) (Option.some Jvm.ClassFile.FieldType.int)) ∈ mk_WL := mk_t4 112 rfl rfl
theorem mw_833 : (Jvm.Cond.methodLink "java/lang/AbstractStringBuilder" (248 : Nat) ({ cls := "java/lang/Integer", name := "getChars", desc := "(II[B)I" } : Jvm.MethodName)) ∈ mk_WL := mk_t4 113 rfl rfl
theorem mw_834 : (Jvm.Cond.static ({ cls := "java/lang/Integer", name := "getChars", desc := "(II[B)I" } : Jvm.MethodName)) ∈ mk_WL := mk_t4 114 rfl rfl
theorem mw_835 : (Jvm.Cond.code ({ cls := "java/lang/Integer", name := "getChars", desc := "(II[B)I" } : Jvm.MethodName) prog_15_method_12_code (7 : Nat) (Option.some Jvm.ClassFile.FieldType.int)) ∈ mk_WL := mk_t4 115 rfl rfl
theorem mw_836 : (Jvm.Cond.fieldLink "java/lang/Integer" (83 : Nat) "java/lang/Integer" "DigitOnes" "[B") ∈ mk_WL := mk_t4 116 rfl rfl
theorem mw_838 : (Jvm.Cond.fieldLink "java/lang/Integer" (87 : Nat) "java/lang/Integer" "DigitTens" "[B") ∈ mk_WL := mk_t4 118 rfl rfl
theorem mw_840 : (Jvm.Cond.methodLink "java/lang/AbstractStringBuilder" (251 : Nat) ({ cls := "java/lang/StringUTF16", name := "getChars", desc := "(III[B)I" } : Jvm.MethodName)) ∈ mk_WL := mk_t4 120 rfl rfl
theorem mw_841 : (Jvm.Cond.static ({ cls := "java/lang/StringUTF16", name := "getChars", desc := "(III[B)I" } : Jvm.MethodName)) ∈ mk_WL := mk_t4 121 rfl rfl
theorem mw_842 : (Jvm.Cond.code ({ cls := "java/lang/StringUTF16", name := "getChars", desc := "(III[B)I" } : Jvm.MethodName) prog_21_method_77_code (5 : Nat) (Option.some Jvm.ClassFile.FieldType.int)) ∈ mk_WL := mk_t4 122 rfl rfl
theorem mw_843 : (Jvm.Cond.methodLink "java/lang/StringUTF16" (393 : Nat) ({ cls := "java/lang/StringUTF16", name := "getChars", desc := "(II[B)I" } : Jvm.MethodName)) ∈ mk_WL := mk_t4 123 rfl rfl
theorem mw_844 : (Jvm.Cond.static ({ cls := "java/lang/StringUTF16", name := "getChars", desc := "(II[B)I" } : Jvm.MethodName)) ∈ mk_WL := mk_t4 124 rfl rfl
theorem mw_845 : (Jvm.Cond.code ({ cls := "java/lang/StringUTF16", name := "getChars", desc := "(II[B)I" } : Jvm.MethodName) prog_21_method_89_code (7 : Nat) (Option.some Jvm.ClassFile.FieldType.int)) ∈ mk_WL := mk_t4 125 rfl rfl
theorem mw_846 : (Jvm.Cond.fieldLink "java/lang/StringUTF16" (403 : Nat) "java/lang/Integer" "DigitOnes" "[B") ∈ mk_WL := mk_t4 126 rfl rfl
theorem mw_847 : (Jvm.Cond.fieldLink "java/lang/StringUTF16" (407 : Nat) "java/lang/Integer" "DigitTens" "[B") ∈ mk_WL := mk_t4 127 rfl rfl
theorem mw_852 : (Jvm.Cond.methodLink "SplitChannelLaw$Channel" (64 : Nat) ({ cls := "java/lang/StringBuilder", name := "toString", desc := "()Ljava/lang/String;" } : Jvm.MethodName)) ∈ mk_WL := mk_t4 132 rfl rfl
theorem mw_853 : (Jvm.Cond.instanceMethod ({ cls := "java/lang/StringBuilder", name := "toString", desc := "()Ljava/lang/String;" } : Jvm.MethodName)) ∈ mk_WL := mk_t4 133 rfl rfl
theorem mw_854 : (Jvm.Cond.selects "java/lang/StringBuilder" ({ cls := "java/lang/StringBuilder", name := "toString", desc := "()Ljava/lang/String;" } : Jvm.MethodName) ({ cls := "java/lang/StringBuilder", name := "toString", desc := "()Ljava/lang/String;" } : Jvm.MethodName)) ∈ mk_WL := mk_t4 134 rfl rfl
theorem mw_855 : (Jvm.Cond.code ({ cls := "java/lang/StringBuilder", name := "toString", desc := "()Ljava/lang/String;" } : Jvm.MethodName) prog_19_method_42_code (1 : Nat) (Option.some (Jvm.ClassFile.FieldType.object "java/lang/String"))) ∈ mk_WL := mk_t4 135 rfl rfl
theorem mw_856 : (Jvm.Cond.classLink "java/lang/StringBuilder" (18 : Nat) "java/lang/String") ∈ mk_WL := mk_t4 136 rfl rfl
theorem mw_857 : (Jvm.Cond.instantiable "java/lang/String" (4 : Nat)) ∈ mk_WL := mk_t4 137 rfl rfl
theorem mw_858 : (Jvm.Cond.methodLink "java/lang/StringBuilder" (137 : Nat) ({ cls := "java/lang/String", name := "<init>", desc := "(Ljava/lang/StringBuilder;)V" } : Jvm.MethodName)) ∈ mk_WL := mk_t4 138 rfl rfl
theorem mw_859 : (Jvm.Cond.instanceMethod ({ cls := "java/lang/String", name := "<init>", desc := "(Ljava/lang/StringBuilder;)V" } : Jvm.MethodName)) ∈ mk_WL := mk_t4 139 rfl rfl
theorem mw_860 : (Jvm.Cond.code ({ cls := "java/lang/String", name := "<init>", desc := "(Ljava/lang/StringBuilder;)V" } : Jvm.MethodName) prog_18_method_53_code (2 : Nat) (Option.none : Option Jvm.ClassFile.FieldType)) ∈ mk_WL := mk_t4 140 rfl rfl
theorem mw_861 : (Jvm.Cond.methodLink "java/lang/String" (489 : Nat) ({ cls := "java/lang/String", name := "<init>", desc := "(Ljava/lang/AbstractStringBuilder;Ljava/lang/Void;)V" } : Jvm.MethodName)) ∈ mk_WL := mk_t4 141 rfl rfl
theorem mw_862 : (Jvm.Cond.instanceMethod ({ cls := "java/lang/String", name := "<init>", desc := "(Ljava/lang/AbstractStringBuilder;Ljava/lang/Void;)V" } : Jvm.MethodName)) ∈ mk_WL := mk_t4 142 rfl rfl
theorem mw_863 : (Jvm.Cond.code ({ cls := "java/lang/String", name := "<init>", desc := "(Ljava/lang/AbstractStringBuilder;Ljava/lang/Void;)V" } : Jvm.MethodName) prog_18_method_150_code (5 : Nat) (Option.none : Option Jvm.ClassFile.FieldType)) ∈ mk_WL := mk_t4 143 rfl rfl
theorem mw_864 : (Jvm.Cond.methodLink "java/lang/String" (1 : Nat) ({ cls := "java/lang/Object", name := "<init>", desc := "()V" } : Jvm.MethodName)) ∈ mk_WL := mk_t4 144 rfl rfl
theorem mw_865 : (Jvm.Cond.methodLink "java/lang/String" (552 : Nat) ({ cls := "java/lang/AbstractStringBuilder", name := "getValue", desc := "()[B" } : Jvm.MethodName)) ∈ mk_WL := mk_t4 145 rfl rfl
theorem mw_866 : (Jvm.Cond.instanceMethod ({ cls := "java/lang/AbstractStringBuilder", name := "getValue", desc := "()[B" } : Jvm.MethodName)) ∈ mk_WL := mk_t4 146 rfl rfl
theorem mw_867 : (Jvm.Cond.sameMethod "java/lang/AbstractStringBuilder" "java/lang/AbstractStringBuilder" "getValue" "()[B") ∈ mk_WL := mk_t4 147 rfl rfl
theorem mw_868 : (Jvm.Cond.selects "java/lang/StringBuilder" ({ cls := "java/lang/AbstractStringBuilder", name := "getValue", desc := "()[B" } : Jvm.MethodName) ({ cls := "java/lang/AbstractStringBuilder", name := "getValue", desc := "()[B" } : Jvm.MethodName)) ∈ mk_WL := mk_t4 148 rfl rfl
theorem mw_869 : (Jvm.Cond.code ({ cls := "java/lang/AbstractStringBuilder", name := "getValue", desc := "()[B" } : Jvm.MethodName) prog_13_method_64_code (1 : Nat) (Option.some (Jvm.ClassFile.FieldType.array Jvm.ClassFile.FieldType.byte))) ∈ mk_WL := mk_t4 149 rfl rfl
theorem mw_870 : (Jvm.Cond.methodLink "java/lang/String" (549 : Nat) ({ cls := "java/lang/AbstractStringBuilder", name := "length", desc := "()I" } : Jvm.MethodName)) ∈ mk_WL := mk_t4 150 rfl rfl
theorem mw_871 : (Jvm.Cond.instanceMethod ({ cls := "java/lang/AbstractStringBuilder", name := "length", desc := "()I" } : Jvm.MethodName)) ∈ mk_WL := mk_t4 151 rfl rfl
theorem mw_872 : (Jvm.Cond.sameMethod "java/lang/AbstractStringBuilder" "java/lang/AbstractStringBuilder" "length" "()I") ∈ mk_WL := mk_t4 152 rfl rfl
theorem mw_873 : (Jvm.Cond.selects "java/lang/StringBuilder" ({ cls := "java/lang/AbstractStringBuilder", name := "length", desc := "()I" } : Jvm.MethodName) ({ cls := "java/lang/StringBuilder", name := "length", desc := "()I" } : Jvm.MethodName)) ∈ mk_WL := mk_t4 153 rfl rfl
theorem mw_874 : (Jvm.Cond.instanceMethod ({ cls := "java/lang/StringBuilder", name := "length", desc := "()I" } : Jvm.MethodName)) ∈ mk_WL := mk_t4 154 rfl rfl
theorem mw_875 : (Jvm.Cond.code ({ cls := "java/lang/StringBuilder", name := "length", desc := "()I" } : Jvm.MethodName) prog_19_method_93_code (1 : Nat) (Option.some Jvm.ClassFile.FieldType.int)) ∈ mk_WL := mk_t4 155 rfl rfl
theorem mw_876 : (Jvm.Cond.methodLink "java/lang/StringBuilder" (343 : Nat) ({ cls := "java/lang/AbstractStringBuilder", name := "length", desc := "()I" } : Jvm.MethodName)) ∈ mk_WL := mk_t4 156 rfl rfl
theorem mw_877 : (Jvm.Cond.code ({ cls := "java/lang/AbstractStringBuilder", name := "length", desc := "()I" } : Jvm.MethodName) prog_13_method_6_code (1 : Nat) (Option.some Jvm.ClassFile.FieldType.int)) ∈ mk_WL := mk_t4 157 rfl rfl
theorem mw_878 : (Jvm.Cond.methodLink "java/lang/String" (1047 : Nat) ({ cls := "java/lang/AbstractStringBuilder", name := "isLatin1", desc := "()Z" } : Jvm.MethodName)) ∈ mk_WL := mk_t4 158 rfl rfl
theorem mw_879 : (Jvm.Cond.methodLink "java/lang/String" (54 : Nat) ({ cls := "java/util/Arrays", name := "copyOfRange", desc := "([BII)[B" } : Jvm.MethodName)) ∈ mk_WL := mk_t4 159 rfl rfl
theorem mw_880 : (Jvm.Cond.static ({ cls := "java/util/Arrays", name := "copyOfRange", desc := "([BII)[B" } : Jvm.MethodName)) ∈ mk_WL := mk_t4 160 rfl rfl
theorem mw_881 : (Jvm.Cond.code ({ cls := "java/util/Arrays", name := "copyOfRange", desc := "([BII)[B" } : Jvm.MethodName) prog_23_method_132_code (3 : Nat) (Option.some (Jvm.ClassFile.FieldType.array Jvm.ClassFile.FieldType.byte))) ∈ mk_WL := mk_t4 161 rfl rfl
theorem mw_882 : (Jvm.Cond.methodLink "java/util/Arrays" (339 : Nat) ({ cls := "java/util/Arrays", name := "copyOfRangeByte", desc := "([BII)[B" } : Jvm.MethodName)) ∈ mk_WL := mk_t4 162 rfl rfl
theorem mw_883 : (Jvm.Cond.static ({ cls := "java/util/Arrays", name := "copyOfRangeByte", desc := "([BII)[B" } : Jvm.MethodName)) ∈ mk_WL := mk_t4 163 rfl rfl
theorem mw_884 : (Jvm.Cond.code ({ cls := "java/util/Arrays", name := "copyOfRangeByte", desc := "([BII)[B" } : Jvm.MethodName) prog_23_method_133_code (5 : Nat) (Option.some (Jvm.ClassFile.FieldType.array Jvm.ClassFile.FieldType.byte))) ∈ mk_WL := mk_t4 164 rfl rfl
theorem mw_885 : (Jvm.Cond.methodLink "java/util/Arrays" (343 : Nat) ({ cls := "java/util/Arrays", name := "checkLength", desc := "(II)V" } : Jvm.MethodName)) ∈ mk_WL := mk_t4 165 rfl rfl
theorem mw_886 : (Jvm.Cond.static ({ cls := "java/util/Arrays", name := "checkLength", desc := "(II)V" } : Jvm.MethodName)) ∈ mk_WL := mk_t4 166 rfl rfl
theorem mw_887 : (Jvm.Cond.code ({ cls := "java/util/Arrays", name := "checkLength", desc := "(II)V" } : Jvm.MethodName) prog_23_method_131_code (2 : Nat) (Option.none : Option Jvm.ClassFile.FieldType)) ∈ mk_WL := mk_t4 167 rfl rfl
theorem mw_888 : (Jvm.Cond.methodLink "java/lang/String" (1051 : Nat) ({ cls := "java/lang/StringUTF16", name := "compress", desc := "([BII)[B" } : Jvm.MethodName)) ∈ mk_WL := mk_t4 168 rfl rfl
theorem mw_889 : (Jvm.Cond.static ({ cls := "java/lang/StringUTF16", name := "compress", desc := "([BII)[B" } : Jvm.MethodName)) ∈ mk_WL := mk_t4 169 rfl rfl
theorem mw_890 : (Jvm.Cond.code ({ cls := "java/lang/StringUTF16", name := "compress", desc := "([BII)[B" } : Jvm.MethodName) prog_21_method_17_code (6 : Nat) (Option.some (Jvm.ClassFile.FieldType.array Jvm.ClassFile.FieldType.byte))) ∈ mk_WL := mk_t4 170 rfl rfl
theorem mw_891 : (Jvm.Cond.methodLink "java/lang/StringUTF16" (123 : Nat) ({ cls := "java/lang/StringUTF16", name := "compress", desc := "([BI[BII)I" } : Jvm.MethodName)) ∈ mk_WL := mk_t4 171 rfl rfl
theorem mw_892 : (Jvm.Cond.static ({ cls := "java/lang/StringUTF16", name := "compress", desc := "([BI[BII)I" } : Jvm.MethodName)) ∈ mk_WL := mk_t4 172 rfl rfl
theorem mw_893 : (Jvm.Cond.code ({ cls := "java/lang/StringUTF16", name := "compress", desc := "([BI[BII)I" } : Jvm.MethodName) prog_21_method_22_code (7 : Nat) (Option.some Jvm.ClassFile.FieldType.int)) ∈ mk_WL := mk_t4 173 rfl rfl
theorem mw_894 : (Jvm.Cond.methodLink "java/lang/StringUTF16" (126 : Nat) ({ cls := "java/util/Arrays", name := "copyOfRange", desc := "([BII)[B" } : Jvm.MethodName)) ∈ mk_WL := mk_t4 174 rfl rfl
theorem mw_895 : (Jvm.Cond.methodLink "java/lang/String" (47 : Nat) ({ cls := "java/lang/StringUTF16", name := "coderFromArrayLen", desc := "([BI)B" } : Jvm.MethodName)) ∈ mk_WL := mk_t4 175 rfl rfl
theorem mw_896 : (Jvm.Cond.static ({ cls := "java/lang/StringUTF16", name := "coderFromArrayLen", desc := "([BI)B" } : Jvm.MethodName)) ∈ mk_WL := mk_t4 176 rfl rfl
theorem mw_897 : (Jvm.Cond.code ({ cls := "java/lang/StringUTF16", name := "coderFromArrayLen", desc := "([BI)B" } : Jvm.MethodName) prog_21_method_15_code (2 : Nat) (Option.some Jvm.ClassFile.FieldType.byte)) ∈ mk_WL := mk_t4 177 rfl rfl
theorem mw_898 : (Jvm.Cond.fieldLink "java/lang/String" (9 : Nat) "java/lang/String" "value" "[B") ∈ mk_WL := mk_t4 178 rfl rfl
theorem mw_899 : (Jvm.Cond.fieldLink "java/lang/String" (15 : Nat) "java/lang/String" "coder" "B") ∈ mk_WL := mk_t4 179 rfl rfl
theorem mw_900 : (Jvm.Cond.laysFinal "java/lang/String" "java/lang/String" "value" "[B") ∈ mk_WL := mk_t4 180 rfl rfl
theorem mw_902 : (Jvm.Cond.laysFinal "java/lang/String" "java/lang/String" "coder" "B") ∈ mk_WL := mk_t4 182 rfl rfl
theorem mw_904 : (Jvm.Cond.lays "java/lang/String" "java/lang/String" "hash" "I") ∈ mk_WL := mk_t4 184 rfl rfl
theorem mw_906 : (Jvm.Cond.lays "java/lang/String" "java/lang/String" "hashIsZero" "Z") ∈ mk_WL := mk_t4 186 rfl rfl
theorem mw_908 : (Jvm.Cond.superclass "java/lang/String" "java/lang/Object") ∈ mk_WL := mk_t4 188 rfl rfl
theorem mw_917 : (Jvm.Cond.fieldLink "SplitChannelLaw$Channel" (13 : Nat) "SplitChannelLaw$Channel" "law" "I") ∈ mk_WL := mk_t4 197 rfl rfl
theorem mw_919 : (Jvm.Cond.fieldLink "SplitChannelLaw$Channel" (19 : Nat) "SplitChannelLaw$Channel" "slots" "I") ∈ mk_WL := mk_t4 199 rfl rfl
theorem mw_921 : (Jvm.Cond.fieldLink "SplitChannelLaw$Channel" (22 : Nat) "SplitChannelLaw$Channel" "senders" "I") ∈ mk_WL := mk_t4 201 rfl rfl
theorem mw_923 : (Jvm.Cond.fieldLink "SplitChannelLaw$Channel" (25 : Nat) "SplitChannelLaw$Channel" "noises" "I") ∈ mk_WL := mk_t4 203 rfl rfl
theorem mw_925 : (Jvm.Cond.fieldLink "SplitChannelLaw$Channel" (28 : Nat) "SplitChannelLaw$Channel" "when" "[I") ∈ mk_WL := mk_t4 205 rfl rfl
theorem mw_927 : (Jvm.Cond.fieldLink "SplitChannelLaw$Channel" (38 : Nat) "SplitChannelLaw$Channel" "at" "[I") ∈ mk_WL := mk_t4 207 rfl rfl
theorem mw_928 : (Jvm.Cond.fieldLink "SplitChannelLaw$Channel" (41 : Nat) "SplitChannelLaw$Channel" "as" "[I") ∈ mk_WL := mk_t4 208 rfl rfl
theorem mw_929 : (Jvm.Cond.fieldLink "SplitChannelLaw$Channel" (34 : Nat) "SplitChannelLaw$Channel" "bits" "[Ljava/lang/String;") ∈ mk_WL := mk_t4 209 rfl rfl
theorem mw_931 : (Jvm.Cond.fieldLink "SplitChannelLaw$Channel" (68 : Nat) "SplitChannelLaw$Channel" "text" "Ljava/lang/String;") ∈ mk_WL := mk_t4 211 rfl rfl
theorem mw_933 : (Jvm.Cond.laysFinal "SplitChannelLaw$Channel" "SplitChannelLaw$Channel" "law" "I") ∈ mk_WL := mk_t4 213 rfl rfl
theorem mw_935 : (Jvm.Cond.laysFinal "SplitChannelLaw$Channel" "SplitChannelLaw$Channel" "slots" "I") ∈ mk_WL := mk_t4 215 rfl rfl
theorem mw_937 : (Jvm.Cond.laysFinal "SplitChannelLaw$Channel" "SplitChannelLaw$Channel" "senders" "I") ∈ mk_WL := mk_t4 217 rfl rfl
theorem mw_939 : (Jvm.Cond.laysFinal "SplitChannelLaw$Channel" "SplitChannelLaw$Channel" "noises" "I") ∈ mk_WL := mk_t4 219 rfl rfl
theorem mw_941 : (Jvm.Cond.laysFinal "SplitChannelLaw$Channel" "SplitChannelLaw$Channel" "when" "[I") ∈ mk_WL := mk_t4 221 rfl rfl
theorem mw_943 : (Jvm.Cond.laysFinal "SplitChannelLaw$Channel" "SplitChannelLaw$Channel" "at" "[I") ∈ mk_WL := mk_t4 223 rfl rfl
theorem mw_945 : (Jvm.Cond.laysFinal "SplitChannelLaw$Channel" "SplitChannelLaw$Channel" "as" "[I") ∈ mk_WL := mk_t4 225 rfl rfl
theorem mw_947 : (Jvm.Cond.laysFinal "SplitChannelLaw$Channel" "SplitChannelLaw$Channel" "bits" "[Ljava/lang/String;") ∈ mk_WL := mk_t4 227 rfl rfl
theorem mw_949 : (Jvm.Cond.lays "SplitChannelLaw$Channel" "SplitChannelLaw$Channel" "text" "Ljava/lang/String;") ∈ mk_WL := mk_t4 229 rfl rfl
theorem mw_951 : (Jvm.Cond.superclass "SplitChannelLaw$Channel" "java/lang/Object") ∈ mk_WL := mk_t4 231 rfl rfl
theorem mw_952 : (Jvm.Cond.methodLink "SplitChannelLaw" (100 : Nat) ({ cls := "SplitChannelLaw", name := "says", desc := "(LSplitChannel;Ljava/lang/String;)Z" } : Jvm.MethodName)) ∈ mk_WL := mk_t4 232 rfl rfl
theorem mw_953 : (Jvm.Cond.static ({ cls := "SplitChannelLaw", name := "says", desc := "(LSplitChannel;Ljava/lang/String;)Z" } : Jvm.MethodName)) ∈ mk_WL := mk_t4 233 rfl rfl
theorem mw_954 : (Jvm.Cond.code ({ cls := "SplitChannelLaw", name := "says", desc := "(LSplitChannel;Ljava/lang/String;)Z" } : Jvm.MethodName) method_3_code (5 : Nat) (Option.some Jvm.ClassFile.FieldType.boolean)) ∈ mk_WL := mk_t4 234 rfl rfl
theorem mw_955 : (Jvm.Cond.methodLink "SplitChannelLaw" (8 : Nat) ({ cls := "java/lang/String", name := "length", desc := "()I" } : Jvm.MethodName)) ∈ mk_WL := mk_t4 235 rfl rfl
theorem mw_956 : (Jvm.Cond.methodLink "SplitChannelLaw" (14 : Nat) ({ cls := "java/lang/String", name := "charAt", desc := "(I)C" } : Jvm.MethodName)) ∈ mk_WL := mk_t4 236 rfl rfl
theorem mw_957 : (Jvm.Cond.methodLink "SplitChannelLaw" (18 : Nat) ({ cls := "SplitChannel", name := "feed", desc := "(IIIII)I" } : Jvm.MethodName)) ∈ mk_WL := mk_t4 237 rfl rfl
theorem mw_958 : (Jvm.Cond.instanceMethod ({ cls := "SplitChannel", name := "feed", desc := "(IIIII)I" } : Jvm.MethodName)) ∈ mk_WL := mk_t4 238 rfl rfl
theorem mw_959 : (Jvm.Cond.selects "SplitChannel" ({ cls := "SplitChannel", name := "feed", desc := "(IIIII)I" } : Jvm.MethodName) ({ cls := "SplitChannel", name := "feed", desc := "(IIIII)I" } : Jvm.MethodName)) ∈ mk_WL := mk_t4 239 rfl rfl
theorem mw_960 : (Jvm.Cond.code ({ cls := "SplitChannel", name := "feed", desc := "(IIIII)I" } : Jvm.MethodName) prog_1_method_2_code (6 : Nat) (Option.some Jvm.ClassFile.FieldType.int)) ∈ mk_WL := mk_t5 0 rfl rfl
theorem mw_961 : (Jvm.Cond.methodLink "SplitChannel" (70 : Nat) ({ cls := "SplitChannel$Tape", name := "append", desc := "(I)V" } : Jvm.MethodName)) ∈ mk_WL := mk_t5 1 rfl rfl
theorem mw_962 : (Jvm.Cond.instanceMethod ({ cls := "SplitChannel$Tape", name := "append", desc := "(I)V" } : Jvm.MethodName)) ∈ mk_WL := mk_t5 2 rfl rfl
theorem mw_963 : (Jvm.Cond.selects "SplitChannel$Tape" ({ cls := "SplitChannel$Tape", name := "append", desc := "(I)V" } : Jvm.MethodName) ({ cls := "SplitChannel$Tape", name := "append", desc := "(I)V" } : Jvm.MethodName)) ∈ mk_WL := mk_t5 3 rfl rfl
theorem mw_964 : (Jvm.Cond.code ({ cls := "SplitChannel$Tape", name := "append", desc := "(I)V" } : Jvm.MethodName) prog_9_method_2_code (3 : Nat) (Option.none : Option Jvm.ClassFile.FieldType)) ∈ mk_WL := mk_t5 4 rfl rfl
theorem mw_966 : (Jvm.Cond.methodLink "SplitChannelLaw" (24 : Nat) ({ cls := "SplitChannel", name := "end", desc := "(I)I" } : Jvm.MethodName)) ∈ mk_WL := mk_t5 6 rfl rfl
theorem mw_967 : (Jvm.Cond.instanceMethod ({ cls := "SplitChannel", name := "end", desc := "(I)I" } : Jvm.MethodName)) ∈ mk_WL := mk_t5 7 rfl rfl
theorem mw_968 : (Jvm.Cond.selects "SplitChannel" ({ cls := "SplitChannel", name := "end", desc := "(I)I" } : Jvm.MethodName) ({ cls := "SplitChannel", name := "end", desc := "(I)I" } : Jvm.MethodName)) ∈ mk_WL := mk_t5 8 rfl rfl
theorem mw_969 : (Jvm.Cond.code ({ cls := "SplitChannel", name := "end", desc := "(I)I" } : Jvm.MethodName) prog_1_method_3_code (2 : Nat) (Option.some Jvm.ClassFile.FieldType.int)) ∈ mk_WL := mk_t5 9 rfl rfl
theorem mw_970 : (Jvm.Cond.methodLink "SplitChannelLaw" (112 : Nat) ({ cls := "SplitChannelLaw", name := "isSo", desc := "(LSplitChannel;LSplitChannelLaw$Channel;)Z" } : Jvm.MethodName)) ∈ mk_WL := mk_t5 10 rfl rfl
theorem mw_971 : (Jvm.Cond.static ({ cls := "SplitChannelLaw", name := "isSo", desc := "(LSplitChannel;LSplitChannelLaw$Channel;)Z" } : Jvm.MethodName)) ∈ mk_WL := mk_t5 11 rfl rfl
theorem mw_972 : (Jvm.Cond.code ({ cls := "SplitChannelLaw", name := "isSo", desc := "(LSplitChannel;LSplitChannelLaw$Channel;)Z" } : Jvm.MethodName) method_4_code (14 : Nat) (Option.some Jvm.ClassFile.FieldType.boolean)) ∈ mk_WL := mk_t5 12 rfl rfl
theorem mw_973 : (Jvm.Cond.methodLink "SplitChannelLaw" (37 : Nat) ({ cls := "SplitChannel", name := "sends", desc := "(II)I" } : Jvm.MethodName)) ∈ mk_WL := mk_t5 13 rfl rfl
theorem mw_974 : (Jvm.Cond.instanceMethod ({ cls := "SplitChannel", name := "sends", desc := "(II)I" } : Jvm.MethodName)) ∈ mk_WL := mk_t5 14 rfl rfl
theorem mw_975 : (Jvm.Cond.selects "SplitChannel" ({ cls := "SplitChannel", name := "sends", desc := "(II)I" } : Jvm.MethodName) ({ cls := "SplitChannel", name := "sends", desc := "(II)I" } : Jvm.MethodName)) ∈ mk_WL := mk_t5 15 rfl rfl
theorem mw_976 : (Jvm.Cond.code ({ cls := "SplitChannel", name := "sends", desc := "(II)I" } : Jvm.MethodName) prog_1_method_9_code (3 : Nat) (Option.some Jvm.ClassFile.FieldType.int)) ∈ mk_WL := mk_t5 16 rfl rfl
theorem mw_977 : (Jvm.Cond.methodLink "SplitChannel" (137 : Nat) ({ cls := "SplitChannel$Plan", name := "hasSlot", desc := "(I)Z" } : Jvm.MethodName)) ∈ mk_WL := mk_t5 17 rfl rfl
theorem mw_978 : (Jvm.Cond.instanceMethod ({ cls := "SplitChannel$Plan", name := "hasSlot", desc := "(I)Z" } : Jvm.MethodName)) ∈ mk_WL := mk_t5 18 rfl rfl
theorem mw_979 : (Jvm.Cond.selects "SplitChannel$Plan" ({ cls := "SplitChannel$Plan", name := "hasSlot", desc := "(I)Z" } : Jvm.MethodName) ({ cls := "SplitChannel$Plan", name := "hasSlot", desc := "(I)Z" } : Jvm.MethodName)) ∈ mk_WL := mk_t5 19 rfl rfl
theorem mw_980 : (Jvm.Cond.code ({ cls := "SplitChannel$Plan", name := "hasSlot", desc := "(I)Z" } : Jvm.MethodName) prog_5_method_9_code (2 : Nat) (Option.some Jvm.ClassFile.FieldType.boolean)) ∈ mk_WL := mk_t5 20 rfl rfl
theorem mw_981 : (Jvm.Cond.methodLink "SplitChannel" (118 : Nat) ({ cls := "SplitChannel$Plan", name := "hasSender", desc := "(I)Z" } : Jvm.MethodName)) ∈ mk_WL := mk_t5 21 rfl rfl
theorem mw_982 : (Jvm.Cond.instanceMethod ({ cls := "SplitChannel$Plan", name := "hasSender", desc := "(I)Z" } : Jvm.MethodName)) ∈ mk_WL := mk_t5 22 rfl rfl
theorem mw_983 : (Jvm.Cond.selects "SplitChannel$Plan" ({ cls := "SplitChannel$Plan", name := "hasSender", desc := "(I)Z" } : Jvm.MethodName) ({ cls := "SplitChannel$Plan", name := "hasSender", desc := "(I)Z" } : Jvm.MethodName)) ∈ mk_WL := mk_t5 23 rfl rfl
theorem mw_984 : (Jvm.Cond.code ({ cls := "SplitChannel$Plan", name := "hasSender", desc := "(I)Z" } : Jvm.MethodName) prog_5_method_7_code (2 : Nat) (Option.some Jvm.ClassFile.FieldType.boolean)) ∈ mk_WL := mk_t5 24 rfl rfl
theorem mw_985 : (Jvm.Cond.methodLink "SplitChannel" (126 : Nat) ({ cls := "SplitChannel", name := "at", desc := "([II)I" } : Jvm.MethodName)) ∈ mk_WL := mk_t5 25 rfl rfl
theorem mw_986 : (Jvm.Cond.methodLink "SplitChannelLaw" (45 : Nat) ({ cls := "SplitChannelLaw$Channel", name := "heard", desc := "(II)I" } : Jvm.MethodName)) ∈ mk_WL := mk_t5 26 rfl rfl
theorem mw_987 : (Jvm.Cond.instanceMethod ({ cls := "SplitChannelLaw$Channel", name := "heard", desc := "(II)I" } : Jvm.MethodName)) ∈ mk_WL := mk_t5 27 rfl rfl
theorem mw_988 : (Jvm.Cond.selects "SplitChannelLaw$Channel" ({ cls := "SplitChannelLaw$Channel", name := "heard", desc := "(II)I" } : Jvm.MethodName) ({ cls := "SplitChannelLaw$Channel", name := "heard", desc := "(II)I" } : Jvm.MethodName)) ∈ mk_WL := mk_t5 28 rfl rfl
theorem mw_989 : (Jvm.Cond.code ({ cls := "SplitChannelLaw$Channel", name := "heard", desc := "(II)I" } : Jvm.MethodName) prog_11_method_2_code (4 : Nat) (Option.some Jvm.ClassFile.FieldType.int)) ∈ mk_WL := mk_t5 29 rfl rfl
theorem mw_990 : (Jvm.Cond.methodLink "SplitChannelLaw$Channel" (88 : Nat) ({ cls := "java/lang/Math", name := "min", desc := "(II)I" } : Jvm.MethodName)) ∈ mk_WL := mk_t5 30 rfl rfl
theorem mw_991 : (Jvm.Cond.methodLink "SplitChannelLaw" (48 : Nat) ({ cls := "SplitChannel", name := "slot", desc := "(II)I" } : Jvm.MethodName)) ∈ mk_WL := mk_t5 31 rfl rfl
theorem mw_992 : (Jvm.Cond.instanceMethod ({ cls := "SplitChannel", name := "slot", desc := "(II)I" } : Jvm.MethodName)) ∈ mk_WL := mk_t5 32 rfl rfl
theorem mw_993 : (Jvm.Cond.selects "SplitChannel" ({ cls := "SplitChannel", name := "slot", desc := "(II)I" } : Jvm.MethodName) ({ cls := "SplitChannel", name := "slot", desc := "(II)I" } : Jvm.MethodName)) ∈ mk_WL := mk_t5 33 rfl rfl
theorem mw_994 : (Jvm.Cond.code ({ cls := "SplitChannel", name := "slot", desc := "(II)I" } : Jvm.MethodName) prog_1_method_8_code (3 : Nat) (Option.some Jvm.ClassFile.FieldType.int)) ∈ mk_WL := mk_t5 34 rfl rfl
theorem mw_995 : (Jvm.Cond.methodLink "SplitChannel" (143 : Nat) ({ cls := "java/lang/Integer", name := "bitCount", desc := "(I)I" } : Jvm.MethodName)) ∈ mk_WL := mk_t5 35 rfl rfl
theorem mw_996 : (Jvm.Cond.methodLink "SplitChannelLaw" (51 : Nat) ({ cls := "SplitChannel", name := "order", desc := "(I)I" } : Jvm.MethodName)) ∈ mk_WL := mk_t5 36 rfl rfl
theorem mw_997 : (Jvm.Cond.instanceMethod ({ cls := "SplitChannel", name := "order", desc := "(I)I" } : Jvm.MethodName)) ∈ mk_WL := mk_t5 37 rfl rfl
theorem mw_998 : (Jvm.Cond.selects "SplitChannel" ({ cls := "SplitChannel", name := "order", desc := "(I)I" } : Jvm.MethodName) ({ cls := "SplitChannel", name := "order", desc := "(I)I" } : Jvm.MethodName)) ∈ mk_WL := mk_t5 38 rfl rfl
theorem mw_999 : (Jvm.Cond.code ({ cls := "SplitChannel", name := "order", desc := "(I)I" } : Jvm.MethodName) prog_1_method_13_code (2 : Nat) (Option.some Jvm.ClassFile.FieldType.int)) ∈ mk_WL := mk_t5 39 rfl rfl
theorem mw_1000 : (Jvm.Cond.methodLink "SplitChannelLaw" (54 : Nat) ({ cls := "java/lang/Math", name := "max", desc := "(II)I" } : Jvm.MethodName)) ∈ mk_WL := mk_t5 40 rfl rfl
theorem mw_1001 : (Jvm.Cond.methodLink "SplitChannelLaw" (59 : Nat) ({ cls := "SplitChannel", name := "delivered", desc := "(I)I" } : Jvm.MethodName)) ∈ mk_WL := mk_t5 41 rfl rfl
theorem mw_1002 : (Jvm.Cond.instanceMethod ({ cls := "SplitChannel", name := "delivered", desc := "(I)I" } : Jvm.MethodName)) ∈ mk_WL := mk_t5 42 rfl rfl
theorem mw_1003 : (Jvm.Cond.selects "SplitChannel" ({ cls := "SplitChannel", name := "delivered", desc := "(I)I" } : Jvm.MethodName) ({ cls := "SplitChannel", name := "delivered", desc := "(I)I" } : Jvm.MethodName)) ∈ mk_WL := mk_t5 43 rfl rfl
theorem mw_1004 : (Jvm.Cond.code ({ cls := "SplitChannel", name := "delivered", desc := "(I)I" } : Jvm.MethodName) prog_1_method_10_code (2 : Nat) (Option.some Jvm.ClassFile.FieldType.int)) ∈ mk_WL := mk_t5 44 rfl rfl
theorem mw_1005 : (Jvm.Cond.methodLink "SplitChannelLaw" (62 : Nat) ({ cls := "SplitChannel", name := "tries", desc := "(I)I" } : Jvm.MethodName)) ∈ mk_WL := mk_t5 45 rfl rfl
theorem mw_1006 : (Jvm.Cond.instanceMethod ({ cls := "SplitChannel", name := "tries", desc := "(I)I" } : Jvm.MethodName)) ∈ mk_WL := mk_t5 46 rfl rfl
theorem mw_1007 : (Jvm.Cond.selects "SplitChannel" ({ cls := "SplitChannel", name := "tries", desc := "(I)I" } : Jvm.MethodName) ({ cls := "SplitChannel", name := "tries", desc := "(I)I" } : Jvm.MethodName)) ∈ mk_WL := mk_t5 47 rfl rfl
theorem mw_1008 : (Jvm.Cond.code ({ cls := "SplitChannel", name := "tries", desc := "(I)I" } : Jvm.MethodName) prog_1_method_11_code (2 : Nat) (Option.some Jvm.ClassFile.FieldType.int)) ∈ mk_WL := mk_t5 48 rfl rfl
theorem mw_1009 : (Jvm.Cond.methodLink "SplitChannelLaw" (65 : Nat) ({ cls := "SplitChannel", name := "heard", desc := "(I)I" } : Jvm.MethodName)) ∈ mk_WL := mk_t5 49 rfl rfl
theorem mw_1010 : (Jvm.Cond.instanceMethod ({ cls := "SplitChannel", name := "heard", desc := "(I)I" } : Jvm.MethodName)) ∈ mk_WL := mk_t5 50 rfl rfl
theorem mw_1011 : (Jvm.Cond.selects "SplitChannel" ({ cls := "SplitChannel", name := "heard", desc := "(I)I" } : Jvm.MethodName) ({ cls := "SplitChannel", name := "heard", desc := "(I)I" } : Jvm.MethodName)) ∈ mk_WL := mk_t5 51 rfl rfl
theorem mw_1012 : (Jvm.Cond.code ({ cls := "SplitChannel", name := "heard", desc := "(I)I" } : Jvm.MethodName) prog_1_method_16_code (2 : Nat) (Option.some Jvm.ClassFile.FieldType.int)) ∈ mk_WL := mk_t5 52 rfl rfl
theorem mw_1013 : (Jvm.Cond.methodLink "SplitChannel" (182 : Nat) ({ cls := "SplitChannel$Course", name := "slotsHeard", desc := "(II)I" } : Jvm.MethodName)) ∈ mk_WL := mk_t5 53 rfl rfl
theorem mw_1014 : (Jvm.Cond.instanceMethod ({ cls := "SplitChannel$Course", name := "slotsHeard", desc := "(II)I" } : Jvm.MethodName)) ∈ mk_WL := mk_t5 54 rfl rfl
theorem mw_1015 : (Jvm.Cond.selects "SplitChannel$Course" ({ cls := "SplitChannel$Course", name := "slotsHeard", desc := "(II)I" } : Jvm.MethodName) ({ cls := "SplitChannel$Course", name := "slotsHeard", desc := "(II)I" } : Jvm.MethodName)) ∈ mk_WL := mk_t5 55 rfl rfl
theorem mw_1016 : (Jvm.Cond.code ({ cls := "SplitChannel$Course", name := "slotsHeard", desc := "(II)I" } : Jvm.MethodName) prog_3_method_6_code (5 : Nat) (Option.some Jvm.ClassFile.FieldType.int)) ∈ mk_WL := mk_t5 56 rfl rfl
theorem mw_1017 : (Jvm.Cond.methodLink "SplitChannelLaw" (79 : Nat) ({ cls := "SplitChannel", name := "deepest", desc := "()I" } : Jvm.MethodName)) ∈ mk_WL := mk_t5 57 rfl rfl
theorem mw_1018 : (Jvm.Cond.instanceMethod ({ cls := "SplitChannel", name := "deepest", desc := "()I" } : Jvm.MethodName)) ∈ mk_WL := mk_t5 58 rfl rfl
theorem mw_1019 : (Jvm.Cond.selects "SplitChannel" ({ cls := "SplitChannel", name := "deepest", desc := "()I" } : Jvm.MethodName) ({ cls := "SplitChannel", name := "deepest", desc := "()I" } : Jvm.MethodName)) ∈ mk_WL := mk_t5 59 rfl rfl
theorem mw_1020 : (Jvm.Cond.code ({ cls := "SplitChannel", name := "deepest", desc := "()I" } : Jvm.MethodName) prog_1_method_19_code (1 : Nat) (Option.some Jvm.ClassFile.FieldType.int)) ∈ mk_WL := mk_t5 60 rfl rfl
theorem mw_1021 : (Jvm.Cond.methodLink "SplitChannel" (191 : Nat) ({ cls := "SplitChannel$Course", name := "greatestDepth", desc := "(I)I" } : Jvm.MethodName)) ∈ mk_WL := mk_t5 61 rfl rfl
theorem mw_1022 : (Jvm.Cond.instanceMethod ({ cls := "SplitChannel$Course", name := "greatestDepth", desc := "(I)I" } : Jvm.MethodName)) ∈ mk_WL := mk_t5 62 rfl rfl
theorem mw_1023 : (Jvm.Cond.selects "SplitChannel$Course" ({ cls := "SplitChannel$Course", name := "greatestDepth", desc := "(I)I" } : Jvm.MethodName) ({ cls := "SplitChannel$Course", name := "greatestDepth", desc := "(I)I" } : Jvm.MethodName)) ∈ mk_WL := mk_t5 63 rfl rfl
theorem mw_1024 : (Jvm.Cond.code ({ cls := "SplitChannel$Course", name := "greatestDepth", desc := "(I)I" } : Jvm.MethodName) prog_3_method_9_code (4 : Nat) (Option.some Jvm.ClassFile.FieldType.int)) ∈ mk_WL := mk_t5 64 rfl rfl
theorem mw_1025 : (Jvm.Cond.methodLink "SplitChannel$Course" (75 : Nat) ({ cls := "java/lang/Math", name := "max", desc := "(II)I" } : Jvm.MethodName)) ∈ mk_WL := mk_t5 65 rfl rfl
theorem mw_1026 : (Jvm.Cond.methodLink "SplitChannelLaw" (119 : Nat) ({ cls := "SplitChannelLaw", name := "isCounted", desc := "(LSplitChannel;LSplitChannelLaw$Channel;)Z" } : Jvm.MethodName)) ∈ mk_WL := mk_t5 66 rfl rfl
theorem mw_1027 : (Jvm.Cond.static ({ cls := "SplitChannelLaw", name := "isCounted", desc := "(LSplitChannel;LSplitChannelLaw$Channel;)Z" } : Jvm.MethodName)) ∈ mk_WL := mk_t5 67 rfl rfl
theorem mw_1028 : (Jvm.Cond.code ({ cls := "SplitChannelLaw", name := "isCounted", desc := "(LSplitChannel;LSplitChannelLaw$Channel;)Z" } : Jvm.MethodName) method_5_code (10 : Nat) (Option.some Jvm.ClassFile.FieldType.boolean)) ∈ mk_WL := mk_t5 68 rfl rfl
theorem mw_1029 : (Jvm.Cond.methodLink "SplitChannelLaw" (86 : Nat) ({ cls := "SplitChannel", name := "taken", desc := "(I)I" } : Jvm.MethodName)) ∈ mk_WL := mk_t5 69 rfl rfl
theorem mw_1030 : (Jvm.Cond.instanceMethod ({ cls := "SplitChannel", name := "taken", desc := "(I)I" } : Jvm.MethodName)) ∈ mk_WL := mk_t5 70 rfl rfl
theorem mw_1031 : (Jvm.Cond.selects "SplitChannel" ({ cls := "SplitChannel", name := "taken", desc := "(I)I" } : Jvm.MethodName) ({ cls := "SplitChannel", name := "taken", desc := "(I)I" } : Jvm.MethodName)) ∈ mk_WL := mk_t5 71 rfl rfl
theorem mw_1032 : (Jvm.Cond.code ({ cls := "SplitChannel", name := "taken", desc := "(I)I" } : Jvm.MethodName) prog_1_method_12_code (2 : Nat) (Option.some Jvm.ClassFile.FieldType.int)) ∈ mk_WL := mk_t5 72 rfl rfl
theorem mw_1033 : (Jvm.Cond.methodLink "SplitChannelLaw" (89 : Nat) ({ cls := "SplitChannel", name := "epochs", desc := "()I" } : Jvm.MethodName)) ∈ mk_WL := mk_t5 73 rfl rfl
theorem mw_1034 : (Jvm.Cond.instanceMethod ({ cls := "SplitChannel", name := "epochs", desc := "()I" } : Jvm.MethodName)) ∈ mk_WL := mk_t5 74 rfl rfl
theorem mw_1035 : (Jvm.Cond.selects "SplitChannel" ({ cls := "SplitChannel", name := "epochs", desc := "()I" } : Jvm.MethodName) ({ cls := "SplitChannel", name := "epochs", desc := "()I" } : Jvm.MethodName)) ∈ mk_WL := mk_t5 75 rfl rfl
theorem mw_1036 : (Jvm.Cond.code ({ cls := "SplitChannel", name := "epochs", desc := "()I" } : Jvm.MethodName) prog_1_method_20_code (1 : Nat) (Option.some Jvm.ClassFile.FieldType.int)) ∈ mk_WL := mk_t5 76 rfl rfl
theorem mw_1037 : (Jvm.Cond.arrayClass Jvm.ClassFile.FieldType.boolean) ∈ mk_WL := mk_t5 77 rfl rfl
theorem mw_1038 : (Jvm.Cond.sameMethod "java/lang/AbstractStringBuilder" "java/lang/AbstractStringBuilder" "append" "(Ljava/lang/String;)Ljava/lang/AbstractStringBuilder;") ∈ mk_WL := mk_t5 78 rfl rfl
theorem mw_1039 : (Jvm.Cond.sameMethod "java/lang/AbstractStringBuilder" "java/lang/AbstractStringBuilder" "appendNull" "()Ljava/lang/AbstractStringBuilder;") ∈ mk_WL := mk_t5 79 rfl rfl
theorem mw_1040 : (Jvm.Cond.sameMethod "java/lang/AbstractStringBuilder" "java/lang/AbstractStringBuilder" "ensureCapacityInternal" "(I)V") ∈ mk_WL := mk_t5 80 rfl rfl
theorem mw_1041 : (Jvm.Cond.sameMethod "java/lang/AbstractStringBuilder" "java/lang/AbstractStringBuilder" "newCapacity" "(I)I") ∈ mk_WL := mk_t5 81 rfl rfl
theorem mw_1042 : (Jvm.Cond.sameMethod "java/lang/AbstractStringBuilder" "java/lang/AbstractStringBuilder" "putStringAt" "(ILjava/lang/String;)V") ∈ mk_WL := mk_t5 82 rfl rfl
theorem mw_1043 : (Jvm.Cond.sameMethod "java/lang/AbstractStringBuilder" "java/lang/AbstractStringBuilder" "inflateIfNeededFor" "(Ljava/lang/String;)V") ∈ mk_WL := mk_t5 83 rfl rfl
theorem mw_1044 : (Jvm.Cond.sameMethod "java/lang/AbstractStringBuilder" "java/lang/AbstractStringBuilder" "inflate" "()V") ∈ mk_WL := mk_t5 84 rfl rfl
theorem mw_1045 : (Jvm.Cond.sameMethod "java/lang/AbstractStringBuilder" "java/lang/AbstractStringBuilder" "append" "(I)Ljava/lang/AbstractStringBuilder;") ∈ mk_WL := mk_t5 85 rfl rfl
theorem mw_p0 : Cond.selects RJ4 (mk_pv.getD 0 yL_cell) (mk_pv.getD 0 yL_cell) ∈ mk_WL := List.mem_filter.mpr ⟨List.mem_append_left _ (List.mem_of_getElem? (i := 0) rfl), rfl⟩
theorem mw_p1 : Cond.selects RJ4 (mk_pv.getD 1 yL_cell) (mk_pv.getD 1 yL_cell) ∈ mk_WL := List.mem_filter.mpr ⟨List.mem_append_left _ (List.mem_of_getElem? (i := 1) rfl), rfl⟩
theorem mw_p2 : Cond.selects RJ4 (mk_pv.getD 2 yL_cell) (mk_pv.getD 2 yL_cell) ∈ mk_WL := List.mem_filter.mpr ⟨List.mem_append_left _ (List.mem_of_getElem? (i := 2) rfl), rfl⟩
theorem mw_p3 : Cond.selects RJ4 (mk_pv.getD 3 yL_cell) (mk_pv.getD 3 yL_cell) ∈ mk_WL := List.mem_filter.mpr ⟨List.mem_append_left _ (List.mem_of_getElem? (i := 3) rfl), rfl⟩
theorem mk_inX0 : ∀ w ∈ wsX00, w ∈ mk_WL := List.forall_mem_cons.mpr ⟨mw_304, List.forall_mem_cons.mpr ⟨mw_306, List.forall_mem_cons.mpr ⟨mw_308, fun _ h => absurd h List.not_mem_nil⟩⟩⟩
theorem mk_inX1 : ∀ w ∈ wsX10, w ∈ mk_WL := List.forall_mem_cons.mpr ⟨mw_221, List.forall_mem_cons.mpr ⟨mw_223, List.forall_mem_cons.mpr ⟨mw_225, List.forall_mem_cons.mpr ⟨mw_227, List.forall_mem_cons.mpr ⟨mw_229, List.forall_mem_cons.mpr ⟨mw_231, List.forall_mem_cons.mpr ⟨mw_233, List.forall_mem_cons.mpr ⟨mw_235, List.forall_mem_cons.mpr ⟨mw_237, List.forall_mem_cons.mpr ⟨mw_239, List.forall_mem_cons.mpr ⟨mw_241, List.forall_mem_cons.mpr ⟨mw_243, List.forall_mem_cons.mpr ⟨mw_245, List.forall_mem_cons.mpr ⟨mw_247, fun _ h => absurd h List.not_mem_nil⟩⟩⟩⟩⟩⟩⟩⟩⟩⟩⟩⟩⟩⟩
theorem mk_inX2 : ∀ w ∈ wsX20, w ∈ mk_WL := List.forall_mem_cons.mpr ⟨mw_320, List.forall_mem_cons.mpr ⟨mw_322, List.forall_mem_cons.mpr ⟨mw_324, List.forall_mem_cons.mpr ⟨mw_326, List.forall_mem_cons.mpr ⟨mw_328, fun _ h => absurd h List.not_mem_nil⟩⟩⟩⟩⟩
theorem mk_inX3 : ∀ w ∈ wsX30, w ∈ mk_WL := List.forall_mem_cons.mpr ⟨mw_99, List.forall_mem_cons.mpr ⟨mw_101, List.forall_mem_cons.mpr ⟨mw_103, List.forall_mem_cons.mpr ⟨mw_105, List.forall_mem_cons.mpr ⟨mw_107, List.forall_mem_cons.mpr ⟨mw_109, List.forall_mem_cons.mpr ⟨mw_111, List.forall_mem_cons.mpr ⟨mw_113, List.forall_mem_cons.mpr ⟨mw_115, List.forall_mem_cons.mpr ⟨mw_117, List.forall_mem_cons.mpr ⟨mw_119, List.forall_mem_cons.mpr ⟨mw_121, fun _ h => absurd h List.not_mem_nil⟩⟩⟩⟩⟩⟩⟩⟩⟩⟩⟩⟩
theorem mk_inX4 : ∀ w ∈ wsX40, w ∈ mk_WL := List.forall_mem_cons.mpr ⟨mw_265, List.forall_mem_cons.mpr ⟨mw_267, List.forall_mem_cons.mpr ⟨mw_269, List.forall_mem_cons.mpr ⟨mw_271, List.forall_mem_cons.mpr ⟨mw_273, List.forall_mem_cons.mpr ⟨mw_275, List.forall_mem_cons.mpr ⟨mw_277, List.forall_mem_cons.mpr ⟨mw_279, List.forall_mem_cons.mpr ⟨mw_281, List.forall_mem_cons.mpr ⟨mw_283, List.forall_mem_cons.mpr ⟨mw_285, List.forall_mem_cons.mpr ⟨mw_287, List.forall_mem_cons.mpr ⟨mw_289, fun _ h => absurd h List.not_mem_nil⟩⟩⟩⟩⟩⟩⟩⟩⟩⟩⟩⟩⟩
theorem mk_inX5 : ∀ w ∈ wsX50, w ∈ mk_WL := List.forall_mem_cons.mpr ⟨mw_134, List.forall_mem_cons.mpr ⟨mw_136, List.forall_mem_cons.mpr ⟨mw_138, List.forall_mem_cons.mpr ⟨mw_140, List.forall_mem_cons.mpr ⟨mw_142, List.forall_mem_cons.mpr ⟨mw_144, List.forall_mem_cons.mpr ⟨mw_146, List.forall_mem_cons.mpr ⟨mw_148, fun _ h => absurd h List.not_mem_nil⟩⟩⟩⟩⟩⟩⟩⟩
theorem mk_inX6 : ∀ w ∈ wsX60, w ∈ mk_WL := List.forall_mem_cons.mpr ⟨mw_172, List.forall_mem_cons.mpr ⟨mw_174, List.forall_mem_cons.mpr ⟨mw_176, List.forall_mem_cons.mpr ⟨mw_178, fun _ h => absurd h List.not_mem_nil⟩⟩⟩⟩
theorem mk_inX7 : ∀ w ∈ wsX70, w ∈ mk_WL := List.forall_mem_cons.mpr ⟨mw_48, List.forall_mem_cons.mpr ⟨mw_50, fun _ h => absurd h List.not_mem_nil⟩⟩
theorem mk_inX8 : ∀ w ∈ wsX80, w ∈ mk_WL := List.forall_mem_cons.mpr ⟨mw_341, List.forall_mem_cons.mpr ⟨mw_343, List.forall_mem_cons.mpr ⟨mw_345, List.forall_mem_cons.mpr ⟨mw_347, List.forall_mem_cons.mpr ⟨mw_349, List.forall_mem_cons.mpr ⟨mw_351, List.forall_mem_cons.mpr ⟨mw_353, List.forall_mem_cons.mpr ⟨mw_355, List.forall_mem_cons.mpr ⟨mw_357, fun _ h => absurd h List.not_mem_nil⟩⟩⟩⟩⟩⟩⟩⟩⟩
theorem mk_inX9 : ∀ w ∈ wsX90, w ∈ mk_WL := List.forall_mem_cons.mpr ⟨mw_933, List.forall_mem_cons.mpr ⟨mw_935, List.forall_mem_cons.mpr ⟨mw_937, List.forall_mem_cons.mpr ⟨mw_939, List.forall_mem_cons.mpr ⟨mw_941, List.forall_mem_cons.mpr ⟨mw_943, List.forall_mem_cons.mpr ⟨mw_945, List.forall_mem_cons.mpr ⟨mw_947, List.forall_mem_cons.mpr ⟨mw_949, fun _ h => absurd h List.not_mem_nil⟩⟩⟩⟩⟩⟩⟩⟩⟩
theorem mk_inJ0 : ∀ w ∈ wsJ00, w ∈ mk_WL := List.forall_mem_cons.mpr ⟨mw_900, List.forall_mem_cons.mpr ⟨mw_902, List.forall_mem_cons.mpr ⟨mw_904, List.forall_mem_cons.mpr ⟨mw_906, fun _ h => absurd h List.not_mem_nil⟩⟩⟩⟩
theorem mk_inJ4 : ∀ w ∈ wsJ40, w ∈ mk_WL := List.forall_mem_cons.mpr ⟨mw_716, List.forall_mem_cons.mpr ⟨mw_718, List.forall_mem_cons.mpr ⟨mw_720, List.forall_mem_cons.mpr ⟨mw_722, fun _ h => absurd h List.not_mem_nil⟩⟩⟩⟩
end
section
/-! MY OWN KIT: the walk's judgement with the world, the locals and the stack in it -/
abbrev mk_L : Type := List (Nat × Value)

/-- the words that a method has: its own code, and all that the law has -/
abbrev mk_ws (y : MethodName) (cc : ByteArray) (n : Nat) (ret : Option FieldType) : List Cond := .code y cc n ret :: mk_WL

/-! va_P and va_D by membership -/
theorem mk_P {D : va_G} {cl : List vw_C} {ws : va_W} {H : Heap} : va_P D cl ws H ↔ ∀ q ∈ ws, va_at D cl q H := by
  constructor
  · intro h q hq
    obtain ⟨k, hk⟩ := List.getElem?_of_mem hq
    exact h k q hk
  · intro h k q hk
    exact h q (List.mem_of_getElem? hk)
theorem mk_D {A : Nat → Prop} {ws : va_W} : va_D A ws ↔ (ws.map Prod.fst).Nodup ∧ ∀ q ∈ ws, A q.1 := by
  constructor
  · intro h
    refine ⟨?_, fun q hq => ?_⟩
    · refine List.pairwise_iff_getElem.mpr (fun i j hi hj hij e => ?_)
      have hj2 : j < ws.length := by simpa using hj
      have hi2 : i < ws.length := Nat.lt_trans hij hj2
      have := h.1 i j _ _ (List.getElem?_eq_getElem hi2) (List.getElem?_eq_getElem hj2) (by simpa using e)
      omega
    · obtain ⟨k, hk⟩ := List.getElem?_of_mem hq
      exact h.2 k q hk
  · intro h
    refine ⟨fun i j p q hi hj e => ?_, fun k q hk => h.2 q (List.mem_of_getElem? hk)⟩
    obtain ⟨hi2, hi3⟩ := List.getElem?_eq_some_iff.mp hi
    obtain ⟨hj2, hj3⟩ := List.getElem?_eq_some_iff.mp hj
    have hn := List.pairwise_iff_getElem.mp h.1
    rcases Nat.lt_trichotomy i j with g | g | g
    · exact absurd e (fun e => hn i j (by simpa using hi2) (by simpa using hj2) g (by rw [List.getElem_map, List.getElem_map, hi3, hj3]; exact e))
    · exact g
    · exact absurd e (fun e => hn j i (by simpa using hj2) (by simpa using hi2) g (by rw [List.getElem_map, List.getElem_map, hi3, hj3]; exact e.symm))
/-- a callee's cells wc among the caller's ws; behind the call wc are w1, ws are ws' -/
def mk_Fr (ws wc w1 ws' : va_W) : Prop := ∃ wr : va_W, ws.Perm (wr ++ wc) ∧ ws'.Perm (wr ++ w1)
theorem mk_Fr.all (ws w1 : va_W) : mk_Fr ws ws w1 w1 := ⟨[], by simp, by simp⟩
theorem mk_Fr.nil (ws : va_W) : mk_Fr ws [] [] ws := ⟨ws, by simp, by simp⟩
theorem mk_Fr.mid (a b c b1 : va_W) : mk_Fr (a ++ (b ++ c)) b b1 (a ++ (b1 ++ c)) :=
  ⟨a ++ c, by rw [List.append_assoc]; exact List.Perm.append_left a List.perm_append_comm, by rw [List.append_assoc]; exact List.Perm.append_left a List.perm_append_comm⟩
theorem mk_Fr.last (a b b1 : va_W) : mk_Fr (a ++ b) b b1 (a ++ b1) := ⟨a, List.Perm.refl _, List.Perm.refl _⟩
theorem mk_Fr.first (b c b1 : va_W) : mk_Fr (b ++ c) b b1 (b1 ++ c) := ⟨c, List.perm_append_comm, List.perm_append_comm⟩
theorem mk_Fr.perm {ws wc w1 ws' vs vs' : va_W} (h : mk_Fr vs wc w1 vs') (h1 : ws.Perm vs) (h2 : ws'.Perm vs') : mk_Fr ws wc w1 ws' := by
  obtain ⟨wr, a, b⟩ := h
  exact ⟨wr, h1.trans a, h2.trans b⟩
theorem mk_D.perm {A : Nat → Prop} {ws vs : va_W} (h : va_D A ws) (hp : ws.Perm vs) : va_D A vs := by
  rw [mk_D] at h ⊢
  exact ⟨((hp.map Prod.fst).nodup_iff).mp h.1, fun q hq => h.2 q (hp.mem_iff.mpr hq)⟩
theorem mk_P.perm {D : va_G} {cl : List vw_C} {ws vs : va_W} {H : Heap} (h : va_P D cl ws H) (hp : ws.Perm vs) : va_P D cl vs H := by
  rw [mk_P] at h ⊢
  exact fun q hq => h q (hp.mem_iff.mpr hq)
theorem mk_D.right {A : Nat → Prop} {a b : va_W} (h : va_D A (a ++ b)) : va_D A b := by
  rw [mk_D] at h ⊢
  rw [List.map_append, List.nodup_append] at h
  exact ⟨h.1.2.1, fun q hq => h.2 q (List.mem_append_right _ hq)⟩
theorem mk_P.right {D : va_G} {cl : List vw_C} {a b : va_W} {H : Heap} (h : va_P D cl (a ++ b) H) : va_P D cl b H := by
  rw [mk_P] at h ⊢
  exact fun q hq => h q (List.mem_append_right _ hq)
theorem mk_A {ws : va_W} {sz q : Nat} : va_A ws sz q ↔ (∃ x ∈ ws, x.1 = q) ∨ sz ≤ q := by
  unfold va_A
  constructor
  · rintro (⟨k, e, h⟩ | h)
    · exact Or.inl ⟨(q, e), List.mem_of_getElem? h, rfl⟩
    · exact Or.inr h
  · rintro (⟨x, h, rfl⟩ | h)
    · obtain ⟨k, hk⟩ := List.getElem?_of_mem h
      exact Or.inl ⟨k, x.2, hk⟩
    · exact Or.inr h
/-- behind a call: the rest, which stays, and what came back -/
theorem mk_join {A : Nat → Prop} {D : va_G} {cl : List vw_C} {ws wc w1 ws' : va_W} {H H1 : Heap} (hF : mk_Fr ws wc w1 ws') (hP : va_P D cl ws H) (hD : va_D A ws) (hf : ∀ q, va_A wc H.size q → A q)
    (hk : ∀ q : Nat, q < H.size → ¬ va_A wc H.size q → H1[q]? = H[q]?) (hP1 : va_P D cl w1 H1) (hD1 : va_D (va_A wc H.size) w1) : va_P D cl ws' H1 ∧ va_D A ws' := by
  obtain ⟨wr, p1, p2⟩ := hF
  have hP := mk_P.perm hP p1
  have hD := mk_D.perm hD p1
  rw [mk_P] at hP hP1
  rw [mk_D] at hD hD1
  have key : ∀ q ∈ wr, q.1 < H.size ∧ ¬ va_A wc H.size q.1 := by
    intro q hq
    have hl := (hP q (List.mem_append_left _ hq)).lt
    refine ⟨hl, fun h => ?_⟩
    rcases mk_A.mp h with ⟨x, hx, e⟩ | h
    · have hn := hD.1
      rw [List.map_append, List.nodup_append] at hn
      exact hn.2.2 q.1 (List.mem_map.mpr ⟨q, hq, rfl⟩) x.1 (List.mem_map.mpr ⟨x, hx, rfl⟩) e.symm
    · omega
  have hn := hD.1
  rw [List.map_append, List.nodup_append] at hn
  refine ⟨mk_P.perm (mk_P.mpr (fun q hq => ?_)) p2.symm, mk_D.perm (mk_D.mpr ⟨?_, fun q hq => ?_⟩) p2.symm⟩
  · rcases List.mem_append.mp hq with h | h
    · exact (hP q (List.mem_append_left _ h)).kept (hk q.1 (key q h).1 (key q h).2)
    · exact hP1 q h
  · rw [List.map_append, List.nodup_append]
    refine ⟨hn.1, hD1.1, fun a ha b hb e => ?_⟩
    obtain ⟨x, hx, rfl⟩ := List.mem_map.mp ha
    obtain ⟨y, hy, rfl⟩ := List.mem_map.mp hb
    exact (key x hx).2 (by rw [e]; exact hD1.2 y hy)
  · rcases List.mem_append.mp hq with h | h
    · exact hD.2 q (List.mem_append_left _ h)
    · exact hf _ (hD1.2 q h)
theorem mk_Fr.P {ws wc w1 ws' : va_W} (hF : mk_Fr ws wc w1 ws') {D : va_G} {cl : List vw_C} {H : Heap} (hP : va_P D cl ws H) : va_P D cl wc H := by
  obtain ⟨wr, p1, -⟩ := hF
  exact mk_P.right (mk_P.perm hP p1)
theorem mk_Fr.D {ws wc w1 ws' : va_W} (hF : mk_Fr ws wc w1 ws') {A : Nat → Prop} (hD : va_D A ws) : va_D A wc := by
  obtain ⟨wr, p1, -⟩ := hF
  exact mk_D.right (mk_D.perm hD p1)
theorem mk_Fr.free {ws wc w1 ws' : va_W} (hF : mk_Fr ws wc w1 ws') {A : Nat → Prop} {H0 H : Heap} {locs : List Loc} (hD : va_D A ws) (hS : va_S A H0 H locs) (hA : ∀ q, H0.size ≤ q → A q) : ∀ q, va_A wc H.size q → A q := by
  intro q h
  rcases mk_A.mp h with ⟨x, hx, rfl⟩ | h
  · exact (mk_D.mp (hF.D hD)).2 x hx
  · exact hA q (Nat.le_trans hS.1 h)
/-! what every method may rely on: links between nest mates, the string constants (and strings that were made before the call), the script, the JDK's statics -/
abbrev mk_Sd : Type := Nat × Nat × (Nat → Nat)
abbrev mk_Y : Type := (Nat → mk_Sd) × (Nat × Nat × (Nat → Int32))
def mk_nest : List (String × Nat × MethodName) := [(RX8, 9, yX5_init), (RX5, 11, yX7_init), (RX5, 20, yX3_init), (RX8, 28, yX4_init), (RX4, 11, yX3_init), (RX4, 20, yX6_init), (RX4, 31, yX1_init), (RX8, 46, yX1_init), (RX8, 52, yX0_init), (RX8, 59, yX2_init), (RX7, 19, yX8_put), (RX5, 139, yX8_at), (RX3, 64, yX8_put), (RX3, 52, yX8_at), (RX4, 99, yX8_at), (RX4, 127, yX8_put), (RX1, 61, yX8_put), (RX6, 25, yX8_put), (RX6, 29, yX8_at), (RX1, 65, yX8_at), (RX0, 22, yX8_put), (RX0, 26, yX8_at)]
def mk_nestF : List (Nat × String × String) := [(116, "law", "I"), (34, "slots", "I"), (28, "senders", "I"), (109, "noises", "I"), (41, "when", "[I"), (82, "bits", "[Ljava/lang/String;"), (96, "text", "Ljava/lang/String;")]
def mk_txt : List String := ["channel", "law", "slots", "skips", "window", "sender", "at", "bits", "noise", "as", "none", "one", "many", "channel law ", " slots ", " skips ", " window ", ";", "", "sender at ", " bits ", "noise at ", " as "]
def mk_lits : List (String × Nat × Nat) := [(RX5, 51, 0), (RX5, 74, 1), (RX5, 88, 2), (RX5, 92, 3), (RX5, 96, 4), (RX5, 64, 5), (RX5, 106, 6), (RX5, 108, 7), (RX5, 69, 8), (RX5, 126, 9), (RX5, 143, 10), (RX5, 145, 11), (RX5, 147, 12), (RX9, 47, 13), (RX9, 56, 14), (RX9, 58, 15), (RX9, 60, 16), (RX9, 62, 17), (RX9, 72, 18), (RX9, 74, 19), (RX9, 76, 20), (RX9, 78, 21), (RX9, 80, 22), (RX9, 82, 10), (RX9, 84, 11), (RX9, 86, 12)]
def mk_len : List Nat := [7, 3, 5, 5, 6, 6, 2, 4, 5, 2, 4, 3, 4, 12, 7, 7, 8, 1, 0, 10, 6, 9, 4]
def mk_byt : List (List Int32) := [[99, 104, 97, 110, 110, 101, 108], [108, 97, 119], [115, 108, 111, 116, 115], [115, 107, 105, 112, 115], [119, 105, 110, 100, 111, 119], [115, 101, 110, 100, 101, 114], [97, 116], [98, 105, 116, 115], [110, 111, 105, 115, 101], [97, 115], [110, 111, 110, 101], [111, 110, 101], [109, 97, 110, 121], [99, 104, 97, 110, 110, 101, 108, 32, 108, 97, 119, 32], [32, 115, 108, 111, 116, 115, 32], [32, 115, 107, 105, 112, 115, 32], [32, 119, 105, 110, 100, 111, 119, 32], [59], [], [115, 101, 110, 100, 101, 114, 32, 97, 116, 32], [32, 98, 105, 116, 115, 32], [110, 111, 105, 115, 101, 32, 97, 116, 32], [32, 97, 115, 32]]
abbrev mk_TY (cI cJ cB cZ cS : ClassId) : List (ClassId × FieldType) := [(cI, .int), (cJ, .long), (cB, .byte), (cZ, .boolean), (cS, .object "java/lang/String")]
/-- one string: its object at x, its row at y.1, y.2.1 letters y.2.2, all below 128 -/
def mk_Sp (y : mk_Sd) : Prop := y.2.1 ≤ 1000 ∧ ∀ j, j < y.2.1 → y.2.2 j < 128
def mk_S1 (x : Nat) (y : mk_Sd) (A : Nat → Prop) (U : State) (H : Heap) : Prop := va_O "java/lang/String" x A U H ∧ va_OF "java/lang/String" "coder" "B" (.int 0) x A U H ∧ va_OF "java/lang/String" "value" "[B" (.ref y.1) x A U H ∧ va_T .byte y.1 y.2.1 (fun j => .int (nI (y.2.2 j))) A U H
theorem mk_S1.moved {x : Nat} {y : mk_Sd} {A : Nat → Prop} {u U : State} {H : Heap} (hvm : u.vm.Alike U.vm) (h : mk_S1 x y A u H) : mk_S1 x y A U H :=
  ⟨va_O.moved hvm h.1, va_OF.moved hvm h.2.1, va_OF.moved hvm h.2.2.1, va_T.moved hvm h.2.2.2⟩
theorem mk_S1.kept {x : Nat} {y : mk_Sd} {A : Nat → Prop} {U : State} {H H1 : Heap} (h : mk_S1 x y A U H) (hq : ∀ a : Nat, a < H.size → ¬ A a → H1[a]? = H[a]?) : mk_S1 x y A U H1 :=
  ⟨h.1.kept hq, h.2.1.kept hq, h.2.2.1.kept hq, h.2.2.2.kept hq⟩
theorem mk_S1.narrow {x : Nat} {y : mk_Sd} {A B : Nat → Prop} {U : State} {H : Heap} (h : mk_S1 x y A U H) (hAB : ∀ q, B q → A q) : mk_S1 x y B U H :=
  ⟨h.1.narrow hAB, h.2.1.narrow hAB, h.2.2.1.narrow hAB, h.2.2.2.narrow hAB⟩
def mk_S (X : Nat → Nat) (Y : mk_Y) (A : Nat → Prop) (U : State) (H : Heap) : Prop := ∀ k : Nat, mk_S1 (X k) (Y.1 k) A U H
theorem mk_S.recv {X : Nat → Nat} {Y : mk_Y} {A : Nat → Prop} {s : State} {H : Heap} {locs : List Loc} {k : Nat} (hE : mk_S X Y A s s.heap) (hS : va_S A s.heap H locs) : ∃ cell : Cell, H[X k]? = some cell ∧ cell.vm.isStatics = false ∧ s.vm.findClass "java/lang/String" = some cell.cls := by
  obtain ⟨cell, h1, h2, h3, -⟩ := (hE k).1.kept hS.2.1
  exact ⟨cell, h1, h2, h3⟩
/-- the letters are as the constants have them -/
def mk_Pu (Y : mk_Y) : Prop := (∀ k : Nat, mk_Sp (Y.1 k)) ∧ ∀ k : Nat, k < 23 → (Y.1 k).2.1 = mk_len.getD k 0 ∧ ∀ j : Nat, j < mk_len.getD k 0 → nI ((Y.1 k).2.2 j) = (mk_byt.getD k []).getD j 0
/-- a static row of the JDK -/
def mk_Dg (n : String) (f : Nat → Nat) (A : Nat → Prop) (U : State) (H : Heap) : Prop := ∃ t : Nat, va_Z "java/lang/Integer" n "[B" (.ref t) A U H ∧ va_T .byte t 100 (fun j => .int (nI (f j))) A U H
theorem mk_Dg.moved {n : String} {f : Nat → Nat} {A : Nat → Prop} {u U : State} {H : Heap} (hvm : u.vm.Alike U.vm) (h : mk_Dg n f A u H) : mk_Dg n f A U H := by
  obtain ⟨t, a, b⟩ := h
  exact ⟨t, a.moved hvm, b.moved hvm⟩
theorem mk_Dg.kept {n : String} {f : Nat → Nat} {A : Nat → Prop} {U : State} {H H1 : Heap} (h : mk_Dg n f A U H) (hq : ∀ a : Nat, a < H.size → ¬ A a → H1[a]? = H[a]?) : mk_Dg n f A U H1 := by
  obtain ⟨t, a, b⟩ := h
  exact ⟨t, a.kept hq, b.kept hq⟩
theorem mk_Dg.narrow {n : String} {f : Nat → Nat} {A B : Nat → Prop} {U : State} {H : Heap} (h : mk_Dg n f A U H) (hAB : ∀ q, B q → A q) : mk_Dg n f B U H := by
  obtain ⟨t, a, b⟩ := h
  exact ⟨t, a.narrow hAB, b.narrow hAB⟩
/-- the script, read alone -/
def mk_Scr (y : Nat × Nat × (Nat → Int32)) (A : Nat → Prop) (U : State) (H : Heap) : Prop := va_X y.1 y.2.1 y.2.2 U H ∧ y.1 < H.size ∧ ¬ A y.1
theorem mk_Scr.kept {y : Nat × Nat × (Nat → Int32)} {A : Nat → Prop} {U : State} {H H1 : Heap} (h : mk_Scr y A U H) (hq : ∀ a : Nat, a < H.size → ¬ A a → H1[a]? = H[a]?) : mk_Scr y A U H1 := by
  obtain ⟨a, b, d⟩ := h
  have e := hq y.1 b d
  refine ⟨a.kept e, ?_, d⟩
  obtain ⟨scr, h1, -⟩ := a
  rw [h1] at e
  exact (Array.getElem?_eq_some_iff.mp e).1
def mk_Sts (A : Nat → Prop) (U : State) (H : Heap) : Prop := va_Z "java/lang/String" "COMPACT_STRINGS" "Z" (.int 1) A U H ∧ va_Zq "jdk/internal/util/Preconditions" "SIOOBE_FORMATTER" "Ljava/util/function/BiFunction;" A U H ∧ mk_Dg "DigitOnes" (fun j => 48 + j % 10) A U H ∧ mk_Dg "DigitTens" (fun j => 48 + j / 10) A U H
def mk_Wds (X : Nat → Nat) (U : State) : Prop := (∀ w ∈ mk_nest, va_Nw (.methodLinkNest w.1 w.2.1 w.2.2 RX8) U) ∧ va_Nw (.methodLinkNest RX9 7 yL_cell RL) U ∧ (∀ w ∈ mk_nestF, va_Nw (.fieldLinkNest RL w.1 RX9 w.2.1 w.2.2 RL) U) ∧ (∀ w ∈ mk_lits, vk_R w.1 w.2.1 (mk_txt.getD w.2.2 "") (X w.2.2) U) ∧ va_AO "java/lang/String" U ∧ va_Nw (.castable "[B" "java/lang/Cloneable") U
def mk_Amb (X : Nat → Nat) (Y : mk_Y) (A : Nat → Prop) (U : State) (H : Heap) : Prop := mk_Wds X U ∧ mk_S X Y A U H ∧ mk_Pu Y ∧ mk_Scr Y.2 A U H ∧ mk_Sts A U H
theorem mk_Sts.moved {A : Nat → Prop} {u U : State} {H : Heap} (hvm : u.vm.Alike U.vm) (h : mk_Sts A u H) : mk_Sts A U H := ⟨h.1.moved hvm, h.2.1.moved hvm, h.2.2.1.moved hvm, h.2.2.2.moved hvm⟩
theorem mk_Sts.kept {A : Nat → Prop} {U : State} {H H1 : Heap} (h : mk_Sts A U H) (hq : ∀ a : Nat, a < H.size → ¬ A a → H1[a]? = H[a]?) : mk_Sts A U H1 := ⟨h.1.kept hq, h.2.1.kept hq, h.2.2.1.kept hq, h.2.2.2.kept hq⟩
theorem mk_Sts.narrow {A B : Nat → Prop} {U : State} {H : Heap} (h : mk_Sts A U H) (hAB : ∀ q, B q → A q) : mk_Sts B U H := ⟨h.1.narrow hAB, h.2.1.narrow hAB, h.2.2.1.narrow hAB, h.2.2.2.narrow hAB⟩
theorem mk_Wds.same {X : Nat → Nat} {u U : State} (hv : U.vm = u.vm) (h : mk_Wds X u) : mk_Wds X U :=
  ⟨fun w hw => va_Nw.same rfl hv.symm (h.1 w hw), va_Nw.same rfl hv.symm h.2.1, fun w hw => va_Nw.same rfl hv.symm (h.2.2.1 w hw), fun w hw => (h.2.2.2.1 w hw).same hv, h.2.2.2.2.1.moved (by rw [hv]; exact Vm.Alike.refl _), va_Nw.same rfl hv.symm h.2.2.2.2.2⟩
theorem mk_Wds.warm {X : Nat → Nat} {s U : State} (hW : s.WarmedH U.vm) (h : mk_Wds X s) : mk_Wds X U :=
  ⟨fun w hw => (h.1 w hw).warmM hW, h.2.1.warmM hW, fun w hw => (h.2.2.1 w hw).warmF hW, fun w hw => (h.2.2.2.1 w hw).warm hW, h.2.2.2.2.1.moved hW.alike, h.2.2.2.2.2.warmC hW⟩
theorem mk_Amb.same {X : Nat → Nat} {Y : mk_Y} {A : Nat → Prop} {u U : State} {H : Heap} (hv : U.vm = u.vm) (h : mk_Amb X Y A u H) : mk_Amb X Y A U H :=
  ⟨h.1.same hv, fun k => (h.2.1 k).moved (by rw [hv]; exact Vm.Alike.refl _), h.2.2.1, ⟨h.2.2.2.1.1.moved (by rw [hv]; exact Vm.Alike.refl _), h.2.2.2.1.2⟩, h.2.2.2.2.moved (by rw [hv]; exact Vm.Alike.refl _)⟩
theorem mk_Amb.warm {X : Nat → Nat} {Y : mk_Y} {A : Nat → Prop} {s U : State} {H : Heap} (hW : s.WarmedH U.vm) (h : mk_Amb X Y A s H) : mk_Amb X Y A U H :=
  ⟨h.1.warm hW, fun k => (h.2.1 k).moved hW.alike, h.2.2.1, ⟨h.2.2.2.1.1.moved hW.alike, h.2.2.2.1.2⟩, h.2.2.2.2.moved hW.alike⟩
theorem mk_Amb.kept {X : Nat → Nat} {Y : mk_Y} {A : Nat → Prop} {U : State} {H H1 : Heap} (h : mk_Amb X Y A U H) (hq : ∀ a : Nat, a < H.size → ¬ A a → H1[a]? = H[a]?) : mk_Amb X Y A U H1 :=
  ⟨h.1, fun k => (h.2.1 k).kept hq, h.2.2.1, h.2.2.2.1.kept hq, h.2.2.2.2.kept hq⟩
theorem mk_Amb.narrow {X : Nat → Nat} {Y : mk_Y} {A B : Nat → Prop} {U : State} {H : Heap} (h : mk_Amb X Y A U H) (hAB : ∀ q, B q → A q) : mk_Amb X Y B U H :=
  ⟨h.1, fun k => (h.2.1 k).narrow hAB, h.2.2.1, ⟨h.2.2.2.1.1, h.2.2.2.1.2.1, fun z => h.2.2.2.1.2.2 (hAB _ z)⟩, h.2.2.2.2.narrow hAB⟩
/-! contracts: the answer and the world behind are told outright -/
def mk_Pc (av : List Value) (D : va_G) (tys : List (ClassId × FieldType)) (X : Nat → Nat) (Y : mk_Y) (ws0 : va_W) (sz : Nat) : Array Value → State → Prop :=
  va_Pc av (fun U => U.heap.size = sz ∧ va_P D vwCl ws0 U.heap ∧ va_K D vwCl tys U ∧ va_D (fun _ => True) ws0 ∧ mk_Amb X Y (va_A ws0 sz) U U.heap)
def mk_Q (res : Option Value) (D : va_G) (w1 : va_W) (A : Nat → Prop) : Array Value → State → Outcome → State → Prop := fun _ st oc t => (oc = .returned res ∧ va_P D vwCl w1 t.heap ∧ va_D A w1) ∧ va_F A st t
def mk_Met (l : Launch) (y : MethodName) (cc : ByteArray) (nL : Nat) (ret : Option FieldType) (rm : Room) (D : va_G) (tys : List (ClassId × FieldType)) (X : Nat → Nat) (Y : mk_Y) (av : List Value) (ws0 w1 : va_W) (res : Option Value) (mc ms : Nat) : Prop :=
  ∀ sz : Nat, Met l y (mk_ws y cc nL ret) rm (mk_Pc av D tys X Y ws0 sz) (mk_Q res D w1 (va_A ws0 sz)) mc ms (va_A ws0 sz)
theorem mk_Pc.blind {av : List Value} {D : va_G} {tys : List (ClassId × FieldType)} {X : Nat → Nat} {Y : mk_Y} {ws0 : va_W} {sz : Nat} : FrameBlind (mk_Pc av D tys X Y ws0 sz) := by
  intro a U g mk h
  obtain ⟨q0, q1, q2, q3, q4, q5⟩ := h
  exact ⟨q0, q1, q2, va_K.moved (u := U) (U := U.calling g mk a) (Vm.Alike.refl U.vm) q3, q4, q5.same (u := U) (U := U.calling g mk a) rfl⟩
/-- the context of a method's walk -/
def mk_Cx (p : Program) (s : State) (m : MethodId) (args : Array Value) (c : Code) (cc : ByteArray) (nL : Nat) (own : String) (D : va_G) (tys : List (ClassId × FieldType)) (X : Nat → Nat) (Y : mk_Y) (A : Nat → Prop) : Prop :=
  CallFix p m c cc nL s args mk_WL own ∧ va_K D vwCl tys s ∧ mk_Amb X Y A s s.heap ∧ (∀ q, s.heap.size ≤ q → A q)
/-- the walk's judgement -/
def mk_Go (p : Program) (l : Launch) (e : Env) (R : Room) (s : State) (m : MethodId) (args : Array Value) (below : List Frame) (meth : Method) (c : Code) (D : va_G) (A : Nat → Prop) (nL cells slots : Nat) (Q : State → Prop) (pc : Nat) (ws : va_W) (lv : mk_L) (st : List Value) : Prop :=
  ∀ (H : Heap) (locs : List Loc) (ls : Array Slot), va_P D vwCl ws H → va_D A ws → va_S A s.heap H locs → lv_has ls nL lv → W p l e R s m args below meth c H locs cells slots Q (F0 m pc ls st)
/-- a method's proof begins -/
theorem mk_start {l : Launch} {y : MethodName} {cc : ByteArray} {nL : Nat} {ret : Option FieldType} {rm : Room} {D : va_G} {tys : List (ClassId × FieldType)} {X : Nat → Nat} {Y : mk_Y} {av : List Value} {ws0 w1 : va_W} {res : Option Value} {mc ms : Nat} {own : String}
    (hy : plainName y.cls = true) (ho : y.cls = own) (hav : (lg_sl av).length ≤ nL)
    (body : ∀ (sz : Nat) (p : Program) (e : Env) (s : State) (m : MethodId) (args : Array Value) (below : List Frame) (meth : Method) (c : Code) (A : Nat → Prop), mk_Cx p s m args c cc nL own D tys X Y A → meth.sig.returnType = ret → meth.locks = false → meth.name = y.name →
      mk_Go p l e (headSpec (mk_ws y cc nL ret) rm).room s m args below meth c D A nL 0 0 (MQ below (mk_Q res D w1 A) args s mc ms A) 0 ws0 (lv_args 0 av) []) :
    mk_Met l y cc nL ret rm D tys X Y av ws0 w1 res mc ms := by
  intro sz
  refine Met.ofW (cc := cc) (maxL := nL) (ret := ret) hy rfl ?_
  intro p e s m args below meth c s₁ B hml hv
  obtain ⟨rfl, hsz, hP, hK, hD0, hE⟩ := hv
  have hown : s.vm.findClass own = some m.cls := by rw [← ho]; exact findClass_of_methodNamed B.named
  subst hsz
  have hD := hD0.self (sz := s.heap.size)
  have hA : ∀ q : Nat, s.heap.size ≤ q → va_A ws0 s.heap.size q := fun q h => Or.inr h
  have hl := lv_entry av (n := nL) hav
  rw [lg_entry_eq]
  exact body s.heap.size p e s m _ below meth c _ ⟨⟨B.exec, B.bytes, hml, hown, fun w hw => atoms_spec (ws := mk_ws y cc nL ret) B.pre w (List.mem_cons_of_mem _ hw)⟩, hK, hE, hA⟩ B.returns B.notSynchronized (name_of_methodNamed B.named B.method).1 s.heap [] _ hP hD va_S.rf hl
section MKROWS
variable {p : Program} {l : Launch} {e : Env} {R : Room} {s : State} {m : MethodId} {args : Array Value} {below : List Frame} {meth : Method} {c : Code} {D : va_G} {A : Nat → Prop} {nL cells slots : Nat} {Q : State → Prop} {pc : Nat} {ws : va_W} {lv : mk_L} {st : List Value} {cc : ByteArray} {own : String} {tys : List (ClassId × FieldType)} {X : Nat → Nat} {Y : mk_Y}
theorem mk_lvsub (ks : List Nat) {lv' : mk_L} (h : lv_pick lv ks = lv') (kk : mk_Go p l e R s m args below meth c D A nL cells slots Q pc ws lv' st) : mk_Go p l e R s m args below meth c D A nL cells slots Q pc ws lv st :=
  fun H locs ls hP hD hS hl => kk H locs ls hP hD hS (lv_sub hl ks h)
theorem mk_weq {ws' : va_W} (h : ws = ws') (kk : mk_Go p l e R s m args below meth c D A nL cells slots Q pc ws' lv st) : mk_Go p l e R s m args below meth c D A nL cells slots Q pc ws lv st := h ▸ kk
theorem mk_topi {x y : Int32} (h : x = y) (kk : mk_Go p l e R s m args below meth c D A nL cells slots Q pc ws lv (.int y :: st)) : mk_Go p l e R s m args below meth c D A nL cells slots Q pc ws lv (.int x :: st) := h ▸ kk
theorem mk_iconst (C : mk_Cx p s m args c cc nL own D tys X Y A) {n : Int} {v : Int32} (hdg : decode cc pc = .ok (.iconst n, 1)) (hv : Int32.ofInt n = v) (kk : mk_Go p l e R s m args below meth c D A nL cells slots Q (pc + 1) ws lv (.int v :: st)) : mk_Go p l e R s m args below meth c D A nL cells slots Q pc ws lv (st) :=
  fun H locs ls hP hD hS hl => lv_iconst C.1.1 C.1.2.1 hdg hv (kk H locs ls hP hD hS hl)
theorem mk_bipush (C : mk_Cx p s m args c cc nL own D tys X Y A) {n : Int} {v : Int32} (hdg : decode cc pc = .ok (.bipush n, 2)) (hv : (Int8.ofInt n).toInt32 = v) (kk : mk_Go p l e R s m args below meth c D A nL cells slots Q (pc + 2) ws lv (.int v :: st)) : mk_Go p l e R s m args below meth c D A nL cells slots Q pc ws lv (st) :=
  fun H locs ls hP hD hS hl => lv_bipush C.1.1 C.1.2.1 hdg hv (kk H locs ls hP hD hS hl)
theorem mk_sipush (C : mk_Cx p s m args c cc nL own D tys X Y A) {n : Int} {v : Int32} (hdg : decode cc pc = .ok (.sipush n, 3)) (hv : (Int16.ofInt n).toInt32 = v) (kk : mk_Go p l e R s m args below meth c D A nL cells slots Q (pc + 3) ws lv (.int v :: st)) : mk_Go p l e R s m args below meth c D A nL cells slots Q pc ws lv (st) :=
  fun H locs ls hP hD hS hl => lv_sipush C.1.1 C.1.2.1 hdg hv (kk H locs ls hP hD hS hl)
theorem mk_lconst (C : mk_Cx p s m args c cc nL own D tys X Y A) {n : Fin 2} {v : Int64} (hdg : decode cc pc = .ok (.lconst n, 1)) (hv : Int64.ofNat (n : Nat) = v) (kk : mk_Go p l e R s m args below meth c D A nL cells slots Q (pc + 1) ws lv (.long v :: st)) : mk_Go p l e R s m args below meth c D A nL cells slots Q pc ws lv (st) :=
  fun H locs ls hP hD hS hl => lv_lconst C.1.1 C.1.2.1 hdg hv (kk H locs ls hP hD hS hl)
theorem mk_iload_n (C : mk_Cx p s m args c cc nL own D tys X Y A) {k : Fin 4} {x : Int32} (j : Nat) (hdg : decode cc pc = .ok (.iload_n k, 1)) (hj : lv[j]? = some ((k : Nat), .int x)) (kk : mk_Go p l e R s m args below meth c D A nL cells slots Q (pc + 1) ws lv (.int x :: st)) : mk_Go p l e R s m args below meth c D A nL cells slots Q pc ws lv st :=
  fun H locs ls hP hD hS hl => lv_iload_n C.1.1 C.1.2.1 hdg rfl (lv_at hl j hj) (kk H locs ls hP hD hS hl)
theorem mk_iload (C : mk_Cx p s m args c cc nL own D tys X Y A) {i : Nat} {x : Int32} (j : Nat) (hdg : decode cc pc = .ok (.iload i, 2)) (hj : lv[j]? = some (i, .int x)) (kk : mk_Go p l e R s m args below meth c D A nL cells slots Q (pc + 2) ws lv (.int x :: st)) : mk_Go p l e R s m args below meth c D A nL cells slots Q pc ws lv st :=
  fun H locs ls hP hD hS hl => lv_iload C.1.1 C.1.2.1 hdg (lv_at hl j hj) (kk H locs ls hP hD hS hl)
theorem mk_lload_n (C : mk_Cx p s m args c cc nL own D tys X Y A) {k : Fin 4} {x : Int64} (j : Nat) (hdg : decode cc pc = .ok (.lload_n k, 1)) (hj : lv[j]? = some ((k : Nat), .long x)) (kk : mk_Go p l e R s m args below meth c D A nL cells slots Q (pc + 1) ws lv (.long x :: st)) : mk_Go p l e R s m args below meth c D A nL cells slots Q pc ws lv st :=
  fun H locs ls hP hD hS hl => lv_lload_n C.1.1 C.1.2.1 hdg rfl (lv_at hl j hj) (kk H locs ls hP hD hS hl)
theorem mk_lload (C : mk_Cx p s m args c cc nL own D tys X Y A) {i : Nat} {x : Int64} (j : Nat) (hdg : decode cc pc = .ok (.lload i, 2)) (hj : lv[j]? = some (i, .long x)) (kk : mk_Go p l e R s m args below meth c D A nL cells slots Q (pc + 2) ws lv (.long x :: st)) : mk_Go p l e R s m args below meth c D A nL cells slots Q pc ws lv st :=
  fun H locs ls hP hD hS hl => lv_lload C.1.1 C.1.2.1 hdg (lv_at hl j hj) (kk H locs ls hP hD hS hl)
theorem mk_aload_n (C : mk_Cx p s m args c cc nL own D tys X Y A) {k : Fin 4} {x : Nat} (j : Nat) (hdg : decode cc pc = .ok (.aload_n k, 1)) (hj : lv[j]? = some ((k : Nat), .ref x)) (kk : mk_Go p l e R s m args below meth c D A nL cells slots Q (pc + 1) ws lv (.ref x :: st)) : mk_Go p l e R s m args below meth c D A nL cells slots Q pc ws lv st :=
  fun H locs ls hP hD hS hl => lv_aload_n C.1.1 C.1.2.1 hdg rfl (lv_at hl j hj) (kk H locs ls hP hD hS hl)
theorem mk_aload (C : mk_Cx p s m args c cc nL own D tys X Y A) {i : Nat} {x : Nat} (j : Nat) (hdg : decode cc pc = .ok (.aload i, 2)) (hj : lv[j]? = some (i, .ref x)) (kk : mk_Go p l e R s m args below meth c D A nL cells slots Q (pc + 2) ws lv (.ref x :: st)) : mk_Go p l e R s m args below meth c D A nL cells slots Q pc ws lv st :=
  fun H locs ls hP hD hS hl => lv_aload C.1.1 C.1.2.1 hdg (lv_at hl j hj) (kk H locs ls hP hD hS hl)
theorem mk_istore_n (C : mk_Cx p s m args c cc nL own D tys X Y A) {k : Fin 4} {x : Int32} {lv' : mk_L} (hdg : decode cc pc = .ok (.istore_n k, 1)) (hn : (k : Nat) < nL) (hl' : ((k : Nat), Value.int x) :: lv.filter (fun q => !(q.1 == (k : Nat)) && !(q.1 + 1 == (k : Nat) && q.2.category == 2)) = lv') (kk : mk_Go p l e R s m args below meth c D A nL cells slots Q (pc + 1) ws lv' st) : mk_Go p l e R s m args below meth c D A nL cells slots Q pc ws lv (.int x :: st) :=
  fun H locs ls hP hD hS hl => lv_istore_n C.1.1 C.1.2.1 hdg rfl hl hn hl' (fun ls' h' => kk H locs ls' hP hD hS h')
theorem mk_istore (C : mk_Cx p s m args c cc nL own D tys X Y A) {i : Nat} {x : Int32} {lv' : mk_L} (hdg : decode cc pc = .ok (.istore i, 2)) (hn : i < nL) (hl' : (i, Value.int x) :: lv.filter (fun q => !(q.1 == i) && !(q.1 + 1 == i && q.2.category == 2)) = lv') (kk : mk_Go p l e R s m args below meth c D A nL cells slots Q (pc + 2) ws lv' st) : mk_Go p l e R s m args below meth c D A nL cells slots Q pc ws lv (.int x :: st) :=
  fun H locs ls hP hD hS hl => lv_istore C.1.1 C.1.2.1 hdg hl hn hl' (fun ls' h' => kk H locs ls' hP hD hS h')
theorem mk_lstore_n (C : mk_Cx p s m args c cc nL own D tys X Y A) {k : Fin 4} {x : Int64} {lv' : mk_L} (hdg : decode cc pc = .ok (.lstore_n k, 1)) (hn : (k : Nat) + 1 < nL) (hl' : ((k : Nat), Value.long x) :: lv.filter (fun q => !(q.1 == (k : Nat)) && (!(q.1 == (k : Nat) + 1) && !(q.1 + 1 == (k : Nat) && q.2.category == 2))) = lv') (kk : mk_Go p l e R s m args below meth c D A nL cells slots Q (pc + 1) ws lv' st) : mk_Go p l e R s m args below meth c D A nL cells slots Q pc ws lv (.long x :: st) :=
  fun H locs ls hP hD hS hl => lv_lstore_n C.1.1 C.1.2.1 hdg rfl hl hn hl' (fun ls' h' => kk H locs ls' hP hD hS h')
theorem mk_lstore (C : mk_Cx p s m args c cc nL own D tys X Y A) {i : Nat} {x : Int64} {lv' : mk_L} (hdg : decode cc pc = .ok (.lstore i, 2)) (hn : i + 1 < nL) (hl' : (i, Value.long x) :: lv.filter (fun q => !(q.1 == i) && (!(q.1 == i + 1) && !(q.1 + 1 == i && q.2.category == 2))) = lv') (kk : mk_Go p l e R s m args below meth c D A nL cells slots Q (pc + 2) ws lv' st) : mk_Go p l e R s m args below meth c D A nL cells slots Q pc ws lv (.long x :: st) :=
  fun H locs ls hP hD hS hl => lv_lstore C.1.1 C.1.2.1 hdg hl hn hl' (fun ls' h' => kk H locs ls' hP hD hS h')
theorem mk_astore_n (C : mk_Cx p s m args c cc nL own D tys X Y A) {k : Fin 4} {x : Nat} {lv' : mk_L} (hdg : decode cc pc = .ok (.astore_n k, 1)) (hn : (k : Nat) < nL) (hl' : ((k : Nat), Value.ref x) :: lv.filter (fun q => !(q.1 == (k : Nat)) && !(q.1 + 1 == (k : Nat) && q.2.category == 2)) = lv') (kk : mk_Go p l e R s m args below meth c D A nL cells slots Q (pc + 1) ws lv' st) : mk_Go p l e R s m args below meth c D A nL cells slots Q pc ws lv (.ref x :: st) :=
  fun H locs ls hP hD hS hl => lv_astore_n C.1.1 C.1.2.1 hdg rfl hl hn hl' (fun ls' h' => kk H locs ls' hP hD hS h')
theorem mk_astore (C : mk_Cx p s m args c cc nL own D tys X Y A) {i : Nat} {x : Nat} {lv' : mk_L} (hdg : decode cc pc = .ok (.astore i, 2)) (hn : i < nL) (hl' : (i, Value.ref x) :: lv.filter (fun q => !(q.1 == i) && !(q.1 + 1 == i && q.2.category == 2)) = lv') (kk : mk_Go p l e R s m args below meth c D A nL cells slots Q (pc + 2) ws lv' st) : mk_Go p l e R s m args below meth c D A nL cells slots Q pc ws lv (.ref x :: st) :=
  fun H locs ls hP hD hS hl => lv_astore C.1.1 C.1.2.1 hdg hl hn hl' (fun ls' h' => kk H locs ls' hP hD hS h')
theorem mk_iinc (C : mk_Cx p s m args c cc nL own D tys X Y A) {i : Nat} {n : Int} {x v : Int32} {lv' : mk_L} (j : Nat) (hdg : decode cc pc = .ok (.iinc i n, 3)) (hj : lv[j]? = some (i, .int x)) (hv : x + Int32.ofInt n = v) (hn : i < nL) (hl' : (i, Value.int v) :: lv.filter (fun q => !(q.1 == i) && !(q.1 + 1 == i && q.2.category == 2)) = lv') (kk : mk_Go p l e R s m args below meth c D A nL cells slots Q (pc + 3) ws lv' st) : mk_Go p l e R s m args below meth c D A nL cells slots Q pc ws lv st :=
  fun H locs ls hP hD hS hl => lv_iinc C.1.1 C.1.2.1 hdg hl hj hv hn hl' (fun ls' h' => kk H locs ls' hP hD hS h')
theorem mk_dup (C : mk_Cx p s m args c cc nL own D tys X Y A) {v : Value} (hdg : decode cc pc = .ok (.dup, 1)) (hc : v.category = 1) (kk : mk_Go p l e R s m args below meth c D A nL cells slots Q (pc + 1) ws lv (v :: v :: st)) : mk_Go p l e R s m args below meth c D A nL cells slots Q pc ws lv (v :: st) :=
  fun H locs ls hP hD hS hl => lv_dup C.1.1 C.1.2.1 hdg hc (kk H locs ls hP hD hS hl)
theorem mk_pop (C : mk_Cx p s m args c cc nL own D tys X Y A) {v : Value} (hdg : decode cc pc = .ok (.pop, 1)) (hc : v.category = 1) (kk : mk_Go p l e R s m args below meth c D A nL cells slots Q (pc + 1) ws lv (st)) : mk_Go p l e R s m args below meth c D A nL cells slots Q pc ws lv (v :: st) :=
  fun H locs ls hP hD hS hl => lv_pop C.1.1 C.1.2.1 hdg hc (kk H locs ls hP hD hS hl)
theorem mk_iadd (C : mk_Cx p s m args c cc nL own D tys X Y A) {x y : Int32} (hdg : decode cc pc = .ok (.iadd, 1)) (kk : mk_Go p l e R s m args below meth c D A nL cells slots Q (pc + 1) ws lv (.int (x + y) :: st)) : mk_Go p l e R s m args below meth c D A nL cells slots Q pc ws lv (.int y :: .int x :: st) :=
  fun H locs ls hP hD hS hl => lv_iadd C.1.1 C.1.2.1 hdg (kk H locs ls hP hD hS hl)
theorem mk_isub (C : mk_Cx p s m args c cc nL own D tys X Y A) {x y : Int32} (hdg : decode cc pc = .ok (.isub, 1)) (kk : mk_Go p l e R s m args below meth c D A nL cells slots Q (pc + 1) ws lv (.int (x - y) :: st)) : mk_Go p l e R s m args below meth c D A nL cells slots Q pc ws lv (.int y :: .int x :: st) :=
  fun H locs ls hP hD hS hl => lv_isub C.1.1 C.1.2.1 hdg (kk H locs ls hP hD hS hl)
theorem mk_imul (C : mk_Cx p s m args c cc nL own D tys X Y A) {x y : Int32} (hdg : decode cc pc = .ok (.imul, 1)) (kk : mk_Go p l e R s m args below meth c D A nL cells slots Q (pc + 1) ws lv (.int (x * y) :: st)) : mk_Go p l e R s m args below meth c D A nL cells slots Q pc ws lv (.int y :: .int x :: st) :=
  fun H locs ls hP hD hS hl => lv_imul C.1.1 C.1.2.1 hdg (kk H locs ls hP hD hS hl)
theorem mk_iand (C : mk_Cx p s m args c cc nL own D tys X Y A) {x y : Int32} (hdg : decode cc pc = .ok (.iand, 1)) (kk : mk_Go p l e R s m args below meth c D A nL cells slots Q (pc + 1) ws lv (.int (x &&& y) :: st)) : mk_Go p l e R s m args below meth c D A nL cells slots Q pc ws lv (.int y :: .int x :: st) :=
  fun H locs ls hP hD hS hl => lv_iand C.1.1 C.1.2.1 hdg (kk H locs ls hP hD hS hl)
theorem mk_ior (C : mk_Cx p s m args c cc nL own D tys X Y A) {x y : Int32} (hdg : decode cc pc = .ok (.ior, 1)) (kk : mk_Go p l e R s m args below meth c D A nL cells slots Q (pc + 1) ws lv (.int (x ||| y) :: st)) : mk_Go p l e R s m args below meth c D A nL cells slots Q pc ws lv (.int y :: .int x :: st) :=
  fun H locs ls hP hD hS hl => lv_ior C.1.1 C.1.2.1 hdg (kk H locs ls hP hD hS hl)
theorem mk_ixor (C : mk_Cx p s m args c cc nL own D tys X Y A) {x y : Int32} (hdg : decode cc pc = .ok (.ixor, 1)) (kk : mk_Go p l e R s m args below meth c D A nL cells slots Q (pc + 1) ws lv (.int (x ^^^ y) :: st)) : mk_Go p l e R s m args below meth c D A nL cells slots Q pc ws lv (.int y :: .int x :: st) :=
  fun H locs ls hP hD hS hl => lv_ixor C.1.1 C.1.2.1 hdg (kk H locs ls hP hD hS hl)
theorem mk_ishl (C : mk_Cx p s m args c cc nL own D tys X Y A) {x y : Int32} (hdg : decode cc pc = .ok (.ishl, 1)) (kk : mk_Go p l e R s m args below meth c D A nL cells slots Q (pc + 1) ws lv (.int (x <<< (y &&& 31)) :: st)) : mk_Go p l e R s m args below meth c D A nL cells slots Q pc ws lv (.int y :: .int x :: st) :=
  fun H locs ls hP hD hS hl => lv_ishl C.1.1 C.1.2.1 hdg (kk H locs ls hP hD hS hl)
theorem mk_ishr (C : mk_Cx p s m args c cc nL own D tys X Y A) {x y : Int32} (hdg : decode cc pc = .ok (.ishr, 1)) (kk : mk_Go p l e R s m args below meth c D A nL cells slots Q (pc + 1) ws lv (.int (x >>> (y &&& 31)) :: st)) : mk_Go p l e R s m args below meth c D A nL cells slots Q pc ws lv (.int y :: .int x :: st) :=
  fun H locs ls hP hD hS hl => lv_ishr C.1.1 C.1.2.1 hdg (kk H locs ls hP hD hS hl)
theorem mk_iushr (C : mk_Cx p s m args c cc nL own D tys X Y A) {x y : Int32} (hdg : decode cc pc = .ok (.iushr, 1)) (kk : mk_Go p l e R s m args below meth c D A nL cells slots Q (pc + 1) ws lv (.int ((x.toUInt32 >>> (y.toUInt32 &&& Int32.toUInt32 31)).toInt32) :: st)) : mk_Go p l e R s m args below meth c D A nL cells slots Q pc ws lv (.int y :: .int x :: st) :=
  fun H locs ls hP hD hS hl => lv_iushr C.1.1 C.1.2.1 hdg rfl (kk H locs ls hP hD hS hl)
theorem mk_idiv (C : mk_Cx p s m args c cc nL own D tys X Y A) {x y : Int32} (hdg : decode cc pc = .ok (.idiv, 1)) (hne : ¬ y = 0) (kk : mk_Go p l e R s m args below meth c D A nL cells slots Q (pc + 1) ws lv (.int (x / y) :: st)) : mk_Go p l e R s m args below meth c D A nL cells slots Q pc ws lv (.int y :: .int x :: st) :=
  fun H locs ls hP hD hS hl => lv_idiv C.1.1 C.1.2.1 hdg hne (kk H locs ls hP hD hS hl)
theorem mk_irem (C : mk_Cx p s m args c cc nL own D tys X Y A) {x y : Int32} (hdg : decode cc pc = .ok (.irem, 1)) (hne : ¬ y = 0) (kk : mk_Go p l e R s m args below meth c D A nL cells slots Q (pc + 1) ws lv (.int (x - x / y * y) :: st)) : mk_Go p l e R s m args below meth c D A nL cells slots Q pc ws lv (.int y :: .int x :: st) :=
  fun H locs ls hP hD hS hl => lv_irem C.1.1 C.1.2.1 hdg hne (kk H locs ls hP hD hS hl)
theorem mk_ineg (C : mk_Cx p s m args c cc nL own D tys X Y A) {x : Int32} (hdg : decode cc pc = .ok (.ineg, 1)) (kk : mk_Go p l e R s m args below meth c D A nL cells slots Q (pc + 1) ws lv (.int (-x) :: st)) : mk_Go p l e R s m args below meth c D A nL cells slots Q pc ws lv (.int x :: st) :=
  fun H locs ls hP hD hS hl => lv_ineg C.1.1 C.1.2.1 hdg (kk H locs ls hP hD hS hl)
theorem mk_ladd (C : mk_Cx p s m args c cc nL own D tys X Y A) {x y : Int64} (hdg : decode cc pc = .ok (.ladd, 1)) (kk : mk_Go p l e R s m args below meth c D A nL cells slots Q (pc + 1) ws lv (.long (x + y) :: st)) : mk_Go p l e R s m args below meth c D A nL cells slots Q pc ws lv (.long y :: .long x :: st) :=
  fun H locs ls hP hD hS hl => lv_ladd C.1.1 C.1.2.1 hdg (kk H locs ls hP hD hS hl)
theorem mk_lsub (C : mk_Cx p s m args c cc nL own D tys X Y A) {x y : Int64} (hdg : decode cc pc = .ok (.lsub, 1)) (kk : mk_Go p l e R s m args below meth c D A nL cells slots Q (pc + 1) ws lv (.long (x - y) :: st)) : mk_Go p l e R s m args below meth c D A nL cells slots Q pc ws lv (.long y :: .long x :: st) :=
  fun H locs ls hP hD hS hl => lv_lsub C.1.1 C.1.2.1 hdg (kk H locs ls hP hD hS hl)
theorem mk_lmul (C : mk_Cx p s m args c cc nL own D tys X Y A) {x y : Int64} (hdg : decode cc pc = .ok (.lmul, 1)) (kk : mk_Go p l e R s m args below meth c D A nL cells slots Q (pc + 1) ws lv (.long (x * y) :: st)) : mk_Go p l e R s m args below meth c D A nL cells slots Q pc ws lv (.long y :: .long x :: st) :=
  fun H locs ls hP hD hS hl => lv_lmul C.1.1 C.1.2.1 hdg (kk H locs ls hP hD hS hl)
theorem mk_ldiv (C : mk_Cx p s m args c cc nL own D tys X Y A) {x y : Int64} (hdg : decode cc pc = .ok (.ldiv, 1)) (hne : ¬ y = 0) (kk : mk_Go p l e R s m args below meth c D A nL cells slots Q (pc + 1) ws lv (.long (x / y) :: st)) : mk_Go p l e R s m args below meth c D A nL cells slots Q pc ws lv (.long y :: .long x :: st) :=
  fun H locs ls hP hD hS hl => lv_ldiv C.1.1 C.1.2.1 hdg hne (kk H locs ls hP hD hS hl)
theorem mk_lrem (C : mk_Cx p s m args c cc nL own D tys X Y A) {x y : Int64} (hdg : decode cc pc = .ok (.lrem, 1)) (hne : ¬ y = 0) (kk : mk_Go p l e R s m args below meth c D A nL cells slots Q (pc + 1) ws lv (.long (x - x / y * y) :: st)) : mk_Go p l e R s m args below meth c D A nL cells slots Q pc ws lv (.long y :: .long x :: st) :=
  fun H locs ls hP hD hS hl => lv_lrem C.1.1 C.1.2.1 hdg hne (kk H locs ls hP hD hS hl)
theorem mk_lneg (C : mk_Cx p s m args c cc nL own D tys X Y A) {x : Int64} (hdg : decode cc pc = .ok (.lneg, 1)) (kk : mk_Go p l e R s m args below meth c D A nL cells slots Q (pc + 1) ws lv (.long (-x) :: st)) : mk_Go p l e R s m args below meth c D A nL cells slots Q pc ws lv (.long x :: st) :=
  fun H locs ls hP hD hS hl => lv_lneg C.1.1 C.1.2.1 hdg (kk H locs ls hP hD hS hl)
theorem mk_i2l (C : mk_Cx p s m args c cc nL own D tys X Y A) {x : Int32} (hdg : decode cc pc = .ok (.i2l, 1)) (kk : mk_Go p l e R s m args below meth c D A nL cells slots Q (pc + 1) ws lv (.long x.toInt64 :: st)) : mk_Go p l e R s m args below meth c D A nL cells slots Q pc ws lv (.int x :: st) :=
  fun H locs ls hP hD hS hl => lv_i2l C.1.1 C.1.2.1 hdg rfl (kk H locs ls hP hD hS hl)
theorem mk_if_eq (C : mk_Cx p s m args c cc nL own D tys X Y A) {x : Int32} {off : Int} (tgt : Nat) (hdg : decode cc pc = .ok (.ifCond .eq off, 3)) (ht : (pc : Int) + off = (tgt : Int)) (kt : x = 0 → mk_Go p l e R s m args below meth c D A nL cells slots Q tgt ws lv st) (kf : ¬ x = 0 → mk_Go p l e R s m args below meth c D A nL cells slots Q (pc + 3) ws lv st) : mk_Go p l e R s m args below meth c D A nL cells slots Q pc ws lv (.int x :: st) :=
  fun H locs ls hP hD hS hl => lv_if_eq C.1.1 C.1.2.1 hdg ht (fun h => kt h H locs ls hP hD hS hl) (fun h => kf h H locs ls hP hD hS hl)
theorem mk_if_ne (C : mk_Cx p s m args c cc nL own D tys X Y A) {x : Int32} {off : Int} (tgt : Nat) (hdg : decode cc pc = .ok (.ifCond .ne off, 3)) (ht : (pc : Int) + off = (tgt : Int)) (kt : ¬ x = 0 → mk_Go p l e R s m args below meth c D A nL cells slots Q tgt ws lv st) (kf : x = 0 → mk_Go p l e R s m args below meth c D A nL cells slots Q (pc + 3) ws lv st) : mk_Go p l e R s m args below meth c D A nL cells slots Q pc ws lv (.int x :: st) :=
  fun H locs ls hP hD hS hl => lv_if_ne C.1.1 C.1.2.1 hdg ht (fun h => kt h H locs ls hP hD hS hl) (fun h => kf h H locs ls hP hD hS hl)
theorem mk_if_lt (C : mk_Cx p s m args c cc nL own D tys X Y A) {x : Int32} {off : Int} (tgt : Nat) (hdg : decode cc pc = .ok (.ifCond .lt off, 3)) (ht : (pc : Int) + off = (tgt : Int)) (kt : x < 0 → mk_Go p l e R s m args below meth c D A nL cells slots Q tgt ws lv st) (kf : ¬ x < 0 → mk_Go p l e R s m args below meth c D A nL cells slots Q (pc + 3) ws lv st) : mk_Go p l e R s m args below meth c D A nL cells slots Q pc ws lv (.int x :: st) :=
  fun H locs ls hP hD hS hl => lv_if_lt C.1.1 C.1.2.1 hdg ht (fun h => kt h H locs ls hP hD hS hl) (fun h => kf h H locs ls hP hD hS hl)
theorem mk_if_ge (C : mk_Cx p s m args c cc nL own D tys X Y A) {x : Int32} {off : Int} (tgt : Nat) (hdg : decode cc pc = .ok (.ifCond .ge off, 3)) (ht : (pc : Int) + off = (tgt : Int)) (kt : 0 ≤ x → mk_Go p l e R s m args below meth c D A nL cells slots Q tgt ws lv st) (kf : ¬ 0 ≤ x → mk_Go p l e R s m args below meth c D A nL cells slots Q (pc + 3) ws lv st) : mk_Go p l e R s m args below meth c D A nL cells slots Q pc ws lv (.int x :: st) :=
  fun H locs ls hP hD hS hl => lv_if_ge C.1.1 C.1.2.1 hdg ht (fun h => kt h H locs ls hP hD hS hl) (fun h => kf h H locs ls hP hD hS hl)
theorem mk_if_gt (C : mk_Cx p s m args c cc nL own D tys X Y A) {x : Int32} {off : Int} (tgt : Nat) (hdg : decode cc pc = .ok (.ifCond .gt off, 3)) (ht : (pc : Int) + off = (tgt : Int)) (kt : 0 < x → mk_Go p l e R s m args below meth c D A nL cells slots Q tgt ws lv st) (kf : ¬ 0 < x → mk_Go p l e R s m args below meth c D A nL cells slots Q (pc + 3) ws lv st) : mk_Go p l e R s m args below meth c D A nL cells slots Q pc ws lv (.int x :: st) :=
  fun H locs ls hP hD hS hl => lv_if_gt C.1.1 C.1.2.1 hdg ht (fun h => kt h H locs ls hP hD hS hl) (fun h => kf h H locs ls hP hD hS hl)
theorem mk_if_le (C : mk_Cx p s m args c cc nL own D tys X Y A) {x : Int32} {off : Int} (tgt : Nat) (hdg : decode cc pc = .ok (.ifCond .le off, 3)) (ht : (pc : Int) + off = (tgt : Int)) (kt : x ≤ 0 → mk_Go p l e R s m args below meth c D A nL cells slots Q tgt ws lv st) (kf : ¬ x ≤ 0 → mk_Go p l e R s m args below meth c D A nL cells slots Q (pc + 3) ws lv st) : mk_Go p l e R s m args below meth c D A nL cells slots Q pc ws lv (.int x :: st) :=
  fun H locs ls hP hD hS hl => lv_if_le C.1.1 C.1.2.1 hdg ht (fun h => kt h H locs ls hP hD hS hl) (fun h => kf h H locs ls hP hD hS hl)
theorem mk_icmp_eq (C : mk_Cx p s m args c cc nL own D tys X Y A) {x y : Int32} {off : Int} (tgt : Nat) (hdg : decode cc pc = .ok (.if_icmp .eq off, 3)) (ht : (pc : Int) + off = (tgt : Int)) (kt : x = y → mk_Go p l e R s m args below meth c D A nL cells slots Q tgt ws lv st) (kf : ¬ x = y → mk_Go p l e R s m args below meth c D A nL cells slots Q (pc + 3) ws lv st) : mk_Go p l e R s m args below meth c D A nL cells slots Q pc ws lv (.int y :: .int x :: st) :=
  fun H locs ls hP hD hS hl => lv_icmp_eq C.1.1 C.1.2.1 hdg ht (fun h => kt h H locs ls hP hD hS hl) (fun h => kf h H locs ls hP hD hS hl)
theorem mk_icmp_ne (C : mk_Cx p s m args c cc nL own D tys X Y A) {x y : Int32} {off : Int} (tgt : Nat) (hdg : decode cc pc = .ok (.if_icmp .ne off, 3)) (ht : (pc : Int) + off = (tgt : Int)) (kt : ¬ x = y → mk_Go p l e R s m args below meth c D A nL cells slots Q tgt ws lv st) (kf : x = y → mk_Go p l e R s m args below meth c D A nL cells slots Q (pc + 3) ws lv st) : mk_Go p l e R s m args below meth c D A nL cells slots Q pc ws lv (.int y :: .int x :: st) :=
  fun H locs ls hP hD hS hl => lv_icmp_ne C.1.1 C.1.2.1 hdg ht (fun h => kt h H locs ls hP hD hS hl) (fun h => kf h H locs ls hP hD hS hl)
theorem mk_icmp_lt (C : mk_Cx p s m args c cc nL own D tys X Y A) {x y : Int32} {off : Int} (tgt : Nat) (hdg : decode cc pc = .ok (.if_icmp .lt off, 3)) (ht : (pc : Int) + off = (tgt : Int)) (kt : x < y → mk_Go p l e R s m args below meth c D A nL cells slots Q tgt ws lv st) (kf : ¬ x < y → mk_Go p l e R s m args below meth c D A nL cells slots Q (pc + 3) ws lv st) : mk_Go p l e R s m args below meth c D A nL cells slots Q pc ws lv (.int y :: .int x :: st) :=
  fun H locs ls hP hD hS hl => lv_icmp_lt C.1.1 C.1.2.1 hdg ht (fun h => kt h H locs ls hP hD hS hl) (fun h => kf h H locs ls hP hD hS hl)
theorem mk_icmp_ge (C : mk_Cx p s m args c cc nL own D tys X Y A) {x y : Int32} {off : Int} (tgt : Nat) (hdg : decode cc pc = .ok (.if_icmp .ge off, 3)) (ht : (pc : Int) + off = (tgt : Int)) (kt : y ≤ x → mk_Go p l e R s m args below meth c D A nL cells slots Q tgt ws lv st) (kf : ¬ y ≤ x → mk_Go p l e R s m args below meth c D A nL cells slots Q (pc + 3) ws lv st) : mk_Go p l e R s m args below meth c D A nL cells slots Q pc ws lv (.int y :: .int x :: st) :=
  fun H locs ls hP hD hS hl => lv_icmp_ge C.1.1 C.1.2.1 hdg ht (fun h => kt h H locs ls hP hD hS hl) (fun h => kf h H locs ls hP hD hS hl)
theorem mk_icmp_gt (C : mk_Cx p s m args c cc nL own D tys X Y A) {x y : Int32} {off : Int} (tgt : Nat) (hdg : decode cc pc = .ok (.if_icmp .gt off, 3)) (ht : (pc : Int) + off = (tgt : Int)) (kt : y < x → mk_Go p l e R s m args below meth c D A nL cells slots Q tgt ws lv st) (kf : ¬ y < x → mk_Go p l e R s m args below meth c D A nL cells slots Q (pc + 3) ws lv st) : mk_Go p l e R s m args below meth c D A nL cells slots Q pc ws lv (.int y :: .int x :: st) :=
  fun H locs ls hP hD hS hl => lv_icmp_gt C.1.1 C.1.2.1 hdg ht (fun h => kt h H locs ls hP hD hS hl) (fun h => kf h H locs ls hP hD hS hl)
theorem mk_icmp_le (C : mk_Cx p s m args c cc nL own D tys X Y A) {x y : Int32} {off : Int} (tgt : Nat) (hdg : decode cc pc = .ok (.if_icmp .le off, 3)) (ht : (pc : Int) + off = (tgt : Int)) (kt : x ≤ y → mk_Go p l e R s m args below meth c D A nL cells slots Q tgt ws lv st) (kf : ¬ x ≤ y → mk_Go p l e R s m args below meth c D A nL cells slots Q (pc + 3) ws lv st) : mk_Go p l e R s m args below meth c D A nL cells slots Q pc ws lv (.int y :: .int x :: st) :=
  fun H locs ls hP hD hS hl => lv_icmp_le C.1.1 C.1.2.1 hdg ht (fun h => kt h H locs ls hP hD hS hl) (fun h => kf h H locs ls hP hD hS hl)
theorem mk_goto (C : mk_Cx p s m args c cc nL own D tys X Y A) {off : Int} (tgt : Nat) (hdg : decode cc pc = .ok (.goto off, 3)) (ht : (pc : Int) + off = (tgt : Int)) (kk : mk_Go p l e R s m args below meth c D A nL cells slots Q tgt ws lv st) : mk_Go p l e R s m args below meth c D A nL cells slots Q pc ws lv st :=
  fun H locs ls hP hD hS hl => lv_goto C.1.1 C.1.2.1 hdg ht (kk H locs ls hP hD hS hl)
theorem mk_lcmp (C : mk_Cx p s m args c cc nL own D tys X Y A) {x y : Int64} (hdg : decode cc pc = .ok (.lcmp, 1)) (kk : mk_Go p l e R s m args below meth c D A nL cells slots Q (pc + 1) ws lv (.int (lg_cmp x y) :: st)) : mk_Go p l e R s m args below meth c D A nL cells slots Q pc ws lv (.long y :: .long x :: st) :=
  fun H locs ls hP hD hS hl => W.lcmp C.1.1 C.1.2.1 hdg (kk H locs ls hP hD hS hl)
theorem mk_dup2 (C : mk_Cx p s m args c cc nL own D tys X Y A) {va vb : Value} (hdg : decode cc pc = .ok (.dup2, 1)) (ha : va.category = 1) (hb : vb.category = 1) (kk : mk_Go p l e R s m args below meth c D A nL cells slots Q (pc + 1) ws lv (va :: vb :: va :: vb :: st)) : mk_Go p l e R s m args below meth c D A nL cells slots Q pc ws lv (va :: vb :: st) :=
  fun H locs ls hP hD hS hl => lv_dup2_11 C.1.1 C.1.2.1 hdg ha hb (kk H locs ls hP hD hS hl)
theorem mk_ldc (C : mk_Cx p s m args c cc nL own D tys X Y A) {index : Nat} {v : Int32} (hw : Jvm.Cond.constant own index v ∈ mk_WL) (hdg : decode cc pc = .ok (.ldc index, 2)) (kk : mk_Go p l e R s m args below meth c D A nL cells slots Q (pc + 2) ws lv (.int v :: st)) : mk_Go p l e R s m args below meth c D A nL cells slots Q pc ws lv st :=
  fun H locs ls hP hD hS hl => lv_ldc C.1.1 C.1.2.1 C.1.2.2.2.1 (C.1.2.2.2.2 _ hw) hdg (kk H locs ls hP hD hS hl)
theorem mk_ldcw (C : mk_Cx p s m args c cc nL own D tys X Y A) {index : Nat} {v : Int32} (hw : Jvm.Cond.constant own index v ∈ mk_WL) (hdg : decode cc pc = .ok (.ldc_w index, 3)) (kk : mk_Go p l e R s m args below meth c D A nL cells slots Q (pc + 3) ws lv (.int v :: st)) : mk_Go p l e R s m args below meth c D A nL cells slots Q pc ws lv st :=
  fun H locs ls hP hD hS hl => lv_ldcw C.1.1 C.1.2.1 C.1.2.2.2.1 (C.1.2.2.2.2 _ hw) hdg (kk H locs ls hP hD hS hl)
theorem mk_ldc2 (C : mk_Cx p s m args c cc nL own D tys X Y A) {index : Nat} {v : Int64} (hw : Jvm.Cond.constantLong own index v ∈ mk_WL) (hdg : decode cc pc = .ok (.ldc2_w index, 3)) (kk : mk_Go p l e R s m args below meth c D A nL cells slots Q (pc + 3) ws lv (.long v :: st)) : mk_Go p l e R s m args below meth c D A nL cells slots Q pc ws lv st :=
  fun H locs ls hP hD hS hl => lv_ldc2 C.1.1 C.1.2.1 C.1.2.2.2.1 (C.1.2.2.2.2 _ hw) hdg (kk H locs ls hP hD hS hl)
theorem mk_ldcS (C : mk_Cx p s m args c cc nL own D tys X Y A) {index k : Nat} (hw : (own, index, k) ∈ mk_lits) (hdg : decode cc pc = .ok (.ldc index, 2)) (kk : mk_Go p l e R s m args below meth c D A nL cells slots Q (pc + 2) ws lv (.ref (X k) :: st)) : mk_Go p l e R s m args below meth c D A nL cells slots Q pc ws lv st :=
  fun H locs ls hP hD hS hl => va_ldcS C.1.1 C.1.2.1 C.1.2.2.2.1 (C.2.2.1.1.2.2.2.1 _ hw) hdg (kk H locs ls hP hD hS hl)
theorem mk_get (C : mk_Cx p s m args c cc nL own D tys X Y A) {a : Nat} {Cn : String} {T : u_T} {N ci index : Nat} (hin : ∀ w ∈ u_ws Cn T N, w ∈ mk_WL) (q0 : Nat) {fs : List Value} (he : ws[q0]? = some (a, .inr (ci, fs))) (hc : vwCl[ci]? = some (Cn, T, N)) (k : Nat) (hk : k < N) (hlink : Cond.fieldLink own index (T k).1 (T k).2.1 (T k).2.2.1 ∈ mk_WL) {v : Value} (hv : fs[k]? = some v) (hdg : decode cc pc = .ok (.getfield index, 3)) (kk : mk_Go p l e R s m args below meth c D A nL cells slots Q (pc + 3) ws lv (v :: st)) : mk_Go p l e R s m args below meth c D A nL cells slots Q pc ws lv (.ref a :: st) :=
  fun H locs ls hP hD hS hl => va_get C.1.1 C.1.2.1 C.1.2.2.2.2 hin C.1.2.2.2.1 C.2.1 hP q0 he hc k hk (C.1.2.2.2.2 _ hlink) (fun _ h9 => h9) hv hdg (kk H locs ls hP hD hS hl)
theorem mk_put (C : mk_Cx p s m args c cc nL own D tys X Y A) {a : Nat} {Cn : String} {T : u_T} {N ci index : Nat} (hin : ∀ w ∈ u_ws Cn T N, w ∈ mk_WL) (ty0 : Nat → FieldType) (hty : ∀ k, k < N → parseFieldDescriptor (T k).2.2.1 = some (ty0 k)) (hnm : ∀ a, a < N → ∀ b, b < N → a ≠ b → (T a).2.1 ≠ (T b).2.1) (q0 : Nat) {fs : List Value} (he : ws[q0]? = some (a, .inr (ci, fs))) (hc : vwCl[ci]? = some (Cn, T, N)) (k : Nat) (hk : k < N) (hlink : Cond.fieldLink own index (T k).1 (T k).2.1 (T k).2.2.1 ∈ mk_WL) (hfin : (T k).2.2.2 = false) {v : Value} (hn : narrow (ty0 k) v = v) (hfit : fits (ty0 k) v = true) (hlen : k < fs.length) {ws' : va_W} (hw : ws.set q0 (a, .inr (ci, fs.set k v)) = ws') (hdg : decode cc pc = .ok (.putfield index, 3)) (kk : mk_Go p l e R s m args below meth c D A nL cells slots Q (pc + 3) ws' lv st) : mk_Go p l e R s m args below meth c D A nL cells slots Q pc ws lv (v :: .ref a :: st) :=
  fun H locs ls hP hD hS hl => va_put C.1.1 C.1.2.1 C.1.2.2.2.2 hin ty0 hty hnm C.1.2.2.2.1 C.2.1 hP hD hS q0 he hc k hk (C.1.2.2.2.2 _ hlink) (fun _ h9 => h9) hfin (hty k hk) hn hfit hlen hdg (fun H1 locs1 hP1 hD1 hS1 => kk H1 locs1 ls (hw ▸ hP1) (hw ▸ hD1) hS1 hl)
theorem mk_putF (C : mk_Cx p s m args c cc nL own D tys X Y A) (hin2 : meth.name = "<init>") {a : Nat} {Cn : String} {T : u_T} {N ci index : Nat} (hin : ∀ w ∈ u_ws Cn T N, w ∈ mk_WL) (ty0 : Nat → FieldType) (hty : ∀ k, k < N → parseFieldDescriptor (T k).2.2.1 = some (ty0 k)) (hnm : ∀ a, a < N → ∀ b, b < N → a ≠ b → (T a).2.1 ≠ (T b).2.1) (q0 : Nat) {fs : List Value} (he : ws[q0]? = some (a, .inr (ci, fs))) (hc : vwCl[ci]? = some (Cn, T, N)) (k : Nat) (hk : k < N) (hlink : Cond.fieldLink own index (T k).1 (T k).2.1 (T k).2.2.1 ∈ mk_WL) (hfin : (T k).2.2.2 = true) (hdecl : (T k).1 = own) {v : Value} (hn : narrow (ty0 k) v = v) (hfit : fits (ty0 k) v = true) (hlen : k < fs.length) {ws' : va_W} (hw : ws.set q0 (a, .inr (ci, fs.set k v)) = ws') (hdg : decode cc pc = .ok (.putfield index, 3)) (kk : mk_Go p l e R s m args below meth c D A nL cells slots Q (pc + 3) ws' lv st) : mk_Go p l e R s m args below meth c D A nL cells slots Q pc ws lv (v :: .ref a :: st) :=
  fun H locs ls hP hD hS hl => va_putF C.1.1 C.1.2.1 C.1.2.2.2.2 hin ty0 hty hnm C.1.2.2.2.1 C.2.1 hP hD hS q0 he hc k hk (C.1.2.2.2.2 _ hlink) (fun _ h9 => h9) hfin hin2 hdecl (hty k hk) hn hfit hlen hdg (fun H1 locs1 hP1 hD1 hS1 => kk H1 locs1 ls (hw ▸ hP1) (hw ▸ hD1) hS1 hl)
theorem mk_iald (C : mk_Cx p s m args c cc nL own D tys X Y A) {a : Nat} (q0 t0 : Nat) {cA : ClassId} {n : Nat} {f : Nat → Int32} (ha : ws[q0]? = some (a, .inl (cA, n, .inl f))) (ht : tys[t0]? = some (cA, .int)) {i : Int32} (hin : vp_in i n) {j : Nat} (hj : i.toNatClampNeg = j) (hdg : decode cc pc = .ok (.iaload, 1)) (kk : mk_Go p l e R s m args below meth c D A nL cells slots Q (pc + 1) ws lv (.int (f j) :: st)) : mk_Go p l e R s m args below meth c D A nL cells slots Q pc ws lv (.int i :: .ref a :: st) :=
  by
  subst hj
  exact fun H locs ls hP hD hS hl => va_iald C.1.1 C.1.2.1 C.2.1 hP q0 t0 ha ht hin hdg (kk H locs ls hP hD hS hl)
theorem mk_iast (C : mk_Cx p s m args c cc nL own D tys X Y A) {a : Nat} (q0 t0 : Nat) {cA : ClassId} {n : Nat} {f : Nat → Int32} (ha : ws[q0]? = some (a, .inl (cA, n, .inl f))) (ht : tys[t0]? = some (cA, .int)) {i : Int32} {x : Int32} (hin : vp_in i n) {j : Nat} (hj : i.toNatClampNeg = j) {ws' : va_W} (hw : ws.set q0 (a, .inl (cA, n, .inl (upd f j x))) = ws') (hdg : decode cc pc = .ok (.iastore, 1)) (kk : mk_Go p l e R s m args below meth c D A nL cells slots Q (pc + 1) ws' lv st) : mk_Go p l e R s m args below meth c D A nL cells slots Q pc ws lv (.int x :: .int i :: .ref a :: st) :=
  by
  subst hj
  exact fun H locs ls hP hD hS hl => va_iast C.1.1 C.1.2.1 C.2.1 hP hD hS q0 t0 ha ht hin hdg (fun H1 locs1 hP1 hD1 hS1 => kk H1 locs1 ls (hw ▸ hP1) (hw ▸ hD1) hS1 hl)
theorem mk_lald (C : mk_Cx p s m args c cc nL own D tys X Y A) {a : Nat} (q0 t0 : Nat) {cA : ClassId} {n : Nat} {f : Nat → Int64} (ha : ws[q0]? = some (a, .inl (cA, n, .inr (.inl f)))) (ht : tys[t0]? = some (cA, .long)) {i : Int32} (hin : vp_in i n) {j : Nat} (hj : i.toNatClampNeg = j) (hdg : decode cc pc = .ok (.laload, 1)) (kk : mk_Go p l e R s m args below meth c D A nL cells slots Q (pc + 1) ws lv (.long (f j) :: st)) : mk_Go p l e R s m args below meth c D A nL cells slots Q pc ws lv (.int i :: .ref a :: st) :=
  by
  subst hj
  exact fun H locs ls hP hD hS hl => va_lald C.1.1 C.1.2.1 C.2.1 hP q0 t0 ha ht hin hdg (kk H locs ls hP hD hS hl)
theorem mk_last (C : mk_Cx p s m args c cc nL own D tys X Y A) {a : Nat} (q0 t0 : Nat) {cA : ClassId} {n : Nat} {f : Nat → Int64} (ha : ws[q0]? = some (a, .inl (cA, n, .inr (.inl f)))) (ht : tys[t0]? = some (cA, .long)) {i : Int32} {x : Int64} (hin : vp_in i n) {j : Nat} (hj : i.toNatClampNeg = j) {ws' : va_W} (hw : ws.set q0 (a, .inl (cA, n, .inr (.inl (vp_updL f j x)))) = ws') (hdg : decode cc pc = .ok (.lastore, 1)) (kk : mk_Go p l e R s m args below meth c D A nL cells slots Q (pc + 1) ws' lv st) : mk_Go p l e R s m args below meth c D A nL cells slots Q pc ws lv (.long x :: .int i :: .ref a :: st) :=
  by
  subst hj
  exact fun H locs ls hP hD hS hl => va_last C.1.1 C.1.2.1 C.2.1 hP hD hS q0 t0 ha ht hin hdg (fun H1 locs1 hP1 hD1 hS1 => kk H1 locs1 ls (hw ▸ hP1) (hw ▸ hD1) hS1 hl)
theorem mk_alen (C : mk_Cx p s m args c cc nL own D tys X Y A) {a : Nat} (q0 t0 : Nat) {cA : ClassId} {x : vp_A} (ha : ws[q0]? = some (a, .inl (cA, x))) {ty : FieldType} (ht : tys[t0]? = some (cA, ty)) {v : Int32} (hv : Int32.ofNat x.1 = v) (hdg : decode cc pc = .ok (.arraylength, 1)) (kk : mk_Go p l e R s m args below meth c D A nL cells slots Q (pc + 1) ws lv (.int v :: st)) : mk_Go p l e R s m args below meth c D A nL cells slots Q pc ws lv (.ref a :: st) :=
  fun H locs ls hP hD hS hl => va_alen C.1.1 C.1.2.1 C.2.1 hP q0 t0 ha ht hv hdg (kk H locs ls hP hD hS hl)
theorem mk_iret (C : mk_Cx p s m args c cc nL own D tys X Y A) (hr : meth.sig.returnType = some .int) (hlocks : meth.locks = false) {v r : Int32} (hv : v = r) {w1 : va_W} (hw : ws = w1) (hdg : decode cc pc = .ok (.ireturn, 1)) : mk_Go p l e R s m args below meth c D A nL cells slots (MQ below (mk_Q (some (.int r)) D w1 A) args s cells slots A) pc ws lv [.int v] :=
  fun H locs ls hP hD hS hl => by
    subst hw
    subst hv
    exact W.iret C.1.1 C.1.2.1 hr (fun t ht hW => ⟨⟨rfl, by rw [ht]; exact hP, hD⟩, hS.F ht⟩) hS.2.2 hdg hlocks
theorem mk_lret (C : mk_Cx p s m args c cc nL own D tys X Y A) (hr : meth.sig.returnType = some .long) (hlocks : meth.locks = false) {v r : Int64} (hv : v = r) {w1 : va_W} (hw : ws = w1) (hdg : decode cc pc = .ok (.lreturn, 1)) : mk_Go p l e R s m args below meth c D A nL cells slots (MQ below (mk_Q (some (.long r)) D w1 A) args s cells slots A) pc ws lv [.long v] :=
  fun H locs ls hP hD hS hl => by
    subst hw
    subst hv
    exact W.lret C.1.1 C.1.2.1 hr (fun t ht hW => ⟨⟨rfl, by rw [ht]; exact hP, hD⟩, hS.F ht⟩) hS.2.2 hdg hlocks
theorem mk_vret (C : mk_Cx p s m args c cc nL own D tys X Y A) (hr : meth.sig.returnType = none) (hlocks : meth.locks = false) {w1 : va_W} (hw : ws = w1) (hdg : decode cc pc = .ok (.return_, 1)) : mk_Go p l e R s m args below meth c D A nL cells slots (MQ below (mk_Q none D w1 A) args s cells slots A) pc ws lv [] :=
  fun H locs ls hP hD hS hl => by
    subst hw
    exact W.vret C.1.1 C.1.2.1 hr (fun t ht hW => ⟨⟨rfl, by rw [ht]; exact hP, hD⟩, hS.F ht⟩) hS.2.2 hdg hlocks
theorem mk_zret (C : mk_Cx p s m args c cc nL own D tys X Y A) {ty : FieldType} (hr : meth.sig.returnType = some ty) (hlocks : meth.locks = false) {v r : Int32} (hn : narrow ty (.int v) = .int v) (hv : v = r) {w1 : va_W} (hw : ws = w1) (hdg : decode cc pc = .ok (.ireturn, 1)) : mk_Go p l e R s m args below meth c D A nL cells slots (MQ below (mk_Q (some (.int r)) D w1 A) args s cells slots A) pc ws lv [.int v] :=
  fun H locs ls hP hD hS hl => by
    subst hw
    subst hv
    exact W.zret C.1.1 C.1.2.1 hr hn (fun t ht hW => ⟨⟨rfl, by rw [ht]; exact hP, hD⟩, hS.F ht⟩) hS.2.2 hdg hlocks
theorem mk_ne {x v : Int32} {k : Int} (h : ¬ x = v) (hv : v.toInt = k) : x.toInt ≠ k := fun e => h (Int32.toInt_inj.mp (e.trans hv.symm))
theorem mk_tableIn (C : mk_Cx p s m args c cc nL own D tys X Y A) {dflt lo hi : Int} {offs : Array Int} {len : Nat} {x : Int32} (tgt : Nat) {v : Int32} {off : Int} (hx : x = v) (hdg : decode cc pc = .ok (.tableswitch dflt lo hi offs, len)) (h1 : ¬ v.toInt < lo) (h2 : ¬ hi < v.toInt) (ho : offs[(v.toInt - lo).toNat]? = some off) (ht : (pc : Int) + off = (tgt : Int)) (kk : mk_Go p l e R s m args below meth c D A nL cells slots Q tgt ws lv st) : mk_Go p l e R s m args below meth c D A nL cells slots Q pc ws lv (.int x :: st) := by
  subst hx
  exact fun H locs ls hP hD hS hl => lv_tableIn C.1.1 C.1.2.1 hdg h1 h2 ho ht (kk H locs ls hP hD hS hl)
theorem mk_tableOut (C : mk_Cx p s m args c cc nL own D tys X Y A) {dflt lo hi : Int} {offs : Array Int} {len : Nat} {x : Int32} (tgt : Nat) (hdg : decode cc pc = .ok (.tableswitch dflt lo hi offs, len)) (h : x.toInt < lo ∨ hi < x.toInt) (ht : (pc : Int) + dflt = (tgt : Int)) (kk : mk_Go p l e R s m args below meth c D A nL cells slots Q tgt ws lv st) : mk_Go p l e R s m args below meth c D A nL cells slots Q pc ws lv (.int x :: st) :=
  fun H locs ls hP hD hS hl => lv_tableOut C.1.1 C.1.2.1 hdg h ht (kk H locs ls hP hD hS hl)
theorem mk_lookup (C : mk_Cx p s m args c cc nL own D tys X Y A) {dflt : Int} {ps : Array (Int × Int)} {len : Nat} {x : Int32} (tgt : Nat) {off : Int} (hdg : decode cc pc = .ok (.lookupswitch dflt ps, len)) (hp : (ps.toList.zip (ps.toList.drop 1)).all (fun (a, next) => a.1 < next.1) = true) (ho : Op.lookupswitch.offset ps.toList dflt x.toInt = off) (ht : (pc : Int) + off = (tgt : Int)) (kk : mk_Go p l e R s m args below meth c D A nL cells slots Q tgt ws lv st) : mk_Go p l e R s m args below meth c D A nL cells slots Q pc ws lv (.int x :: st) :=
  fun H locs ls hP hD hS hl => lv_lookup C.1.1 C.1.2.1 hdg hp ho ht (kk H locs ls hP hD hS hl)
theorem mk_mmax (C : mk_Cx p s m args c cc nL own D tys X Y A) {index : Nat} {x y : Int32} (hl1 : Cond.methodLink own index Lib.Math.max.name ∈ mk_WL) (hl2 : Cond.static Lib.Math.max.name ∈ mk_WL) (hl3 : Cond.initialized "java/lang/Math" ∈ mk_WL) (hl4 : Cond.code Lib.Math.max.name Lib.Math.max.code 2 (some .int) ∈ mk_WL) (hR : 1 ≤ R.frames ∧ (st.map fun v => v.category).sum + 13 ≤ R.locals) (hroom : cells ≤ R.cells ∧ slots ≤ R.slots) (hdg : decode cc pc = .ok (.invokestatic index, 3)) (kk : mk_Go p l e R s m args below meth c D A nL cells slots Q (pc + 3) ws lv (.int (if x < y then y else x) :: st)) : mk_Go p l e R s m args below meth c D A nL cells slots Q pc ws lv (.int y :: .int x :: st) :=
  fun H locs ls hP hD hS hl => va_mmax C.1.1 C.1.2.1 (C.1.2.2.1.trans hl.1.symm) C.1.2.2.2.1 (C.1.2.2.2.2 _ hl1) (C.1.2.2.2.2 _ hl2) (C.1.2.2.2.2 _ hl3) (C.1.2.2.2.2 _ hl4) hR.1 hR.2 hroom.1 hroom.2 hdg (kk H locs ls hP hD hS hl)
theorem mk_mmin (C : mk_Cx p s m args c cc nL own D tys X Y A) {index : Nat} {x y : Int32} (hl1 : Cond.methodLink own index Lib.Math.min.name ∈ mk_WL) (hl2 : Cond.static Lib.Math.min.name ∈ mk_WL) (hl3 : Cond.initialized "java/lang/Math" ∈ mk_WL) (hl4 : Cond.code Lib.Math.min.name Lib.Math.min.code 2 (some .int) ∈ mk_WL) (hR : 1 ≤ R.frames ∧ (st.map fun v => v.category).sum + 13 ≤ R.locals) (hroom : cells ≤ R.cells ∧ slots ≤ R.slots) (hdg : decode cc pc = .ok (.invokestatic index, 3)) (kk : mk_Go p l e R s m args below meth c D A nL cells slots Q (pc + 3) ws lv (.int (if y < x then y else x) :: st)) : mk_Go p l e R s m args below meth c D A nL cells slots Q pc ws lv (.int y :: .int x :: st) :=
  fun H locs ls hP hD hS hl => va_mmin C.1.1 C.1.2.1 (C.1.2.2.1.trans hl.1.symm) C.1.2.2.2.1 (C.1.2.2.2.2 _ hl1) (C.1.2.2.2.2 _ hl2) (C.1.2.2.2.2 _ hl3) (C.1.2.2.2.2 _ hl4) hR.1 hR.2 hroom.1 hroom.2 hdg (kk H locs ls hP hD hS hl)
theorem mk_mmaxl (C : mk_Cx p s m args c cc nL own D tys X Y A) {index : Nat} {x y : Int64} (hl1 : Cond.methodLink own index Lib.MathLoose.max_long.x ∈ mk_WL) (hl2 : Cond.static Lib.MathLoose.max_long.x ∈ mk_WL) (hl3 : Cond.initialized "java/lang/Math" ∈ mk_WL) (hl4 : Cond.code Lib.MathLoose.max_long.x Lib.MathLoose.max_long.code 4 (some .long) ∈ mk_WL) (hR : 1 ≤ R.frames ∧ (st.map fun v => v.category).sum + 15 ≤ R.locals) (hroom : cells ≤ R.cells ∧ slots ≤ R.slots) (hdg : decode cc pc = .ok (.invokestatic index, 3)) (kk : mk_Go p l e R s m args below meth c D A nL cells slots Q (pc + 3) ws lv (.long (if y < x then x else y) :: st)) : mk_Go p l e R s m args below meth c D A nL cells slots Q pc ws lv (.long y :: .long x :: st) :=
  fun H locs ls hP hD hS hl => va_mmax_long C.1.1 C.1.2.1 (C.1.2.2.1.trans hl.1.symm) C.1.2.2.2.1 (C.1.2.2.2.2 _ hl1) (C.1.2.2.2.2 _ hl2) (C.1.2.2.2.2 _ hl3) (C.1.2.2.2.2 _ hl4) hR.1 hR.2 hroom.1 hroom.2 hdg (kk H locs ls hP hD hS hl)
/-! calls -/
theorem mk_back {ls : Array Slot} {H : Heap} {locs : List Loc} {st0 : List Value} {mc ms : Nat} {a : Array Value} {res : Option Value} {ws' wc w1 : va_W} (C : mk_Cx p s m args c cc nL own D tys X Y A) (hF : mk_Fr ws wc w1 ws') (hP : va_P D vwCl ws H) (hD : va_D A ws) (hS : va_S A s.heap H locs) (hl : lv_has ls nL lv)
    (hr : va_Run p l e R s m args below meth c H locs cells slots mc ms (F0 m pc ls st0) st (mk_Q res D w1 (va_A wc H.size) a) (va_A wc H.size))
    (kk : mk_Go p l e R s m args below meth c D A nL (cells + mc) (slots + ms) Q (pc + 3) ws' lv (res.toList ++ st)) : W p l e R s m args below meth c H locs cells slots Q (F0 m pc ls st0) := by
  have hFc := hF.free hD hS C.2.2.2
  intro T hT X0
  obtain ⟨v, st₀, t, T', L, h0, X', hL, e1, e2, ⟨⟨hv, hp, hd⟩, hz, hk⟩, stp⟩ := hr T hT X0
  cases hv
  rw [h0] at hz hk
  obtain ⟨hP', hD'⟩ := mk_join hF hP hD hFc hk hp hd
  obtain ⟨t2, a1, b1⟩ := kk t.heap (locs ++ L) ls hP' hD'
    ⟨Nat.le_trans hS.1 hz, fun q h1 h2 => by rw [hk q (Nat.lt_of_lt_of_le h1 hS.1) (fun z => h2 (hFc q z))]; exact hS.2.1 q h1 h2, fun q hq => by
      rcases List.mem_append.mp hq with h | h
      · exact hS.2.2 q h
      · exact hFc _ (hL q h)⟩ hl T' e1 X'
  exact ⟨t2, stp t2 a1, b1⟩
theorem mk_pre {wc w1 ws' : va_W} {av : List Value} {H : Heap} {locs : List Loc} (C : mk_Cx p s m args c cc nL own D tys X Y A) (hF : mk_Fr ws wc w1 ws') (hP : va_P D vwCl ws H) (hD : va_D A ws) (hS : va_S A s.heap H locs) : PreS s H (mk_Pc av D tys X Y wc H.size) av := by
  refine ⟨mk_Pc.blind, fun U hU hW => ⟨rfl, by rw [hU], by rw [hU]; exact hF.P hP, va_K.moved hW.alike C.2.1, (hF.D hD).weaken (fun _ _ _ _ => trivial), ?_⟩⟩
  rw [hU]
  exact ((C.2.2.1.kept (fun a h1 h2 => hS.2.1 a h1 h2)).narrow (hF.free hD hS C.2.2.2)).warm hW
theorem mk_good {y : MethodName} {cy : ByteArray} {nY : Nat} {ret : Option FieldType} (hc : Cond.code y cy nY ret ∈ mk_WL) : GoodIn mk_WL (mk_ws y cy nY ret) := by
  intro w hw
  have hm : w ∈ mk_WL := by
    rcases List.mem_cons.mp hw with rfl | h
    · exact hc
    · exact h
  exact ⟨hm, good_of_word (mk_WL_good w hm)⟩
/-- what a callee's name and descriptor must be -/
abbrev mk_nm (y : MethodName) (n : Nat) : Prop := y.cls ≠ "java/lang/invoke/MethodHandle" ∧ y.cls ≠ "java/lang/invoke/VarHandle" ∧ (parseMethodDescriptor y.desc).map (fun d => d.parameters.length) = some n
theorem mk_callV (C : mk_Cx p s m args c cc nL own D tys X Y A) {y : MethodName} {cy : ByteArray} {nY index n : Nat} {ret : Option FieldType} {rm : Room} {b ci : Nat} {fs : List Value} {r : vw_C} {As stk : List Value} {wc w1 ws' : va_W} {res : Option Value} {mc ms : Nat}
    (hM : mk_Met l y cy nY ret rm D tys X Y (.ref b :: As) wc w1 res mc ms) (h1 : Cond.methodLink own index y ∈ mk_WL) (h2 : Cond.instanceMethod y ∈ mk_WL) (h3 : Cond.selects y.cls y y ∈ mk_WL) (h4 : Cond.initialized y.cls ∈ mk_WL) (h5 : Cond.code y cy nY ret ∈ mk_WL) (hn : mk_nm y n) (hAs : As.length = n)
    (hR : rm.frames + 1 ≤ R.frames ∧ 8 + (nY + 11) + rm.locals ≤ R.locals) (hrm : rm.cells = mc ∧ rm.slots = ms) (hroom : cells + mc ≤ R.cells ∧ slots + ms ≤ R.slots) (q0 : Nat) (he : ws[q0]? = some (b, .inr (ci, fs))) (hc : vwCl[ci]? = some r) (hr : r.1 = y.cls) (hF : mk_Fr ws wc w1 ws') (hst : (st.map fun v => v.category).sum ≤ 8)
    (hdg : decode cc pc = .ok (.invokevirtual index, 3)) (hs : stk = As.reverse ++ .ref b :: st) (kk : mk_Go p l e R s m args below meth c D A nL (cells + mc) (slots + ms) Q (pc + 3) ws' lv (res.toList ++ st)) : mk_Go p l e R s m args below meth c D A nL cells slots Q pc ws lv stk := by
  subst hs
  intro H locs ls hP hD hS hl
  have hp := mk_pre (av := .ref b :: As) C hF hP hD hS
  refine mk_back C hF hP hD hS hl (va_runV (As := As) (rest := st) (C := y.cls) (n := n) C.1 (hM H.size) ⟨callB_of n C.1.2.2.2.2 (mk_good h5) rfl hrm.1 hrm.2 (C.1.2.2.2.2 _ h4) (C.1.2.2.2.2 _ h1) hn hR, C.1.2.2.2.2 _ h2, C.1.2.2.2.2 _ h3⟩ ⟨hp.1, ?_, hp.2⟩ rfl hAs hl.1 rfl (lv_room hst) hdg hroom) kk
  have h := va_recv C.2.1 hP hc he
  rw [hr] at h
  exact h
theorem mk_callS (C : mk_Cx p s m args c cc nL own D tys X Y A) {y : MethodName} {cy : ByteArray} {nY index n : Nat} {ret : Option FieldType} {rm : Room} {As stk : List Value} {wc w1 ws' : va_W} {res : Option Value} {mc ms : Nat}
    (hM : mk_Met l y cy nY ret rm D tys X Y As wc w1 res mc ms) (h1 : Cond.methodLink own index y ∈ mk_WL) (h2 : Cond.static y ∈ mk_WL) (h4 : Cond.initialized y.cls ∈ mk_WL) (h5 : Cond.code y cy nY ret ∈ mk_WL) (hn : mk_nm y n) (hAs : As.length = n)
    (hR : rm.frames + 1 ≤ R.frames ∧ 8 + (nY + 11) + rm.locals ≤ R.locals) (hrm : rm.cells = mc ∧ rm.slots = ms) (hroom : cells + mc ≤ R.cells ∧ slots + ms ≤ R.slots) (hF : mk_Fr ws wc w1 ws') (hst : (st.map fun v => v.category).sum ≤ 8)
    (hdg : decode cc pc = .ok (.invokestatic index, 3)) (hs : stk = As.reverse ++ st) (kk : mk_Go p l e R s m args below meth c D A nL (cells + mc) (slots + ms) Q (pc + 3) ws' lv (res.toList ++ st)) : mk_Go p l e R s m args below meth c D A nL cells slots Q pc ws lv stk := by
  subst hs
  intro H locs ls hP hD hS hl
  have hp := mk_pre (av := As) C hF hP hD hS
  exact mk_back C hF hP hD hS hl (va_runS (As := As) (rest := st) (n := n) C.1 (hM H.size) ⟨callB_of n C.1.2.2.2.2 (mk_good h5) rfl hrm.1 hrm.2 (C.1.2.2.2.2 _ h4) (C.1.2.2.2.2 _ h1) hn hR, C.1.2.2.2.2 _ h2⟩ hp rfl hAs hl.1 rfl (lv_room hst) hdg hroom) kk
/-- a private static method of a nest mate -/
theorem mk_callN (C : mk_Cx p s m args c cc nL own D tys X Y A) {y : MethodName} {cy : ByteArray} {nY index n : Nat} {ret : Option FieldType} {rm : Room} {As stk : List Value} {wc w1 ws' : va_W} {res : Option Value} {mc ms : Nat}
    (hM : mk_Met l y cy nY ret rm D tys X Y As wc w1 res mc ms) (h1 : (own, index, y) ∈ mk_nest) (h2 : Cond.static y ∈ mk_WL) (h4 : Cond.initialized y.cls ∈ mk_WL) (h5 : Cond.code y cy nY ret ∈ mk_WL) (hn : mk_nm y n) (hAs : As.length = n)
    (hR : rm.frames + 1 ≤ R.frames ∧ 8 + (nY + 11) + rm.locals ≤ R.locals) (hrm : rm.cells = mc ∧ rm.slots = ms) (hroom : cells + mc ≤ R.cells ∧ slots + ms ≤ R.slots) (hF : mk_Fr ws wc w1 ws') (hst : (st.map fun v => v.category).sum ≤ 8)
    (hdg : decode cc pc = .ok (.invokestatic index, 3)) (hs : stk = As.reverse ++ st) (kk : mk_Go p l e R s m args below meth c D A nL (cells + mc) (slots + ms) Q (pc + 3) ws' lv (res.toList ++ st)) : mk_Go p l e R s m args below meth c D A nL cells slots Q pc ws lv stk := by
  subst hs
  intro H locs ls hP hD hS hl
  have hp := mk_pre (av := As) C hF hP hD hS
  exact mk_back C hF hP hD hS hl (va_runSN (As := As) (rest := st) (n := n) C.1 (hM H.size) ⟨va_cnB n C.1.2.2.2.2 (mk_good h5) rfl hrm.1 hrm.2 (C.2.2.1.1.1 _ h1) (C.1.2.2.2.2 _ h4) hn hR, C.1.2.2.2.2 _ h2, trivial⟩ hp rfl hAs hl.1 rfl (lv_room hst) hdg hroom) kk
end MKROWS
end
section
/-! states of objects as functions; worlds; what the methods of rows do -/
noncomputable def upR {α : Type} (k : Nat) (g : Nat → α) (u : Nat → Nat → α) : Nat → Nat → α := fun j => @Bool.rec (fun _ => Nat → α) (u j) g (Nat.beq j k)
noncomputable def upF {α : Type} (k : Nat) (v : α) (u : Nat → Nat → α) : Nat → Nat → α := fun j => @Bool.rec (fun _ => Nat → α) (u j) (fun _ => v) (Nat.beq j k)
def wTape (a : Nat → Nat) (cI : ClassId) (u : Nat → Nat → Int32) : va_W := [(a 0, .inr (7, [.ref (a 1), .int (u 1 0)])), (a 1, .inl (cI, 500, .inl (u 0)))]
def wPlan (a : Nat → Nat) (cI : ClassId) (u : Nat → Nat → Int32) : va_W := [(a 0, .inr (3, [.int (u 0 0), .int (u 1 0), .int (u 2 0), .int (u 3 0), .int (u 4 0), .int (u 5 0), .int (u 6 0), .ref (a 8), .ref (a 9), .ref (a 10), .ref (a 11), .ref (a 12)])), (a 8, .inl (cI, 10, .inl (u 7))), (a 9, .inl (cI, 10, .inl (u 8))), (a 10, .inl (cI, 10, .inl (u 9))), (a 11, .inl (cI, 10, .inl (u 10))), (a 12, .inl (cI, 10, .inl (u 11)))]
def wActs (a : Nat → Nat) (cI : ClassId) (u : Nat → Nat → Int32) : va_W := [(a 0, .inr (0, [.ref (a 1), .ref (a 2), .int (u 2 0)])), (a 1, .inl (cI, 20, .inl (u 0))), (a 2, .inl (cI, 20, .inl (u 1)))]
def wStack (a : Nat → Nat) (cI : ClassId) (u : Nat → Nat → Int32) : va_W := [(a 0, .inr (6, [.ref (a 1), .ref (a 2), .ref (a 3), .int (u 3 0)])), (a 1, .inl (cI, 201, .inl (u 0))), (a 2, .inl (cI, 201, .inl (u 1))), (a 3, .inl (cI, 201, .inl (u 2)))]
def wCourse (a : Nat → Nat) (cI : ClassId) (u : Nat → Nat → Int32) : va_W := [(a 0, .inr (1, [.ref (a 1), .ref (a 2), .ref (a 3), .ref (a 4), .ref (a 5), .ref (a 6), .ref (a 7), .ref (a 8), .ref (a 9), .int (u 9 0), .ref (a 11), .ref (a 12), .ref (a 13), .int (u 13 0)])), (a 1, .inl (cI, 200, .inl (u 0))), (a 2, .inl (cI, 200, .inl (u 1))), (a 3, .inl (cI, 200, .inl (u 2))), (a 4, .inl (cI, 200, .inl (u 3))), (a 5, .inl (cI, 200, .inl (u 4))), (a 6, .inl (cI, 10, .inl (u 5))), (a 7, .inl (cI, 10, .inl (u 6))), (a 8, .inl (cI, 10, .inl (u 7))), (a 9, .inl (cI, 10, .inl (u 8))), (a 11, .inl (cI, 200, .inl (u 10))), (a 12, .inl (cI, 200, .inl (u 11))), (a 13, .inl (cI, 200, .inl (u 12)))]
def wMeans (a : Nat → Nat) (cJ : ClassId) (u : Nat → Nat → Int64) : va_W := [(a 0, .inr (2, [.ref (a 1), .ref (a 2), .ref (a 3), .long (u 3 0), .long (u 4 0)])), (a 1, .inl (cJ, 9, .inr (.inl (u 0)))), (a 2, .inl (cJ, 9, .inr (.inl (u 1)))), (a 3, .inl (cJ, 52, .inr (.inl (u 2))))]
def wReader (a aT aD : Nat → Nat) (u : Nat → Nat → Int32) : va_W := [(a 0, .inr (5, [.ref (aT 0), .ref (aD 0), .int (u 2 0), .int (u 3 0), .int (u 4 0), .int (u 5 0), .int (u 6 0), .int (u 7 0)]))]
def wPlay (a aP aS : Nat → Nat) (crs : Nat) (cI : ClassId) (u : Nat → Nat → Int32) : va_W := [(a 0, .inr (4, [.ref (aP 0), .ref (aS 0), .ref (a 3), .ref crs, .int (u 4 0), .int (u 5 0), .int (u 6 0), .int (u 7 0), .int (u 8 0), .int (u 9 0), .int (u 10 0), .int (u 11 0), .int (u 12 0)])), (a 3, .inl (cI, 10, .inl (u 2)))]
def wChan (a aR aT aD aY aP aC aO aA aM : Nat → Nat) : va_W := [(a 0, .inr (8, [.ref (aR 0), .ref (aT 0), .ref (aD 0), .ref (aY 0), .ref (aP 0), .ref (aC 0), .ref (aO 0), .ref (aA 0), .ref (aM 0)]))]
def mk_crs (aC aO : Nat → Nat) (q : Nat) : Nat := cond (Nat.beq q 0) (aC 0) (aO 0)

def mkAt (n : Nat) (f : Nat → Int32) (i : Int32) : Int32 := if 0 ≤ i then (if i < nI n then f i.toNatClampNeg else 0) else 0
def mkAtL (n : Nat) (f : Nat → Int64) (i : Int32) : Int64 := if 0 ≤ i then (if i < nI n then f i.toNatClampNeg else 0) else 0
def mkPut (n : Nat) (f : Nat → Int32) (i v : Int32) : Nat → Int32 := if 0 ≤ i then (if i < nI n then upd f i.toNatClampNeg v else f) else f
def mkPutL (n : Nat) (f : Nat → Int64) (i : Int32) (v : Int64) : Nat → Int64 := if 0 ≤ i then (if i < nI n then vp_updL f i.toNatClampNeg v else f) else f
def mkFill {α : Type} (n : Nat) (f : Nat → α) (v : α) : Nat → α := fun j => if j < n then v else f j
def mkLen (k : Nat) : Int32 := nI (mk_len.getD k 0)
def mkChr (k : Nat) (i : Int32) : Int32 := (mk_byt.getD k []).getD i.toNatClampNeg 0
def gI {α : Type} (i : Int32) (n : Nat) (k : Option α) : Option α := if i < 0 ∨ n ≤ i.toNatClampNeg then none else k
theorem gI_some {α : Type} {i : Int32} {n : Nat} {k : Option α} {r : α} (h : gI i n k = some r) : vp_in i n ∧ k = some r := by
  unfold gI at h
  split at h
  · cases h
  · rename_i q; exact ⟨q, h⟩
def gN {α : Type} (y : Int32) (k : Option α) : Option α := if y = 0 then none else k
theorem gN_some {α : Type} {y : Int32} {k : Option α} {r : α} (h : gN y k = some r) : (¬ y = 0) ∧ k = some r := by
  unfold gN at h
  split at h
  · cases h
  · rename_i q; exact ⟨q, h⟩
def gNL {α : Type} (y : Int64) (k : Option α) : Option α := if y = 0 then none else k
theorem gNL_some {α : Type} {y : Int64} {k : Option α} {r : α} (h : gNL y k = some r) : (¬ y = 0) ∧ k = some r := by
  unfold gNL at h
  split at h
  · cases h
  · rename_i q; exact ⟨q, h⟩
def gZ {α : Type} (v : Int32) (k : Option α) : Option α := if v = 0 ∨ v = 1 then k else none
theorem gZ_some {α : Type} {v : Int32} {k : Option α} {r : α} (h : gZ v k = some r) : (v = 0 ∨ v = 1) ∧ k = some r := by
  unfold gZ at h
  split at h
  · rename_i q; exact ⟨q, h⟩
  · cases h
def gS {α : Type} (s : Nat) (i : Int32) (k : Option α) : Option α := if i < 0 ∨ mk_len.getD s 0 ≤ i.toNatClampNeg then none else k
theorem gS_some {α : Type} {s : Nat} {i : Int32} {k : Option α} {r : α} (h : gS s i k = some r) : vp_in i (mk_len.getD s 0) ∧ k = some r := by
  unfold gS at h
  split at h
  · cases h
  · rename_i q; exact ⟨q, h⟩
theorem mk_nz {v : Int32} (h : v = 0 ∨ v = 1) : narrow .boolean (.int v) = .int v := by rcases h with rfl | rfl <;> rfl
theorem mk_fz {v : Int32} (h : v = 0 ∨ v = 1) : fits .boolean (.int v) = true := by rcases h with rfl | rfl <;> rfl
theorem mk_vi {i : Int32} {n : Nat} (h : (decide (i < 0) || decide (n ≤ i.toNatClampNeg)) = false) : vp_in i n := by
  simp only [Bool.or_eq_false_iff, decide_eq_false_iff_not] at h
  rintro (q | q)
  · exact h.1 q
  · exact h.2 q
def b0 {R : Type} (o : Option Unit) (k : Option R) : Option R := match o with | none => none | some _ => k
theorem b0_some {R : Type} {o : Option Unit} {k : Option R} {r : R} (h : b0 o k = some r) : o = some () ∧ k = some r := by
  cases o with
  | none => cases h
  | some x => exact ⟨rfl, h⟩
def b1 {A R : Type} (o : Option A) (k : A → Option R) : Option R := match o with | none => none | some a => k a
theorem b1_some {A R : Type} {o : Option A} {k : A → Option R} {r : R} (h : b1 o k = some r) : ∃ a, o = some a ∧ k a = some r := by
  cases o with
  | none => cases h
  | some x => exact ⟨x, rfl, h⟩
def b2 {A0 A1 R : Type} (o : Option (A0 × A1)) (k : A0 → A1 → Option R) : Option R := match o with | none => none | some (a0, a1) => k a0 a1
theorem b2_some {A0 A1 R : Type} {o : Option (A0 × A1)} {k : A0 → A1 → Option R} {r : R} (h : b2 o k = some r) : ∃ a0 a1, o = some (a0, a1) ∧ k a0 a1 = some r := by
  cases o with
  | none => cases h
  | some x =>
    obtain ⟨a0, a1⟩ := x
    exact ⟨a0, a1, rfl, h⟩
def b3 {A0 A1 A2 R : Type} (o : Option (A0 × A1 × A2)) (k : A0 → A1 → A2 → Option R) : Option R := match o with | none => none | some (a0, a1, a2) => k a0 a1 a2
theorem b3_some {A0 A1 A2 R : Type} {o : Option (A0 × A1 × A2)} {k : A0 → A1 → A2 → Option R} {r : R} (h : b3 o k = some r) : ∃ a0 a1 a2, o = some (a0, a1, a2) ∧ k a0 a1 a2 = some r := by
  cases o with
  | none => cases h
  | some x =>
    obtain ⟨a0, a1, a2⟩ := x
    exact ⟨a0, a1, a2, rfl, h⟩
def b4 {A0 A1 A2 A3 R : Type} (o : Option (A0 × A1 × A2 × A3)) (k : A0 → A1 → A2 → A3 → Option R) : Option R := match o with | none => none | some (a0, a1, a2, a3) => k a0 a1 a2 a3
theorem b4_some {A0 A1 A2 A3 R : Type} {o : Option (A0 × A1 × A2 × A3)} {k : A0 → A1 → A2 → A3 → Option R} {r : R} (h : b4 o k = some r) : ∃ a0 a1 a2 a3, o = some (a0, a1, a2, a3) ∧ k a0 a1 a2 a3 = some r := by
  cases o with
  | none => cases h
  | some x =>
    obtain ⟨a0, a1, a2, a3⟩ := x
    exact ⟨a0, a1, a2, a3, rfl, h⟩
def b5 {A0 A1 A2 A3 A4 R : Type} (o : Option (A0 × A1 × A2 × A3 × A4)) (k : A0 → A1 → A2 → A3 → A4 → Option R) : Option R := match o with | none => none | some (a0, a1, a2, a3, a4) => k a0 a1 a2 a3 a4
theorem b5_some {A0 A1 A2 A3 A4 R : Type} {o : Option (A0 × A1 × A2 × A3 × A4)} {k : A0 → A1 → A2 → A3 → A4 → Option R} {r : R} (h : b5 o k = some r) : ∃ a0 a1 a2 a3 a4, o = some (a0, a1, a2, a3, a4) ∧ k a0 a1 a2 a3 a4 = some r := by
  cases o with
  | none => cases h
  | some x =>
    obtain ⟨a0, a1, a2, a3, a4⟩ := x
    exact ⟨a0, a1, a2, a3, a4, rfl, h⟩
def b6 {A0 A1 A2 A3 A4 A5 R : Type} (o : Option (A0 × A1 × A2 × A3 × A4 × A5)) (k : A0 → A1 → A2 → A3 → A4 → A5 → Option R) : Option R := match o with | none => none | some (a0, a1, a2, a3, a4, a5) => k a0 a1 a2 a3 a4 a5
theorem b6_some {A0 A1 A2 A3 A4 A5 R : Type} {o : Option (A0 × A1 × A2 × A3 × A4 × A5)} {k : A0 → A1 → A2 → A3 → A4 → A5 → Option R} {r : R} (h : b6 o k = some r) : ∃ a0 a1 a2 a3 a4 a5, o = some (a0, a1, a2, a3, a4, a5) ∧ k a0 a1 a2 a3 a4 a5 = some r := by
  cases o with
  | none => cases h
  | some x =>
    obtain ⟨a0, a1, a2, a3, a4, a5⟩ := x
    exact ⟨a0, a1, a2, a3, a4, a5, rfl, h⟩
def b7 {A0 A1 A2 A3 A4 A5 A6 R : Type} (o : Option (A0 × A1 × A2 × A3 × A4 × A5 × A6)) (k : A0 → A1 → A2 → A3 → A4 → A5 → A6 → Option R) : Option R := match o with | none => none | some (a0, a1, a2, a3, a4, a5, a6) => k a0 a1 a2 a3 a4 a5 a6
theorem b7_some {A0 A1 A2 A3 A4 A5 A6 R : Type} {o : Option (A0 × A1 × A2 × A3 × A4 × A5 × A6)} {k : A0 → A1 → A2 → A3 → A4 → A5 → A6 → Option R} {r : R} (h : b7 o k = some r) : ∃ a0 a1 a2 a3 a4 a5 a6, o = some (a0, a1, a2, a3, a4, a5, a6) ∧ k a0 a1 a2 a3 a4 a5 a6 = some r := by
  cases o with
  | none => cases h
  | some x =>
    obtain ⟨a0, a1, a2, a3, a4, a5, a6⟩ := x
    exact ⟨a0, a1, a2, a3, a4, a5, a6, rfl, h⟩
def b8 {A0 A1 A2 A3 A4 A5 A6 A7 R : Type} (o : Option (A0 × A1 × A2 × A3 × A4 × A5 × A6 × A7)) (k : A0 → A1 → A2 → A3 → A4 → A5 → A6 → A7 → Option R) : Option R := match o with | none => none | some (a0, a1, a2, a3, a4, a5, a6, a7) => k a0 a1 a2 a3 a4 a5 a6 a7
theorem b8_some {A0 A1 A2 A3 A4 A5 A6 A7 R : Type} {o : Option (A0 × A1 × A2 × A3 × A4 × A5 × A6 × A7)} {k : A0 → A1 → A2 → A3 → A4 → A5 → A6 → A7 → Option R} {r : R} (h : b8 o k = some r) : ∃ a0 a1 a2 a3 a4 a5 a6 a7, o = some (a0, a1, a2, a3, a4, a5, a6, a7) ∧ k a0 a1 a2 a3 a4 a5 a6 a7 = some r := by
  cases o with
  | none => cases h
  | some x =>
    obtain ⟨a0, a1, a2, a3, a4, a5, a6, a7⟩ := x
    exact ⟨a0, a1, a2, a3, a4, a5, a6, a7, rfl, h⟩
def b9 {A0 A1 A2 A3 A4 A5 A6 A7 A8 R : Type} (o : Option (A0 × A1 × A2 × A3 × A4 × A5 × A6 × A7 × A8)) (k : A0 → A1 → A2 → A3 → A4 → A5 → A6 → A7 → A8 → Option R) : Option R := match o with | none => none | some (a0, a1, a2, a3, a4, a5, a6, a7, a8) => k a0 a1 a2 a3 a4 a5 a6 a7 a8
theorem b9_some {A0 A1 A2 A3 A4 A5 A6 A7 A8 R : Type} {o : Option (A0 × A1 × A2 × A3 × A4 × A5 × A6 × A7 × A8)} {k : A0 → A1 → A2 → A3 → A4 → A5 → A6 → A7 → A8 → Option R} {r : R} (h : b9 o k = some r) : ∃ a0 a1 a2 a3 a4 a5 a6 a7 a8, o = some (a0, a1, a2, a3, a4, a5, a6, a7, a8) ∧ k a0 a1 a2 a3 a4 a5 a6 a7 a8 = some r := by
  cases o with
  | none => cases h
  | some x =>
    obtain ⟨a0, a1, a2, a3, a4, a5, a6, a7, a8⟩ := x
    exact ⟨a0, a1, a2, a3, a4, a5, a6, a7, a8, rfl, h⟩
def b10 {A0 A1 A2 A3 A4 A5 A6 A7 A8 A9 R : Type} (o : Option (A0 × A1 × A2 × A3 × A4 × A5 × A6 × A7 × A8 × A9)) (k : A0 → A1 → A2 → A3 → A4 → A5 → A6 → A7 → A8 → A9 → Option R) : Option R := match o with | none => none | some (a0, a1, a2, a3, a4, a5, a6, a7, a8, a9) => k a0 a1 a2 a3 a4 a5 a6 a7 a8 a9
theorem b10_some {A0 A1 A2 A3 A4 A5 A6 A7 A8 A9 R : Type} {o : Option (A0 × A1 × A2 × A3 × A4 × A5 × A6 × A7 × A8 × A9)} {k : A0 → A1 → A2 → A3 → A4 → A5 → A6 → A7 → A8 → A9 → Option R} {r : R} (h : b10 o k = some r) : ∃ a0 a1 a2 a3 a4 a5 a6 a7 a8 a9, o = some (a0, a1, a2, a3, a4, a5, a6, a7, a8, a9) ∧ k a0 a1 a2 a3 a4 a5 a6 a7 a8 a9 = some r := by
  cases o with
  | none => cases h
  | some x =>
    obtain ⟨a0, a1, a2, a3, a4, a5, a6, a7, a8, a9⟩ := x
    exact ⟨a0, a1, a2, a3, a4, a5, a6, a7, a8, a9, rfl, h⟩
theorem mk_pf (f : Nat → va_W) (is js : List Nat) (h : is.Perm js) : ((is.map f).flatten).Perm ((js.map f).flatten) := (h.map f).flatten
theorem mk_takeP {ws : va_W} {q : Nat} {x : Nat × va_E} (h : ws[q]? = some x) : ∃ a b, ws = a ++ (x :: b) ∧ a.length = q := by
  obtain ⟨h1, h2⟩ := List.getElem?_eq_some_iff.mp h
  refine ⟨ws.take q, ws.drop (q + 1), ?_, by simp; omega⟩
  rw [← h2]
  simp
theorem mk_Fr.put {ws ws' : va_W} {q : Nat} {a : Nat} {e0 e1 : va_E} (h : ws[q]? = some (a, e0)) (hw : ws.set q (a, e1) = ws') : mk_Fr ws [(a, e0)] [(a, e1)] ws' := by
  obtain ⟨u, v, rfl, hq⟩ := mk_takeP h
  subst hw
  refine ⟨u ++ v, ?_, ?_⟩
  · rw [List.append_assoc]
    refine List.Perm.append_left u ?_
    exact List.perm_append_comm (l₁ := [(a, e0)]) (l₂ := v)
  · rw [List.set_append_right _ _ (by omega), show q - u.length = 0 by omega, List.append_assoc]
    refine List.Perm.append_left u ?_
    exact List.perm_append_comm (l₁ := [(a, e1)]) (l₂ := v)
theorem mk_Fr.at {ws : va_W} {q : Nat} {a : Nat} {e0 : va_E} (h : ws[q]? = some (a, e0)) : mk_Fr ws [(a, e0)] [(a, e0)] ws := by
  refine mk_Fr.put h ?_
  obtain ⟨u, v, rfl, hq⟩ := mk_takeP h
  rw [List.set_append_right _ _ (by omega), show q - u.length = 0 by omega]
  rfl
section MKCALLS
variable {p : Program} {l : Launch} {e : Env} {R : Room} {s : State} {m : MethodId} {args : Array Value} {below : List Frame} {meth : Method} {c : Code} {D : va_G} {A : Nat → Prop} {nL : Nat} {Q : State → Prop} {pc : Nat} {ws : va_W} {lv : mk_L} {st : List Value} {cc : ByteArray} {own : String} {tys : List (ClassId × FieldType)} {X : Nat → Nat} {Y : mk_Y}
theorem mk_callVi (C : mk_Cx p s m args c cc nL own D tys X Y A) {y : MethodName} {cy : ByteArray} {nY index n : Nat} {ret : Option FieldType} {fr lo : Nat} {b ci : Nat} {fs : List Value} {rc : vw_C} {As stk : List Value} {wc w1 ws' : va_W} {r : Int32} (hM : mk_Met l y cy nY ret ({ frames := fr, cells := 0, slots := 0, locals := lo } : Room) D tys X Y (.ref b :: As) wc w1 (some (.int r)) 0 0) (h1 : Cond.methodLink own index y ∈ mk_WL) (h2 : Cond.instanceMethod y ∈ mk_WL) (h3 : Cond.selects y.cls y y ∈ mk_WL) (h4 : Cond.initialized y.cls ∈ mk_WL) (h5 : Cond.code y cy nY ret ∈ mk_WL) (hn : mk_nm y n) (hAs : As.length = n) (hR : fr + 1 ≤ R.frames ∧ 8 + (nY + 11) + lo ≤ R.locals) (q0 : Nat) (he : ws[q0]? = some (b, .inr (ci, fs))) (hc : vwCl[ci]? = some rc) (hr : rc.1 = y.cls) (hF : mk_Fr ws wc w1 ws') (hst : (st.map fun v => v.category).sum ≤ 8) (hdg : decode cc pc = .ok (.invokevirtual index, 3)) (hs : stk = As.reverse ++ .ref b :: st) (kk : mk_Go p l e R s m args below meth c D A nL 0 0 Q (pc + 3) ws' lv (.int r :: st)) : mk_Go p l e R s m args below meth c D A nL 0 0 Q pc ws lv stk :=
  mk_callV C hM h1 h2 h3 h4 h5 hn hAs hR ⟨rfl, rfl⟩ ⟨Nat.zero_le _, Nat.zero_le _⟩ q0 he hc hr hF hst hdg hs kk
theorem mk_callSi (C : mk_Cx p s m args c cc nL own D tys X Y A) {y : MethodName} {cy : ByteArray} {nY index n : Nat} {ret : Option FieldType} {fr lo : Nat} {As stk : List Value} {wc w1 ws' : va_W} {r : Int32} (hM : mk_Met l y cy nY ret ({ frames := fr, cells := 0, slots := 0, locals := lo } : Room) D tys X Y As wc w1 (some (.int r)) 0 0) (h1 : Cond.methodLink own index y ∈ mk_WL) (h2 : Cond.static y ∈ mk_WL) (h4 : Cond.initialized y.cls ∈ mk_WL) (h5 : Cond.code y cy nY ret ∈ mk_WL) (hn : mk_nm y n) (hAs : As.length = n) (hR : fr + 1 ≤ R.frames ∧ 8 + (nY + 11) + lo ≤ R.locals) (hF : mk_Fr ws wc w1 ws') (hst : (st.map fun v => v.category).sum ≤ 8) (hdg : decode cc pc = .ok (.invokestatic index, 3)) (hs : stk = As.reverse ++ st) (kk : mk_Go p l e R s m args below meth c D A nL 0 0 Q (pc + 3) ws' lv (.int r :: st)) : mk_Go p l e R s m args below meth c D A nL 0 0 Q pc ws lv stk :=
  mk_callS C hM h1 h2 h4 h5 hn hAs hR ⟨rfl, rfl⟩ ⟨Nat.zero_le _, Nat.zero_le _⟩ hF hst hdg hs kk
theorem mk_callNi (C : mk_Cx p s m args c cc nL own D tys X Y A) {y : MethodName} {cy : ByteArray} {nY index n : Nat} {ret : Option FieldType} {fr lo : Nat} {As stk : List Value} {wc w1 ws' : va_W} {r : Int32} (hM : mk_Met l y cy nY ret ({ frames := fr, cells := 0, slots := 0, locals := lo } : Room) D tys X Y As wc w1 (some (.int r)) 0 0) (h1 : (own, index, y) ∈ mk_nest) (h2 : Cond.static y ∈ mk_WL) (h4 : Cond.initialized y.cls ∈ mk_WL) (h5 : Cond.code y cy nY ret ∈ mk_WL) (hn : mk_nm y n) (hAs : As.length = n) (hR : fr + 1 ≤ R.frames ∧ 8 + (nY + 11) + lo ≤ R.locals) (hF : mk_Fr ws wc w1 ws') (hst : (st.map fun v => v.category).sum ≤ 8) (hdg : decode cc pc = .ok (.invokestatic index, 3)) (hs : stk = As.reverse ++ st) (kk : mk_Go p l e R s m args below meth c D A nL 0 0 Q (pc + 3) ws' lv (.int r :: st)) : mk_Go p l e R s m args below meth c D A nL 0 0 Q pc ws lv stk :=
  mk_callN C hM h1 h2 h4 h5 hn hAs hR ⟨rfl, rfl⟩ ⟨Nat.zero_le _, Nat.zero_le _⟩ hF hst hdg hs kk
theorem mk_callVl (C : mk_Cx p s m args c cc nL own D tys X Y A) {y : MethodName} {cy : ByteArray} {nY index n : Nat} {ret : Option FieldType} {fr lo : Nat} {b ci : Nat} {fs : List Value} {rc : vw_C} {As stk : List Value} {wc w1 ws' : va_W} {r : Int64} (hM : mk_Met l y cy nY ret ({ frames := fr, cells := 0, slots := 0, locals := lo } : Room) D tys X Y (.ref b :: As) wc w1 (some (.long r)) 0 0) (h1 : Cond.methodLink own index y ∈ mk_WL) (h2 : Cond.instanceMethod y ∈ mk_WL) (h3 : Cond.selects y.cls y y ∈ mk_WL) (h4 : Cond.initialized y.cls ∈ mk_WL) (h5 : Cond.code y cy nY ret ∈ mk_WL) (hn : mk_nm y n) (hAs : As.length = n) (hR : fr + 1 ≤ R.frames ∧ 8 + (nY + 11) + lo ≤ R.locals) (q0 : Nat) (he : ws[q0]? = some (b, .inr (ci, fs))) (hc : vwCl[ci]? = some rc) (hr : rc.1 = y.cls) (hF : mk_Fr ws wc w1 ws') (hst : (st.map fun v => v.category).sum ≤ 8) (hdg : decode cc pc = .ok (.invokevirtual index, 3)) (hs : stk = As.reverse ++ .ref b :: st) (kk : mk_Go p l e R s m args below meth c D A nL 0 0 Q (pc + 3) ws' lv (.long r :: st)) : mk_Go p l e R s m args below meth c D A nL 0 0 Q pc ws lv stk :=
  mk_callV C hM h1 h2 h3 h4 h5 hn hAs hR ⟨rfl, rfl⟩ ⟨Nat.zero_le _, Nat.zero_le _⟩ q0 he hc hr hF hst hdg hs kk
theorem mk_callSl (C : mk_Cx p s m args c cc nL own D tys X Y A) {y : MethodName} {cy : ByteArray} {nY index n : Nat} {ret : Option FieldType} {fr lo : Nat} {As stk : List Value} {wc w1 ws' : va_W} {r : Int64} (hM : mk_Met l y cy nY ret ({ frames := fr, cells := 0, slots := 0, locals := lo } : Room) D tys X Y As wc w1 (some (.long r)) 0 0) (h1 : Cond.methodLink own index y ∈ mk_WL) (h2 : Cond.static y ∈ mk_WL) (h4 : Cond.initialized y.cls ∈ mk_WL) (h5 : Cond.code y cy nY ret ∈ mk_WL) (hn : mk_nm y n) (hAs : As.length = n) (hR : fr + 1 ≤ R.frames ∧ 8 + (nY + 11) + lo ≤ R.locals) (hF : mk_Fr ws wc w1 ws') (hst : (st.map fun v => v.category).sum ≤ 8) (hdg : decode cc pc = .ok (.invokestatic index, 3)) (hs : stk = As.reverse ++ st) (kk : mk_Go p l e R s m args below meth c D A nL 0 0 Q (pc + 3) ws' lv (.long r :: st)) : mk_Go p l e R s m args below meth c D A nL 0 0 Q pc ws lv stk :=
  mk_callS C hM h1 h2 h4 h5 hn hAs hR ⟨rfl, rfl⟩ ⟨Nat.zero_le _, Nat.zero_le _⟩ hF hst hdg hs kk
theorem mk_callNl (C : mk_Cx p s m args c cc nL own D tys X Y A) {y : MethodName} {cy : ByteArray} {nY index n : Nat} {ret : Option FieldType} {fr lo : Nat} {As stk : List Value} {wc w1 ws' : va_W} {r : Int64} (hM : mk_Met l y cy nY ret ({ frames := fr, cells := 0, slots := 0, locals := lo } : Room) D tys X Y As wc w1 (some (.long r)) 0 0) (h1 : (own, index, y) ∈ mk_nest) (h2 : Cond.static y ∈ mk_WL) (h4 : Cond.initialized y.cls ∈ mk_WL) (h5 : Cond.code y cy nY ret ∈ mk_WL) (hn : mk_nm y n) (hAs : As.length = n) (hR : fr + 1 ≤ R.frames ∧ 8 + (nY + 11) + lo ≤ R.locals) (hF : mk_Fr ws wc w1 ws') (hst : (st.map fun v => v.category).sum ≤ 8) (hdg : decode cc pc = .ok (.invokestatic index, 3)) (hs : stk = As.reverse ++ st) (kk : mk_Go p l e R s m args below meth c D A nL 0 0 Q (pc + 3) ws' lv (.long r :: st)) : mk_Go p l e R s m args below meth c D A nL 0 0 Q pc ws lv stk :=
  mk_callN C hM h1 h2 h4 h5 hn hAs hR ⟨rfl, rfl⟩ ⟨Nat.zero_le _, Nat.zero_le _⟩ hF hst hdg hs kk
theorem mk_callVv (C : mk_Cx p s m args c cc nL own D tys X Y A) {y : MethodName} {cy : ByteArray} {nY index n : Nat} {ret : Option FieldType} {fr lo : Nat} {b ci : Nat} {fs : List Value} {rc : vw_C} {As stk : List Value} {wc w1 ws' : va_W} (hM : mk_Met l y cy nY ret ({ frames := fr, cells := 0, slots := 0, locals := lo } : Room) D tys X Y (.ref b :: As) wc w1 none 0 0) (h1 : Cond.methodLink own index y ∈ mk_WL) (h2 : Cond.instanceMethod y ∈ mk_WL) (h3 : Cond.selects y.cls y y ∈ mk_WL) (h4 : Cond.initialized y.cls ∈ mk_WL) (h5 : Cond.code y cy nY ret ∈ mk_WL) (hn : mk_nm y n) (hAs : As.length = n) (hR : fr + 1 ≤ R.frames ∧ 8 + (nY + 11) + lo ≤ R.locals) (q0 : Nat) (he : ws[q0]? = some (b, .inr (ci, fs))) (hc : vwCl[ci]? = some rc) (hr : rc.1 = y.cls) (hF : mk_Fr ws wc w1 ws') (hst : (st.map fun v => v.category).sum ≤ 8) (hdg : decode cc pc = .ok (.invokevirtual index, 3)) (hs : stk = As.reverse ++ .ref b :: st) (kk : mk_Go p l e R s m args below meth c D A nL 0 0 Q (pc + 3) ws' lv (st)) : mk_Go p l e R s m args below meth c D A nL 0 0 Q pc ws lv stk :=
  mk_callV C hM h1 h2 h3 h4 h5 hn hAs hR ⟨rfl, rfl⟩ ⟨Nat.zero_le _, Nat.zero_le _⟩ q0 he hc hr hF hst hdg hs kk
theorem mk_callSv (C : mk_Cx p s m args c cc nL own D tys X Y A) {y : MethodName} {cy : ByteArray} {nY index n : Nat} {ret : Option FieldType} {fr lo : Nat} {As stk : List Value} {wc w1 ws' : va_W} (hM : mk_Met l y cy nY ret ({ frames := fr, cells := 0, slots := 0, locals := lo } : Room) D tys X Y As wc w1 none 0 0) (h1 : Cond.methodLink own index y ∈ mk_WL) (h2 : Cond.static y ∈ mk_WL) (h4 : Cond.initialized y.cls ∈ mk_WL) (h5 : Cond.code y cy nY ret ∈ mk_WL) (hn : mk_nm y n) (hAs : As.length = n) (hR : fr + 1 ≤ R.frames ∧ 8 + (nY + 11) + lo ≤ R.locals) (hF : mk_Fr ws wc w1 ws') (hst : (st.map fun v => v.category).sum ≤ 8) (hdg : decode cc pc = .ok (.invokestatic index, 3)) (hs : stk = As.reverse ++ st) (kk : mk_Go p l e R s m args below meth c D A nL 0 0 Q (pc + 3) ws' lv (st)) : mk_Go p l e R s m args below meth c D A nL 0 0 Q pc ws lv stk :=
  mk_callS C hM h1 h2 h4 h5 hn hAs hR ⟨rfl, rfl⟩ ⟨Nat.zero_le _, Nat.zero_le _⟩ hF hst hdg hs kk
theorem mk_callNv (C : mk_Cx p s m args c cc nL own D tys X Y A) {y : MethodName} {cy : ByteArray} {nY index n : Nat} {ret : Option FieldType} {fr lo : Nat} {As stk : List Value} {wc w1 ws' : va_W} (hM : mk_Met l y cy nY ret ({ frames := fr, cells := 0, slots := 0, locals := lo } : Room) D tys X Y As wc w1 none 0 0) (h1 : (own, index, y) ∈ mk_nest) (h2 : Cond.static y ∈ mk_WL) (h4 : Cond.initialized y.cls ∈ mk_WL) (h5 : Cond.code y cy nY ret ∈ mk_WL) (hn : mk_nm y n) (hAs : As.length = n) (hR : fr + 1 ≤ R.frames ∧ 8 + (nY + 11) + lo ≤ R.locals) (hF : mk_Fr ws wc w1 ws') (hst : (st.map fun v => v.category).sum ≤ 8) (hdg : decode cc pc = .ok (.invokestatic index, 3)) (hs : stk = As.reverse ++ st) (kk : mk_Go p l e R s m args below meth c D A nL 0 0 Q (pc + 3) ws' lv (st)) : mk_Go p l e R s m args below meth c D A nL 0 0 Q pc ws lv stk :=
  mk_callN C hM h1 h2 h4 h5 hn hAs hR ⟨rfl, rfl⟩ ⟨Nat.zero_le _, Nat.zero_le _⟩ hF hst hdg hs kk
theorem mk_callEg (C : mk_Cx p s m args c cc nL own D tys X Y A) {y : MethodName} {cy : ByteArray} {nY index n : Nat} {ret : Option FieldType} {fr lo : Nat} {k : Nat} {As stk : List Value} {r : Int32} (hM : mk_Met l y cy nY ret ({ frames := fr, cells := 0, slots := 0, locals := lo } : Room) D tys X Y (.ref (X k) :: As) [] [] (some (.int r)) 0 0) (h1 : Cond.methodLink own index y ∈ mk_WL) (h2 : Cond.instanceMethod y ∈ mk_WL) (h3 : Cond.selects y.cls y y ∈ mk_WL) (h4 : Cond.initialized y.cls ∈ mk_WL) (h5 : Cond.code y cy nY ret ∈ mk_WL) (hn : mk_nm y n) (hAs : As.length = n) (hR : fr + 1 ≤ R.frames ∧ 8 + (nY + 11) + lo ≤ R.locals) (hy : y.cls = "java/lang/String") (hst : (st.map fun v => v.category).sum ≤ 8) (hdg : decode cc pc = .ok (.invokevirtual index, 3)) (hs : stk = As.reverse ++ .ref (X k) :: st) (kk : mk_Go p l e R s m args below meth c D A nL 0 0 Q (pc + 3) ws lv (.int r :: st)) : mk_Go p l e R s m args below meth c D A nL 0 0 Q pc ws lv stk := by
  subst hs
  intro H locs ls hP hD hS hl
  have hF := mk_Fr.nil ws
  have hp := mk_pre (av := .ref (X k) :: As) C hF hP hD hS
  refine mk_back C hF hP hD hS hl (va_runV (As := As) (rest := st) (C := y.cls) (n := n) C.1 (hM H.size) ⟨callB_of n C.1.2.2.2.2 (mk_good h5) rfl rfl rfl (C.1.2.2.2.2 _ h4) (C.1.2.2.2.2 _ h1) hn hR, C.1.2.2.2.2 _ h2, C.1.2.2.2.2 _ h3⟩ ⟨hp.1, ?_, hp.2⟩ rfl hAs hl.1 rfl (lv_room hst) hdg ⟨Nat.zero_le _, Nat.zero_le _⟩) kk
  rw [hy]
  exact mk_S.recv C.2.2.1.2.1 hS
theorem mk_callEi (C : mk_Cx p s m args c cc nL own D tys X Y A) {y : MethodName} {cy : ByteArray} {nY index n : Nat} {ret : Option FieldType} {fr lo : Nat} {k : Nat} {As stk : List Value} {r : Int32} (hM : mk_Met l y cy nY ret ({ frames := fr, cells := 0, slots := 0, locals := lo } : Room) D tys X Y (.ref (X k) :: As) [] [] (some (.int r)) 0 0) (h1 : Cond.methodLink own index y ∈ mk_WL) (h2 : Cond.instanceMethod y ∈ mk_WL) (h3 : Cond.selects y.cls y y ∈ mk_WL) (h4 : Cond.initialized y.cls ∈ mk_WL) (h5 : Cond.code y cy nY ret ∈ mk_WL) (hn : mk_nm y n) (hAs : As.length = n) (hR : fr + 1 ≤ R.frames ∧ 8 + (nY + 11) + lo ≤ R.locals) (_hk : k < 13) (hy : y.cls = "java/lang/String") (hst : (st.map fun v => v.category).sum ≤ 8) (hdg : decode cc pc = .ok (.invokevirtual index, 3)) (hs : stk = As.reverse ++ .ref (X k) :: st) (kk : mk_Go p l e R s m args below meth c D A nL 0 0 Q (pc + 3) ws lv (.int r :: st)) : mk_Go p l e R s m args below meth c D A nL 0 0 Q pc ws lv stk :=
  mk_callEg C hM h1 h2 h3 h4 h5 hn hAs hR hy hst hdg hs kk
end MKCALLS
end
section
/-! contracts of what works on rows: at, put, Arrays.fill, Integer.bitCount -/
theorem mk_nlt {x y : Int32} (h : ¬ x < y) : y ≤ x := Int32.not_lt.mp h
theorem mk_nle {x y : Int32} (h : ¬ x ≤ y) : y < x := Int32.not_le.mp h
theorem mk_lt_nle {x y : Int32} (h : x < y) : ¬ y ≤ x := Int32.not_le.mpr h
theorem mk_le_nlt {x y : Int32} (h : x ≤ y) : ¬ y < x := Int32.not_lt.mpr h
theorem mk_inr {i : Int32} {n : Nat} (hn : n < 2 ^ 31) (h1 : ¬ i < 0) (h2 : ¬ nI n ≤ i) : vp_in i n := by
  rcases pk_ix i hn with q | q | ⟨j, hj, rfl⟩
  · exact absurd q h1
  · exact absurd q h2
  · exact vp_in_nI hj hn
set_option maxRecDepth 100000 in
theorem c_at (l : Launch) (D : va_G) (cI cJ cB cZ cS : ClassId) (X : Nat → Nat) (Y : mk_Y) (h : Nat) (n : Nat) (f : Nat → Int32) (i : Int32) (hn : n < 2 ^ 31 := by decide) : mk_Met l yX8_at cX8_at 2 (some .int) ({ frames := 0, cells := 0, slots := 0, locals := 0 }) D (mk_TY cI cJ cB cZ cS) X Y [.ref h, .int i] [(h, .inl (cI, n, .inl f))] [(h, .inl (cI, n, .inl f))] (some (.int (mkAt n f i))) 0 0 := by
  refine mk_start (own := RX8) (by decide) rfl (Nat.le_of_ble_eq_true rfl) ?_
  intro sz p e s m args below meth c A C hr hlk hnm
  replace C : mk_Cx p s m args c cX8_at 2 RX8 D (mk_TY cI cJ cB cZ cS) X Y A := C
  refine mk_iload_n C 1 dX8_at_0 rfl ?_
  refine mk_if_lt C 16 dX8_at_1 (by decide) (fun c1 => ?_) (fun c1 => ?_)
  · refine mk_iconst C (v := 0) dX8_at_16 (by decide) ?_
    exact mk_iret C hr hlk (by rw [mkAt, if_neg (mk_lt_nle c1)]) rfl dX8_at_17
  · refine mk_iload_n C 1 dX8_at_4 rfl ?_
    refine mk_aload_n C 0 dX8_at_5 rfl ?_
    refine mk_alen C 0 0 rfl rfl (v := nI n) rfl dX8_at_6 ?_
    refine mk_icmp_ge C 16 dX8_at_7 (by decide) (fun c2 => ?_) (fun c2 => ?_)
    · refine mk_iconst C (v := 0) dX8_at_16 (by decide) ?_
      exact mk_iret C hr hlk (by rw [mkAt, if_pos (mk_nlt c1), if_neg (mk_le_nlt c2)]) rfl dX8_at_17
    · refine mk_aload_n C 0 dX8_at_10 rfl ?_
      refine mk_iload_n C 1 dX8_at_11 rfl ?_
      refine mk_iald C 0 0 (f := f) rfl rfl (mk_inr hn c1 c2) (j := i.toNatClampNeg) rfl dX8_at_12 ?_
      refine mk_goto C 17 dX8_at_13 (by decide) ?_
      exact mk_iret C hr hlk (by rw [mkAt, if_pos (mk_nlt c1), if_pos (mk_nle c2)]) rfl dX8_at_17
set_option maxRecDepth 100000 in
theorem c_put (l : Launch) (D : va_G) (cI cJ cB cZ cS : ClassId) (X : Nat → Nat) (Y : mk_Y) (h : Nat) (n : Nat) (f : Nat → Int32) (i : Int32) (v : Int32) (hn : n < 2 ^ 31 := by decide) : mk_Met l yX8_put cX8_put 3 none ({ frames := 0, cells := 0, slots := 0, locals := 0 }) D (mk_TY cI cJ cB cZ cS) X Y [.ref h, .int i, .int v] [(h, .inl (cI, n, .inl (f)))] [(h, .inl (cI, n, .inl (mkPut n f i v)))] none 0 0 := by
  refine mk_start (own := RX8) (by decide) rfl (Nat.le_of_ble_eq_true rfl) ?_
  intro sz p e s m args below meth c A C hr hlk hnm
  replace C : mk_Cx p s m args c cX8_put 3 RX8 D (mk_TY cI cJ cB cZ cS) X Y A := C
  refine mk_iload_n C 1 dX8_put_0 rfl ?_
  refine mk_if_lt C 14 dX8_put_1 (by decide) (fun c1 => ?_) (fun c1 => ?_)
  · exact mk_vret C hr hlk (by rw [mkPut, if_neg (mk_lt_nle c1)]) dX8_put_14
  · refine mk_iload_n C 1 dX8_put_4 rfl ?_
    refine mk_aload_n C 0 dX8_put_5 rfl ?_
    refine mk_alen C 0 0 rfl rfl (v := nI n) rfl dX8_put_6 ?_
    refine mk_icmp_ge C 14 dX8_put_7 (by decide) (fun c2 => ?_) (fun c2 => ?_)
    · exact mk_vret C hr hlk (by rw [mkPut, if_pos (mk_nlt c1), if_neg (mk_le_nlt c2)]) dX8_put_14
    · refine mk_aload_n C 0 dX8_put_10 rfl ?_
      refine mk_iload_n C 1 dX8_put_11 rfl ?_
      refine mk_iload_n C 2 dX8_put_12 rfl ?_
      refine mk_iast C 0 0 (f := f) rfl rfl (mk_inr hn c1 c2) (j := i.toNatClampNeg) rfl (ws' := [(h, .inl (cI, n, .inl (upd f i.toNatClampNeg v)))]) rfl dX8_put_13 ?_
      exact mk_vret C hr hlk (by rw [mkPut, if_pos (mk_nlt c1), if_pos (mk_nle c2)]) dX8_put_14
theorem mkFill_0 {α : Type} (f : Nat → α) (v : α) : mkFill 0 f v = f := by funext j; simp [mkFill]
theorem mkFill_s (f : Nat → Int32) (v : Int32) (i : Nat) : upd (mkFill i f v) i v = mkFill (i + 1) f v := by
  funext j
  unfold upd mkFill
  rcases Nat.lt_trichotomy j i with q | q | q
  · rw [if_neg (by omega), if_pos q, if_pos (by omega)]
  · rw [if_pos q, if_pos (by omega)]
  · rw [if_neg (by omega), if_neg (by omega), if_neg (by omega)]
theorem mkFill_sL (f : Nat → Int64) (v : Int64) (i : Nat) : vp_updL (mkFill i f v) i v = mkFill (i + 1) f v := by
  funext j
  unfold vp_updL mkFill
  rcases Nat.lt_trichotomy j i with q | q | q
  · rw [if_neg (by omega), if_pos q, if_pos (by omega)]
  · rw [if_pos q, if_pos (by omega)]
  · rw [if_neg (by omega), if_neg (by omega), if_neg (by omega)]
set_option maxRecDepth 100000 in
theorem c_fill (l : Launch) (D : va_G) (cI cJ cB cZ cS : ClassId) (X : Nat → Nat) (Y : mk_Y) (h : Nat) (n : Nat) (f : Nat → Int32) (v : Int32) (hn : n < 2 ^ 31) : mk_Met l yJ7_fill_53178 cJ7_fill_53178 4 none ({ frames := 0, cells := 0, slots := 0, locals := 0 }) D (mk_TY cI cJ cB cZ cS) X Y [.ref h, .int v] [(h, .inl (cI, n, .inl (f)))] [(h, .inl (cI, n, .inl (mkFill n f v)))] none 0 0 := by
  refine mk_start (own := RJ7) (by decide) rfl (Nat.le_of_ble_eq_true rfl) ?_
  intro sz p e s m args below meth c A C hr hlk hnm
  replace C : mk_Cx p s m args c cJ7_fill_53178 4 RJ7 D (mk_TY cI cJ cB cZ cS) X Y A := C
  have w : ∀ (k i : Nat), i + k = n → mk_Go p l e (headSpec (mk_ws yJ7_fill_53178 cJ7_fill_53178 4 none) ({ frames := 0, cells := 0, slots := 0, locals := 0 })).room s m args below meth c D A 4 0 0 (MQ below (mk_Q none D [(h, .inl (cI, n, .inl (mkFill n f v)))] A) args s 0 0 A) 5 [(h, .inl (cI, n, .inl (mkFill i f v)))] [(0, .ref h), (1, .int v), (2, .int (nI i)), (3, .int (nI n))] [] := by
    intro k
    induction k with
    | zero =>
      intro i hi
      obtain rfl : i = n := by omega
      refine mk_iload_n C 2 dJ7_fill_53178_5 rfl ?_
      refine mk_iload_n C 3 dJ7_fill_53178_6 rfl ?_
      refine mk_icmp_ge C 20 dJ7_fill_53178_7 (by decide) (fun c1 => ?_) (fun c1 => ?_)
      · exact mk_vret C hr hlk rfl dJ7_fill_53178_20
      · exact absurd (nI_le (Nat.le_refl _) hn) c1
    | succ k ih =>
      intro i hi
      refine mk_iload_n C 2 dJ7_fill_53178_5 rfl ?_
      refine mk_iload_n C 3 dJ7_fill_53178_6 rfl ?_
      refine mk_icmp_ge C 20 dJ7_fill_53178_7 (by decide) (fun c1 => ?_) (fun c1 => ?_)
      · exact absurd c1 (nI_ge (by omega) hn)
      · refine mk_aload_n C 0 dJ7_fill_53178_10 rfl ?_
        refine mk_iload_n C 2 dJ7_fill_53178_11 rfl ?_
        refine mk_iload_n C 1 dJ7_fill_53178_12 rfl ?_
        refine mk_iast C 0 0 (f := mkFill i f v) rfl rfl (vp_in_nI (by omega) hn) (j := i) (nI_clamp (by omega)) (ws' := [(h, .inl (cI, n, .inl (mkFill (i + 1) f v)))]) (by rw [← mkFill_s]; rfl) dJ7_fill_53178_13 ?_
        refine mk_iinc C (v := nI (i + 1)) (lv' := [(2, .int (nI (i + 1))), (0, .ref h), (1, .int v), (3, .int (nI n))]) 2 dJ7_fill_53178_14 rfl (nI_1 i) (by decide) rfl ?_
        refine mk_goto C 5 dJ7_fill_53178_17 (by decide) ?_
        exact mk_lvsub [1, 2, 0, 3] rfl (ih (i + 1) (by omega))
  refine mk_iconst C (v := 0) dJ7_fill_53178_0 (by decide) ?_
  refine mk_istore_n C (lv' := [(2, .int 0), (0, .ref h), (1, .int v)]) dJ7_fill_53178_1 (by decide) rfl ?_
  refine mk_aload_n C 1 dJ7_fill_53178_2 rfl ?_
  refine mk_alen C 0 0 rfl rfl (v := nI n) rfl dJ7_fill_53178_3 ?_
  refine mk_istore_n C (lv' := [(3, .int (nI n)), (2, .int 0), (0, .ref h), (1, .int v)]) dJ7_fill_53178_4 (by decide) rfl ?_
  refine mk_lvsub [2, 3, 1, 0] (lv' := [(0, .ref h), (1, .int v), (2, .int (nI 0)), (3, .int (nI n))]) rfl ?_
  refine mk_weq (ws' := [(h, .inl (cI, n, .inl (mkFill 0 f v)))]) (by rw [mkFill_0]) ?_
  exact w n 0 (by omega)
def bc1 (x : Int32) : Int32 := x - (((x.toUInt32 >>> ((1 : Int32).toUInt32 &&& Int32.toUInt32 31)).toInt32) &&& 1431655765)
def bc2 (x : Int32) : Int32 := (x &&& 858993459) + (((x.toUInt32 >>> ((2 : Int32).toUInt32 &&& Int32.toUInt32 31)).toInt32) &&& 858993459)
def bc3 (x : Int32) : Int32 := (x + ((x.toUInt32 >>> ((4 : Int32).toUInt32 &&& Int32.toUInt32 31)).toInt32)) &&& 252645135
def bc4 (x : Int32) : Int32 := x + ((x.toUInt32 >>> ((8 : Int32).toUInt32 &&& Int32.toUInt32 31)).toInt32)
def bc5 (x : Int32) : Int32 := x + ((x.toUInt32 >>> ((16 : Int32).toUInt32 &&& Int32.toUInt32 31)).toInt32)
def mkBits (x : Int32) : Int32 := bc5 (bc4 (bc3 (bc2 (bc1 x)))) &&& 63
set_option maxRecDepth 100000 in
theorem c_bits (l : Launch) (D : va_G) (cI cJ cB cZ cS : ClassId) (X : Nat → Nat) (Y : mk_Y) (x : Int32) : mk_Met l yJ6_bitCount_0f7a4 cJ6_bitCount_0f7a4 1 (some .int) ({ frames := 0, cells := 0, slots := 0, locals := 0 }) D (mk_TY cI cJ cB cZ cS) X Y [.int x] [] [] (some (.int (mkBits x))) 0 0 := by
  refine mk_start (own := RJ6) (by decide) rfl (Nat.le_of_ble_eq_true rfl) ?_
  intro sz p e s m args below meth c A C hr hlk hnm
  replace C : mk_Cx p s m args c cJ6_bitCount_0f7a4 1 RJ6 D (mk_TY cI cJ cB cZ cS) X Y A := C
  refine mk_iload_n C 0 dJ6_bitCount_0f7a4_0 rfl ?_
  refine mk_iload_n C 0 dJ6_bitCount_0f7a4_1 rfl ?_
  refine mk_iconst C (v := 1) dJ6_bitCount_0f7a4_2 (by decide) ?_
  refine mk_iushr C dJ6_bitCount_0f7a4_3 ?_
  refine mk_ldcw C (v := 1431655765) mw_542 dJ6_bitCount_0f7a4_4 ?_
  refine mk_iand C dJ6_bitCount_0f7a4_7 ?_
  refine mk_isub C dJ6_bitCount_0f7a4_8 ?_
  refine mk_topi (y := (bc1 x)) rfl ?_
  refine mk_istore_n C (lv' := [(0, .int (bc1 x))]) dJ6_bitCount_0f7a4_9 (by decide) rfl ?_
  refine mk_iload_n C 0 dJ6_bitCount_0f7a4_10 rfl ?_
  refine mk_ldcw C (v := 858993459) mw_543 dJ6_bitCount_0f7a4_11 ?_
  refine mk_iand C dJ6_bitCount_0f7a4_14 ?_
  refine mk_iload_n C 0 dJ6_bitCount_0f7a4_15 rfl ?_
  refine mk_iconst C (v := 2) dJ6_bitCount_0f7a4_16 (by decide) ?_
  refine mk_iushr C dJ6_bitCount_0f7a4_17 ?_
  refine mk_ldcw C (v := 858993459) mw_543 dJ6_bitCount_0f7a4_18 ?_
  refine mk_iand C dJ6_bitCount_0f7a4_21 ?_
  refine mk_iadd C dJ6_bitCount_0f7a4_22 ?_
  refine mk_topi (y := (bc2 (bc1 x))) rfl ?_
  refine mk_istore_n C (lv' := [(0, .int (bc2 (bc1 x)))]) dJ6_bitCount_0f7a4_23 (by decide) rfl ?_
  refine mk_iload_n C 0 dJ6_bitCount_0f7a4_24 rfl ?_
  refine mk_iload_n C 0 dJ6_bitCount_0f7a4_25 rfl ?_
  refine mk_iconst C (v := 4) dJ6_bitCount_0f7a4_26 (by decide) ?_
  refine mk_iushr C dJ6_bitCount_0f7a4_27 ?_
  refine mk_iadd C dJ6_bitCount_0f7a4_28 ?_
  refine mk_ldcw C (v := 252645135) mw_544 dJ6_bitCount_0f7a4_29 ?_
  refine mk_iand C dJ6_bitCount_0f7a4_32 ?_
  refine mk_topi (y := (bc3 (bc2 (bc1 x)))) rfl ?_
  refine mk_istore_n C (lv' := [(0, .int (bc3 (bc2 (bc1 x))))]) dJ6_bitCount_0f7a4_33 (by decide) rfl ?_
  refine mk_iload_n C 0 dJ6_bitCount_0f7a4_34 rfl ?_
  refine mk_iload_n C 0 dJ6_bitCount_0f7a4_35 rfl ?_
  refine mk_bipush C (v := 8) dJ6_bitCount_0f7a4_36 (by decide) ?_
  refine mk_iushr C dJ6_bitCount_0f7a4_38 ?_
  refine mk_iadd C dJ6_bitCount_0f7a4_39 ?_
  refine mk_topi (y := (bc4 (bc3 (bc2 (bc1 x))))) rfl ?_
  refine mk_istore_n C (lv' := [(0, .int (bc4 (bc3 (bc2 (bc1 x)))))]) dJ6_bitCount_0f7a4_40 (by decide) rfl ?_
  refine mk_iload_n C 0 dJ6_bitCount_0f7a4_41 rfl ?_
  refine mk_iload_n C 0 dJ6_bitCount_0f7a4_42 rfl ?_
  refine mk_bipush C (v := 16) dJ6_bitCount_0f7a4_43 (by decide) ?_
  refine mk_iushr C dJ6_bitCount_0f7a4_45 ?_
  refine mk_iadd C dJ6_bitCount_0f7a4_46 ?_
  refine mk_topi (y := (bc5 (bc4 (bc3 (bc2 (bc1 x)))))) rfl ?_
  refine mk_istore_n C (lv' := [(0, .int (bc5 (bc4 (bc3 (bc2 (bc1 x))))))]) dJ6_bitCount_0f7a4_47 (by decide) rfl ?_
  refine mk_iload_n C 0 dJ6_bitCount_0f7a4_48 rfl ?_
  refine mk_bipush C (v := 63) dJ6_bitCount_0f7a4_49 (by decide) ?_
  refine mk_iand C dJ6_bitCount_0f7a4_51 ?_
  exact mk_iret C hr hlk rfl rfl dJ6_bitCount_0f7a4_52
end
section
/-! String.length and String.charAt of the constants (Latin 1), over the JDK's own code -/
section MKSTR
variable {p : Program} {l : Launch} {e : Env} {R : Room} {s : State} {m : MethodId} {args : Array Value} {below : List Frame} {meth : Method} {c : Code} {D : va_G} {A : Nat → Prop} {nL cells slots : Nat} {Q : State → Prop} {pc : Nat} {ws : va_W} {lv : mk_L} {st : List Value} {cc : ByteArray} {own : String} {tys : List (ClassId × FieldType)} {X : Nat → Nat} {Y : mk_Y}
theorem mk_getE (C : mk_Cx p s m args c cc nL own D tys X Y A) {q : Nat} {n d : String} {v : Value} {index : Nat} (hE : va_OF "java/lang/String" n d v q A s s.heap) (hlink : Cond.fieldLink own index "java/lang/String" n d ∈ mk_WL) (hdg : decode cc pc = .ok (.getfield index, 3)) (kk : mk_Go p l e R s m args below meth c D A nL cells slots Q (pc + 3) ws lv (v :: st)) : mk_Go p l e R s m args below meth c D A nL cells slots Q pc ws lv (.ref q :: st) :=
  fun H locs ls hP hD hS hl => vk_getf C.1.1 C.1.2.1 hE hS C.1.2.2.2.1 (C.1.2.2.2.2 _ hlink) (fun _ h => h) hdg (kk H locs ls hP hD hS hl)
theorem mk_lenE (C : mk_Cx p s m args c cc nL own D tys X Y A) {t N : Nat} {f : Nat → Value} {ty : FieldType} (hT : va_T ty t N f A s s.heap) {v : Int32} (hv : Int32.ofNat N = v) (hdg : decode cc pc = .ok (.arraylength, 1)) (kk : mk_Go p l e R s m args below meth c D A nL cells slots Q (pc + 1) ws lv (.int v :: st)) : mk_Go p l e R s m args below meth c D A nL cells slots Q pc ws lv (.ref t :: st) :=
  fun H locs ls hP hD hS hl => va_tlen C.1.1 C.1.2.1 hT hS hv hdg (kk H locs ls hP hD hS hl)
theorem mk_baldE (C : mk_Cx p s m args c cc nL own D tys X Y A) {t N : Nat} {f : Nat → Value} (hT : va_T .byte t N f A s s.heap) {i : Int32} (hin : vp_in i N) {v : Value} (hv : f i.toNatClampNeg = v) (hdg : decode cc pc = .ok (.baload, 1)) (kk : mk_Go p l e R s m args below meth c D A nL cells slots Q (pc + 1) ws lv (v :: st)) : mk_Go p l e R s m args below meth c D A nL cells slots Q pc ws lv (.int i :: .ref t :: st) :=
  fun H locs ls hP hD hS hl => va_tb C.1.1 C.1.2.1 hT hS hin hv hdg (kk H locs ls hP hD hS hl)
theorem mk_gets (C : mk_Cx p s m args c cc nL own D tys X Y A) {Cn n d : String} {v : Value} {index : Nat} (hZ : va_Z Cn n d v A s s.heap) (hlink : Cond.fieldLink own index Cn n d ∈ mk_WL) (hdg : decode cc pc = .ok (.getstatic index, 3)) (kk : mk_Go p l e R s m args below meth c D A nL cells slots Q (pc + 3) ws lv (v :: st)) : mk_Go p l e R s m args below meth c D A nL cells slots Q pc ws lv st :=
  fun H locs ls hP hD hS hl => va_gets C.1.1 C.1.2.1 hZ hS C.1.2.2.2.1 (C.1.2.2.2.2 _ hlink) (fun _ h => h) hdg (kk H locs ls hP hD hS hl)
theorem mk_i2c (C : mk_Cx p s m args c cc nL own D tys X Y A) {x v : Int32} (hv : (x.toUInt32 % 65536).toInt32 = v) (hdg : decode cc pc = .ok (.i2c, 1)) (kk : mk_Go p l e R s m args below meth c D A nL cells slots Q (pc + 1) ws lv (.int v :: st)) : mk_Go p l e R s m args below meth c D A nL cells slots Q pc ws lv (.int x :: st) :=
  fun H locs ls hP hD hS hl => lv_i2c C.1.1 C.1.2.1 hdg hv (kk H locs ls hP hD hS hl)
end MKSTR
theorem mkn_J0_coder : mk_nm yJ0_coder_7d493 0 := by decide +kernel
theorem mkn_J0_isLatin1 : mk_nm yJ0_isLatin1_aae02 0 := by decide +kernel
theorem mkn_J1_charAt : mk_nm yJ1_charAt_3b067 2 := by decide +kernel
theorem mkn_J0_checkIndex : mk_nm yJ0_checkIndex_df160 2 := by decide +kernel
theorem mkn_J3_checkIndex : mk_nm yJ3_checkIndex_8e157 3 := by decide +kernel
set_option maxRecDepth 100000 in
theorem c_coder (l : Launch) (D : va_G) (cI cJ cB cZ cS : ClassId) (X : Nat → Nat) (Y : mk_Y) (k : Nat) : mk_Met l yJ0_coder_7d493 cJ0_coder_7d493 1 (some .byte) ({ frames := 0, cells := 0, slots := 0, locals := 0 }) D (mk_TY cI cJ cB cZ cS) X Y [.ref (X k)] [] [] (some (.int 0)) 0 0 := by
  refine mk_start (own := RJ0) (by decide) rfl (Nat.le_of_ble_eq_true rfl) ?_
  intro sz p e s m args below meth c A C hr hlk hnm
  replace C : mk_Cx p s m args c cJ0_coder_7d493 1 RJ0 D (mk_TY cI cJ cB cZ cS) X Y A := C
  refine mk_gets C C.2.2.1.2.2.2.2.1 mw_402 dJ0_coder_7d493_0 ?_
  refine mk_if_eq C 13 dJ0_coder_7d493_3 (by decide) (fun c1 => absurd c1 (by decide)) (fun _ => ?_)
  refine mk_aload_n C 0 dJ0_coder_7d493_6 rfl ?_
  refine mk_getE C (C.2.2.1.2.1 k).2.1 mw_899 dJ0_coder_7d493_7 ?_
  refine mk_goto C 14 dJ0_coder_7d493_10 (by decide) ?_
  exact mk_zret C hr hlk rfl rfl rfl dJ0_coder_7d493_14
set_option maxRecDepth 100000 in
theorem c_isL (l : Launch) (D : va_G) (cI cJ cB cZ cS : ClassId) (X : Nat → Nat) (Y : mk_Y) (k : Nat) : mk_Met l yJ0_isLatin1_aae02 cJ0_isLatin1_aae02 1 (some .boolean) ({ frames := 0, cells := 0, slots := 0, locals := 0 }) D (mk_TY cI cJ cB cZ cS) X Y [.ref (X k)] [] [] (some (.int 1)) 0 0 := by
  refine mk_start (own := RJ0) (by decide) rfl (Nat.le_of_ble_eq_true rfl) ?_
  intro sz p e s m args below meth c A C hr hlk hnm
  replace C : mk_Cx p s m args c cJ0_isLatin1_aae02 1 RJ0 D (mk_TY cI cJ cB cZ cS) X Y A := C
  refine mk_gets C C.2.2.1.2.2.2.2.1 mw_402 dJ0_isLatin1_aae02_0 ?_
  refine mk_if_eq C 17 dJ0_isLatin1_aae02_3 (by decide) (fun c1 => absurd c1 (by decide)) (fun _ => ?_)
  refine mk_aload_n C 0 dJ0_isLatin1_aae02_6 rfl ?_
  refine mk_getE C (C.2.2.1.2.1 k).2.1 mw_899 dJ0_isLatin1_aae02_7 ?_
  refine mk_if_ne C 17 dJ0_isLatin1_aae02_10 (by decide) (fun c1 => absurd rfl c1) (fun _ => ?_)
  refine mk_iconst C (v := 1) dJ0_isLatin1_aae02_13 (by decide) ?_
  refine mk_goto C 18 dJ0_isLatin1_aae02_14 (by decide) ?_
  exact mk_zret C hr hlk rfl rfl rfl dJ0_isLatin1_aae02_18
set_option maxRecDepth 100000 in
theorem c_slenG (l : Launch) (D : va_G) (cI cJ cB cZ cS : ClassId) (X : Nat → Nat) (Y : mk_Y) (k : Nat) : mk_Met l yJ0_length_8abf5 cJ0_length_8abf5 1 (some .int) ({ frames := 1, cells := 0, slots := 0, locals := 40 }) D (mk_TY cI cJ cB cZ cS) X Y [.ref (X k)] [] [] (some (.int (nI (Y.1 k).2.1))) 0 0 := by
  refine mk_start (own := RJ0) (by decide) rfl (Nat.le_of_ble_eq_true rfl) ?_
  intro sz p e s m args below meth c A C hr hlk hnm
  replace C : mk_Cx p s m args c cJ0_length_8abf5 1 RJ0 D (mk_TY cI cJ cB cZ cS) X Y A := C
  refine mk_aload_n C 0 dJ0_length_8abf5_0 rfl ?_
  refine mk_getE C (C.2.2.1.2.1 k).2.2.1 mw_898 dJ0_length_8abf5_1 ?_
  refine mk_lenE C (C.2.2.1.2.1 k).2.2.2 (v := nI (Y.1 k).2.1) rfl dJ0_length_8abf5_4 ?_
  refine mk_aload_n C 0 dJ0_length_8abf5_5 rfl ?_
  refine mk_callEg C (c_coder l D cI cJ cB cZ cS X Y k) mw_398 mw_399 mw_400 mw_13 mw_401 mkn_J0_coder rfl ⟨Nat.le_of_ble_eq_true rfl, Nat.le_of_ble_eq_true rfl⟩ rfl (Nat.le_of_ble_eq_true rfl) dJ0_length_8abf5_6 rfl ?_
  refine mk_ishr C dJ0_length_8abf5_9 ?_
  exact mk_iret C hr hlk (sb_shr0 _) rfl dJ0_length_8abf5_10
set_option maxRecDepth 100000 in
theorem c_ckI (l : Launch) (D : va_G) (cI cJ cB cZ cS : ClassId) (X : Nat → Nat) (Y : mk_Y) (i n : Int32) (v : Value) (hv : v = .null ∨ ∃ t : Nat, v = .ref t) (h0 : ¬ i < 0) (h1 : i < n) : mk_Met l yJ3_checkIndex_8e157 cJ3_checkIndex_8e157 3 (some .int) ({ frames := 0, cells := 0, slots := 0, locals := 0 }) D (mk_TY cI cJ cB cZ cS) X Y [.int i, .int n, v] [] [] (some (.int i)) 0 0 := by
  refine mk_start (own := RJ3) (by decide) rfl (by rcases hv with rfl | ⟨t, rfl⟩ <;> exact Nat.le_of_ble_eq_true rfl) ?_
  intro sz p e s m args below meth c A C hr hlk hnm
  replace C : mk_Cx p s m args c cJ3_checkIndex_8e157 3 RJ3 D (mk_TY cI cJ cB cZ cS) X Y A := C
  refine mk_lvsub [0, 1] (lv' := [(0, .int i), (1, .int n)]) (by rcases hv with rfl | ⟨t, rfl⟩ <;> rfl) ?_
  refine mk_iload_n C 0 dJ3_checkIndex_8e157_0 rfl ?_
  refine mk_if_lt C 9 dJ3_checkIndex_8e157_1 (by decide) (fun c1 => absurd c1 h0) (fun _ => ?_)
  refine mk_iload_n C 0 dJ3_checkIndex_8e157_4 rfl ?_
  refine mk_iload_n C 1 dJ3_checkIndex_8e157_5 rfl ?_
  refine mk_icmp_lt C 16 dJ3_checkIndex_8e157_6 (by decide) (fun _ => ?_) (fun c1 => absurd h1 c1)
  refine mk_iload_n C 0 dJ3_checkIndex_8e157_16 rfl ?_
  exact mk_iret C hr hlk rfl rfl dJ3_checkIndex_8e157_17
set_option maxRecDepth 100000 in
theorem c_ckS (l : Launch) (D : va_G) (cI cJ cB cZ cS : ClassId) (X : Nat → Nat) (Y : mk_Y) (i n : Int32) (h0 : ¬ i < 0) (h1 : i < n) : mk_Met l yJ0_checkIndex_df160 cJ0_checkIndex_df160 2 none ({ frames := 1, cells := 0, slots := 0, locals := 40 }) D (mk_TY cI cJ cB cZ cS) X Y [.int i, .int n] [] [] none 0 0 := by
  refine mk_start (own := RJ0) (by decide) rfl (Nat.le_of_ble_eq_true rfl) ?_
  intro sz p e s m args below meth c A C hr hlk hnm
  replace C : mk_Cx p s m args c cJ0_checkIndex_df160 2 RJ0 D (mk_TY cI cJ cB cZ cS) X Y A := C
  refine mk_iload_n C 0 dJ0_checkIndex_df160_0 rfl ?_
  refine mk_iload_n C 1 dJ0_checkIndex_df160_1 rfl ?_
  rcases C.2.2.1.2.2.2.2.2.1 with hz | ⟨t, hz⟩
  · refine mk_gets C hz mw_418 dJ0_checkIndex_df160_2 ?_
    refine mk_callSi C (c_ckI l D cI cJ cB cZ cS X Y i n .null (Or.inl rfl) h0 h1) mw_420 mw_421 mw_19 mw_422 mkn_J3_checkIndex rfl ⟨Nat.le_of_ble_eq_true rfl, Nat.le_of_ble_eq_true rfl⟩ (mk_Fr.nil _) (Nat.le_of_ble_eq_true rfl) dJ0_checkIndex_df160_5 rfl ?_
    refine mk_pop C dJ0_checkIndex_df160_8 rfl ?_
    exact mk_vret C hr hlk rfl dJ0_checkIndex_df160_9
  · refine mk_gets C hz mw_418 dJ0_checkIndex_df160_2 ?_
    refine mk_callSi C (c_ckI l D cI cJ cB cZ cS X Y i n (.ref t) (Or.inr ⟨t, rfl⟩) h0 h1) mw_420 mw_421 mw_19 mw_422 mkn_J3_checkIndex rfl ⟨Nat.le_of_ble_eq_true rfl, Nat.le_of_ble_eq_true rfl⟩ (mk_Fr.nil _) (Nat.le_of_ble_eq_true rfl) dJ0_checkIndex_df160_5 rfl ?_
    refine mk_pop C dJ0_checkIndex_df160_8 rfl ?_
    exact mk_vret C hr hlk rfl dJ0_checkIndex_df160_9
theorem mk_chr : ∀ c : Nat, c < 128 → ((nI c &&& 255).toUInt32 % 65536).toInt32 = nI c ∧ narrow .char (.int (nI c)) = .int (nI c) := by decide +kernel
/-- what is told of the strings without a state -/
theorem mk_pure {l : Launch} {y : MethodName} {cc : ByteArray} {nL : Nat} {ret : Option FieldType} {rm : Room} {D : va_G} {tys : List (ClassId × FieldType)} {X : Nat → Nat} {Y : mk_Y} {av : List Value} {ws0 w1 : va_W} {res : Option Value} {mc ms : Nat} (h : mk_Pu Y → mk_Met l y cc nL ret rm D tys X Y av ws0 w1 res mc ms) : mk_Met l y cc nL ret rm D tys X Y av ws0 w1 res mc ms := by
  by_cases hY : mk_Pu Y
  · exact h hY
  · intro sz
    unfold Met MetFree
    intro p e ha hc hk s m args below hf happ hP
    exact absurd hP.2.2.2.2.2.2.2.1 hY
set_option maxRecDepth 100000 in
theorem c_l1 (l : Launch) (D : va_G) (cI cJ cB cZ cS : ClassId) (X : Nat → Nat) (Y : mk_Y) (k j : Nat) (hj : j < (Y.1 k).2.1) (hY : mk_Sp (Y.1 k)) : mk_Met l yJ1_charAt_3b067 cJ1_charAt_3b067 2 (some .char) ({ frames := 2, cells := 0, slots := 0, locals := 80 }) D (mk_TY cI cJ cB cZ cS) X Y [.ref (Y.1 k).1, .int (nI j)] [] [] (some (.int (nI ((Y.1 k).2.2 j)))) 0 0 := by
  have hn31 : (Y.1 k).2.1 < 2 ^ 31 := Nat.lt_of_le_of_lt hY.1 (by decide)
  have hj31 : j < 2 ^ 31 := Nat.lt_trans hj hn31
  have hi : vp_in (nI j) (Y.1 k).2.1 := vp_in_nI hj hn31
  refine mk_start (own := RJ1) (by decide) rfl (Nat.le_of_ble_eq_true rfl) ?_
  intro sz p e s m args below meth c A C hr hlk hnm
  replace C : mk_Cx p s m args c cJ1_charAt_3b067 2 RJ1 D (mk_TY cI cJ cB cZ cS) X Y A := C
  refine mk_iload_n C 1 dJ1_charAt_3b067_0 rfl ?_
  refine mk_aload_n C 0 dJ1_charAt_3b067_1 rfl ?_
  refine mk_lenE C (C.2.2.1.2.1 k).2.2.2 (v := nI (Y.1 k).2.1) rfl dJ1_charAt_3b067_2 ?_
  refine mk_callSv C (c_ckS l D cI cJ cB cZ cS X Y (nI j) (nI (Y.1 k).2.1) (nI_pos hj31) (nI_lt hj hn31)) mw_415 mw_416 mw_13 mw_417 mkn_J0_checkIndex rfl ⟨Nat.le_of_ble_eq_true rfl, Nat.le_of_ble_eq_true rfl⟩ (mk_Fr.nil _) (Nat.le_of_ble_eq_true rfl) dJ1_charAt_3b067_3 rfl ?_
  refine mk_aload_n C 0 dJ1_charAt_3b067_6 rfl ?_
  refine mk_iload_n C 1 dJ1_charAt_3b067_7 rfl ?_
  refine mk_baldE C (C.2.2.1.2.1 k).2.2.2 hi (v := .int (nI ((Y.1 k).2.2 j))) (by rw [nI_clamp hj31]) dJ1_charAt_3b067_8 ?_
  refine mk_sipush C (v := 255) dJ1_charAt_3b067_9 (by decide) ?_
  refine mk_iand C dJ1_charAt_3b067_12 ?_
  refine mk_i2c C (mk_chr _ (hY.2 j hj)).1 dJ1_charAt_3b067_13 ?_
  exact mk_zret C hr hlk (mk_chr _ (hY.2 j hj)).2 rfl rfl dJ1_charAt_3b067_14
set_option maxRecDepth 100000 in
theorem c_satG (l : Launch) (D : va_G) (cI cJ cB cZ cS : ClassId) (X : Nat → Nat) (Y : mk_Y) (k j : Nat) (hj : j < (Y.1 k).2.1) (hY : mk_Sp (Y.1 k)) : mk_Met l yJ0_charAt_5068e cJ0_charAt_5068e 2 (some .char) ({ frames := 5, cells := 0, slots := 0, locals := 160 }) D (mk_TY cI cJ cB cZ cS) X Y [.ref (X k), .int (nI j)] [] [] (some (.int (nI ((Y.1 k).2.2 j)))) 0 0 := by
  refine mk_start (own := RJ0) (by decide) rfl (Nat.le_of_ble_eq_true rfl) ?_
  intro sz p e s m args below meth c A C hr hlk hnm
  replace C : mk_Cx p s m args c cJ0_charAt_5068e 2 RJ0 D (mk_TY cI cJ cB cZ cS) X Y A := C
  have hn : narrow .char (.int (nI ((Y.1 k).2.2 j))) = .int (nI ((Y.1 k).2.2 j)) := (mk_chr _ (hY.2 j hj)).2
  refine mk_aload_n C 0 dJ0_charAt_5068e_0 rfl ?_
  refine mk_callEg C (c_isL l D cI cJ cB cZ cS X Y k) mw_408 mw_409 mw_410 mw_13 mw_411 mkn_J0_isLatin1 rfl ⟨Nat.le_of_ble_eq_true rfl, Nat.le_of_ble_eq_true rfl⟩ rfl (Nat.le_of_ble_eq_true rfl) dJ0_charAt_5068e_1 rfl ?_
  refine mk_if_eq C 16 dJ0_charAt_5068e_4 (by decide) (fun c1 => absurd c1 (by decide)) (fun _ => ?_)
  refine mk_aload_n C 0 dJ0_charAt_5068e_7 rfl ?_
  refine mk_getE C (C.2.2.1.2.1 k).2.2.1 mw_898 dJ0_charAt_5068e_8 ?_
  refine mk_iload_n C 1 dJ0_charAt_5068e_11 rfl ?_
  refine mk_callSi C (c_l1 l D cI cJ cB cZ cS X Y k j hj hY) mw_412 mw_413 mw_20 mw_414 mkn_J1_charAt rfl ⟨Nat.le_of_ble_eq_true rfl, Nat.le_of_ble_eq_true rfl⟩ (mk_Fr.nil _) (Nat.le_of_ble_eq_true rfl) dJ0_charAt_5068e_12 rfl ?_
  exact mk_zret C hr hlk hn rfl rfl dJ0_charAt_5068e_15

theorem c_slen (l : Launch) (D : va_G) (cI cJ cB cZ cS : ClassId) (X : Nat → Nat) (Y : mk_Y) (k : Nat) (hk : k < 13) : mk_Met l yJ0_length_8abf5 cJ0_length_8abf5 1 (some .int) ({ frames := 1, cells := 0, slots := 0, locals := 40 }) D (mk_TY cI cJ cB cZ cS) X Y [.ref (X k)] [] [] (some (.int (mkLen k))) 0 0 :=
  mk_pure (fun h => by
    have e := (h.2 k (by omega)).1
    have c := c_slenG l D cI cJ cB cZ cS X Y k
    rw [e] at c
    exact c)
theorem c_sat (l : Launch) (D : va_G) (cI cJ cB cZ cS : ClassId) (X : Nat → Nat) (Y : mk_Y) (k : Nat) (hk : k < 13) (i : Int32) (hi : vp_in i (mk_len.getD k 0)) : mk_Met l yJ0_charAt_5068e cJ0_charAt_5068e 2 (some .char) ({ frames := 5, cells := 0, slots := 0, locals := 160 }) D (mk_TY cI cJ cB cZ cS) X Y [.ref (X k), .int i] [] [] (some (.int (mkChr k i))) 0 0 :=
  mk_pure (fun h => by
    have e := h.2 k (by omega)
    have h13 : mk_len.getD k 0 < 2 ^ 31 := by rw [← e.1]; exact Nat.lt_of_le_of_lt (h.1 k).1 (by decide)
    obtain ⟨j, hj, rfl⟩ := vp_in_of hi h13
    have c := c_satG l D cI cJ cB cZ cS X Y k j (by rw [e.1]; exact hj) (h.1 k)
    rw [e.2 j hj] at c
    rw [mkChr, nI_clamp (Nat.lt_trans hj h13)]
    exact c)
end
section
/-! making objects and rows; contracts of constructors -/
def mk_QN {S : Type} (D : va_G) (h0 : Nat) (hd : S → Nat) (wf : S → va_W) (A : Nat → Prop) : Array Value → State → Outcome → State → Prop := fun _ st oc t => (oc = .returned none ∧ ∃ u : S, hd u = h0 ∧ va_P D vwCl (wf u) t.heap ∧ va_D A (wf u)) ∧ va_F A st t
def mk_MetN {S : Type} (l : Launch) (y : MethodName) (cc : ByteArray) (nL : Nat) (rm : Room) (D : va_G) (tys : List (ClassId × FieldType)) (X : Nat → Nat) (Y : mk_Y) (h0 ci : Nat) (fs : List Value) (hd : S → Nat) (wf : S → va_W) (mc ms : Nat) : Prop :=
  ∀ sz : Nat, Met l y (mk_ws y cc nL none) rm (mk_Pc [.ref h0] D tys X Y [(h0, .inr (ci, fs))] sz) (mk_QN D h0 hd wf (va_A [(h0, .inr (ci, fs))] sz)) mc ms (va_A [(h0, .inr (ci, fs))] sz)
theorem mk_startN {S : Type} {l : Launch} {y : MethodName} {cc : ByteArray} {nL : Nat} {rm : Room} {D : va_G} {tys : List (ClassId × FieldType)} {X : Nat → Nat} {Y : mk_Y} {h0 ci : Nat} {fs : List Value} {hd : S → Nat} {wf : S → va_W} {mc ms : Nat} {own : String}
    (hy : plainName y.cls = true) (ho : y.cls = own) (hav : 1 ≤ nL)
    (body : ∀ (sz : Nat) (p : Program) (e : Env) (s : State) (m : MethodId) (args : Array Value) (below : List Frame) (meth : Method) (c : Code) (A : Nat → Prop), mk_Cx p s m args c cc nL own D tys X Y A → meth.sig.returnType = none → meth.locks = false → meth.name = y.name →
      mk_Go p l e (headSpec (mk_ws y cc nL none) rm).room s m args below meth c D A nL 0 0 (MQ below (mk_QN D h0 hd wf A) args s mc ms A) 0 [(h0, .inr (ci, fs))] [(0, .ref h0)] []) :
    mk_MetN l y cc nL rm D tys X Y h0 ci fs hd wf mc ms := by
  intro sz
  refine Met.ofW (cc := cc) (maxL := nL) (ret := none) hy rfl ?_
  intro p e s m args below meth c s₁ B hml hv
  obtain ⟨rfl, hsz, hP, hK, hD0, hE⟩ := hv
  have hown : s.vm.findClass own = some m.cls := by rw [← ho]; exact findClass_of_methodNamed B.named
  subst hsz
  have hD := hD0.self (sz := s.heap.size)
  have hA : ∀ q : Nat, s.heap.size ≤ q → va_A [(h0, .inr (ci, fs))] s.heap.size q := fun q h => Or.inr h
  have hl := lv_entry [.ref h0] (n := nL) hav
  rw [lg_entry_eq]
  exact body s.heap.size p e s m _ below meth c _ ⟨⟨B.exec, B.bytes, hml, hown, fun w hw => atoms_spec (ws := mk_ws y cc nL none) B.pre w (List.mem_cons_of_mem _ hw)⟩, hK, hE, hA⟩ B.returns B.notSynchronized (name_of_methodNamed B.named B.method).1 s.heap [] _ hP hD va_S.rf hl
section MKNEW
variable {p : Program} {l : Launch} {e : Env} {R : Room} {s : State} {m : MethodId} {args : Array Value} {below : List Frame} {meth : Method} {c : Code} {D : va_G} {A : Nat → Prop} {nL cells slots : Nat} {Q : State → Prop} {pc : Nat} {ws : va_W} {lv : mk_L} {st : List Value} {cc : ByteArray} {own : String} {tys : List (ClassId × FieldType)} {X : Nat → Nat} {Y : mk_Y}
theorem mk_perm {ws' : va_W} (h : ws.Perm ws') (kk : mk_Go p l e R s m args below meth c D A nL cells slots Q pc ws' lv st) : mk_Go p l e R s m args below meth c D A nL cells slots Q pc ws lv st :=
  fun H locs ls hP hD hS hl => kk H locs ls (mk_P.perm hP h) (mk_D.perm hD h) hS hl
theorem mk_drop (w0 : va_W) {ws' : va_W} (h : ws.Perm (w0 ++ ws')) (kk : mk_Go p l e R s m args below meth c D A nL cells slots Q pc ws' lv st) : mk_Go p l e R s m args below meth c D A nL cells slots Q pc ws lv st :=
  fun H locs ls hP hD hS hl => kk H locs ls (mk_P.right (mk_P.perm hP h)) (mk_D.right (mk_D.perm hD h)) hS hl
theorem mk_widen {k n : Nat} (h1 : cells ≤ k) (h2 : slots ≤ n) (kk : mk_Go p l e R s m args below meth c D A nL k n Q pc ws lv st) : mk_Go p l e R s m args below meth c D A nL cells slots Q pc ws lv st :=
  fun H locs ls hP hD hS hl => W.widen h1 h2 (kk H locs ls hP hD hS hl)
theorem mk_objI (C : mk_Cx p s m args c cc nL own D tys X Y A) {idx a : Nat} (h1 : Cond.methodLink own idx Lib.objectInit ∈ mk_WL) (h2 : Cond.instanceMethod Lib.objectInit ∈ mk_WL) (h3 : Cond.code Lib.objectInit ⟨#[0xb1]⟩ 1 none ∈ mk_WL) (hR : 1 ≤ R.frames ∧ (st.map fun v => v.category).sum + 12 ≤ R.locals) (hdg : decode cc pc = .ok (.invokespecial idx, 3)) (kk : mk_Go p l e R s m args below meth c D A nL cells slots Q (pc + 3) ws lv st) : mk_Go p l e R s m args below meth c D A nL cells slots Q pc ws lv (.ref a :: st) :=
  fun H locs ls hP hD hS hl => W.objInit C.1.1 C.1.2.1 C.1.2.2.2.1 (C.1.2.2.2.2 _ h1) (C.1.2.2.2.2 _ h2) (C.1.2.2.2.2 _ h3) rfl (by rw [C.1.2.2.1]; exact hl.1) rfl hdg hR.1 (by show 2 * 0 + _ + 12 ≤ _; have := hR.2; omega) (kk H locs ls hP hD hS hl)
theorem mk_new (C : mk_Cx p s m args c cc nL own D tys X Y A) {Cn : String} {T : u_T} {N ci index : Nat} (hin : ∀ w ∈ u_ws Cn T N, w ∈ mk_WL) (ty : Nat → FieldType) (hty : ∀ k, k < N → parseFieldDescriptor (T k).2.2.1 = some (ty k)) (hcl : Cond.classLink own index Cn ∈ mk_WL) (hinst : Cond.instantiable Cn N ∈ mk_WL) (hini : Cond.initialized Cn ∈ mk_WL) (hc : vwCl[ci]? = some (Cn, T, N)) {fs : List Value} (hfs : ∀ j, j < N → defaultValue (ty j) = vp_V fs j) (hroom : cells + 1 ≤ R.cells ∧ slots + N ≤ R.slots) (hdg : decode cc pc = .ok (.new index, 3)) (kk : ∀ q : Nat, mk_Go p l e R s m args below meth c D A nL (cells + 1) (slots + N) Q (pc + 3) (ws ++ [(q, .inr (ci, fs))]) lv (.ref q :: st)) : mk_Go p l e R s m args below meth c D A nL cells slots Q pc ws lv st :=
  fun H locs ls hP hD hS hl => va_new C.1.1 C.1.2.1 C.1.2.2.2.2 hin ty hty C.1.2.2.2.1 (C.1.2.2.2.2 _ hcl) (C.1.2.2.2.2 _ hinst) (C.1.2.2.2.2 _ hini) C.2.1 hP hD hS C.2.2.2 hc hfs hroom.1 hroom.2 hdg (fun q H1 hP1 hD1 hS1 => kk q H1 locs ls hP1 hD1 hS1 hl)
theorem mk_newaI {cI cJ cB cZ cS : ClassId} (C : mk_Cx p s m args c cc nL own D (mk_TY cI cJ cB cZ cS) X Y A) (hA : Cond.arrayClass .int ∈ mk_WL) {n : Int32} {N : Nat} (hn : ¬ n < 0) (hN : n.toNatClampNeg = N) (hbytes : N * 4 ≤ 536870912) (hroom : cells + 1 ≤ R.cells ∧ slots + N ≤ R.slots) (hdg : decode cc pc = .ok (.newarray .int, 2)) (kk : ∀ q : Nat, mk_Go p l e R s m args below meth c D A nL (cells + 1) (slots + N) Q (pc + 2) (ws ++ [(q, .inl (cI, N, .inl (fun _ => 0)))]) lv (.ref q :: st)) : mk_Go p l e R s m args below meth c D A nL cells slots Q pc ws lv (.int n :: st) :=
  fun H locs ls hP hD hS hl => va_newa (atype := .int) (ty := .int) (a0 := (N, .inl (fun _ => 0))) C.1.1 C.1.2.1 (C.1.2.2.2.2 _ hA) rfl C.2.1 hP hD hS C.2.2.2 (fun _ => rfl) hn hN hbytes hroom.1 hroom.2 hdg (fun q cA H1 hK1 hP1 hD1 hS1 => by
    have h1 : s.vm.findClass ("[" ++ FieldType.int.toString) = some cA := (hK1.2 5 (cA, .int) rfl).2
    have h2 : s.vm.findClass ("[" ++ FieldType.int.toString) = some cI := (C.2.1.2 0 (cI, .int) rfl).2
    have h3 : cA = cI := Option.some.inj (h1.symm.trans h2)
    subst h3
    exact kk q H1 locs ls hP1 hD1 hS1 hl)
theorem mk_newaL {cI cJ cB cZ cS : ClassId} (C : mk_Cx p s m args c cc nL own D (mk_TY cI cJ cB cZ cS) X Y A) (hA : Cond.arrayClass .long ∈ mk_WL) {n : Int32} {N : Nat} (hn : ¬ n < 0) (hN : n.toNatClampNeg = N) (hbytes : N * 8 ≤ 536870912) (hroom : cells + 1 ≤ R.cells ∧ slots + N ≤ R.slots) (hdg : decode cc pc = .ok (.newarray .long, 2)) (kk : ∀ q : Nat, mk_Go p l e R s m args below meth c D A nL (cells + 1) (slots + N) Q (pc + 2) (ws ++ [(q, .inl (cJ, N, .inr (.inl (fun _ => 0))))]) lv (.ref q :: st)) : mk_Go p l e R s m args below meth c D A nL cells slots Q pc ws lv (.int n :: st) :=
  fun H locs ls hP hD hS hl => va_newa (atype := .long) (ty := .long) (a0 := (N, .inr (.inl (fun _ => 0)))) C.1.1 C.1.2.1 (C.1.2.2.2.2 _ hA) rfl C.2.1 hP hD hS C.2.2.2 (fun _ => rfl) hn hN hbytes hroom.1 hroom.2 hdg (fun q cA H1 hK1 hP1 hD1 hS1 => by
    have h1 : s.vm.findClass ("[" ++ FieldType.long.toString) = some cA := (hK1.2 5 (cA, .long) rfl).2
    have h2 : s.vm.findClass ("[" ++ FieldType.long.toString) = some cJ := (C.2.1.2 1 (cJ, .long) rfl).2
    have h3 : cA = cJ := Option.some.inj (h1.symm.trans h2)
    subst h3
    exact kk q H1 locs ls hP1 hD1 hS1 hl)
theorem mk_vretN {S : Type} {h0 : Nat} {hd : S → Nat} {wf : S → va_W} (C : mk_Cx p s m args c cc nL own D tys X Y A) (hr : meth.sig.returnType = none) (hlocks : meth.locks = false) (u : S) (hu : hd u = h0) (hw : ws = wf u) (hdg : decode cc pc = .ok (.return_, 1)) : mk_Go p l e R s m args below meth c D A nL cells slots (MQ below (mk_QN D h0 hd wf A) args s cells slots A) pc ws lv [] :=
  fun H locs ls hP hD hS hl => by
    subst hw
    exact W.vret C.1.1 C.1.2.1 hr (fun t ht hW => ⟨⟨rfl, u, hu, by rw [ht]; exact hP, hD⟩, hS.F ht⟩) hS.2.2 hdg hlocks
theorem mk_backN {S : Type} {hd : S → Nat} {wf : S → va_W} {h0 : Nat} {ls : Array Slot} {H : Heap} {locs : List Loc} {st0 : List Value} {mc ms : Nat} {a : Array Value} {wr wc : va_W} (C : mk_Cx p s m args c cc nL own D tys X Y A) (hF : ws.Perm (wr ++ wc)) (hP : va_P D vwCl ws H) (hD : va_D A ws) (hS : va_S A s.heap H locs) (hl : lv_has ls nL lv)
    (hr : va_Run p l e R s m args below meth c H locs cells slots mc ms (F0 m pc ls st0) st (mk_QN D h0 hd wf (va_A wc H.size) a) (va_A wc H.size))
    (kk : ∀ u : S, hd u = h0 → mk_Go p l e R s m args below meth c D A nL (cells + mc) (slots + ms) Q (pc + 3) (wr ++ wf u) lv st) : W p l e R s m args below meth c H locs cells slots Q (F0 m pc ls st0) := by
  have hF0 : mk_Fr ws wc wc ws := ⟨wr, hF, hF⟩
  have hFc := hF0.free hD hS C.2.2.2
  intro T hT X0
  obtain ⟨v, st₀, t, T', L, h0', X', hL, e1, e2, ⟨⟨hv, u, hu, hp, hd'⟩, hz, hk⟩, stp⟩ := hr T hT X0
  cases hv
  rw [h0'] at hz hk
  obtain ⟨hP', hD'⟩ := mk_join (ws' := wr ++ wf u) ⟨wr, hF, List.Perm.refl _⟩ hP hD hFc hk hp hd'
  obtain ⟨t2, a1, b1⟩ := kk u hu t.heap (locs ++ L) ls hP' hD'
    ⟨Nat.le_trans hS.1 hz, fun q h1 h2 => by rw [hk q (Nat.lt_of_lt_of_le h1 hS.1) (fun z => h2 (hFc q z))]; exact hS.2.1 q h1 h2, fun q hq => by
      rcases List.mem_append.mp hq with h | h
      · exact hS.2.2 q h
      · exact hFc _ (hL q h)⟩ hl T' e1 X'
  exact ⟨t2, stp t2 a1, b1⟩
/-- a nest mate's private constructor -/
theorem mk_callIN {S : Type} {hd : S → Nat} {wf : S → va_W} (C : mk_Cx p s m args c cc nL own D tys X Y A) {y : MethodName} {cy : ByteArray} {nY index q ci : Nat} {rm : Room} {fs : List Value} {wr : va_W} {mc ms : Nat}
    (hM : mk_MetN l y cy nY rm D tys X Y q ci fs hd wf mc ms) (h1 : (own, index, y) ∈ mk_nest) (h2 : Cond.instanceMethod y ∈ mk_WL) (h4 : Cond.initialized y.cls ∈ mk_WL) (h5 : Cond.code y cy nY none ∈ mk_WL) (hn : mk_nm y 0) (hi : y.name = "<init>")
    (hR : rm.frames + 1 ≤ R.frames ∧ 8 + (nY + 11) + rm.locals ≤ R.locals) (hrm : rm.cells = mc ∧ rm.slots = ms) (hroom : cells + mc ≤ R.cells ∧ slots + ms ≤ R.slots) (hF : ws.Perm (wr ++ [(q, .inr (ci, fs))])) (hst : (st.map fun v => v.category).sum ≤ 8)
    (hdg : decode cc pc = .ok (.invokespecial index, 3)) (kk : ∀ u : S, hd u = q → mk_Go p l e R s m args below meth c D A nL (cells + mc) (slots + ms) Q (pc + 3) (wr ++ wf u) lv st) : mk_Go p l e R s m args below meth c D A nL cells slots Q pc ws lv (.ref q :: st) := by
  intro H locs ls hP hD hS hl
  have hF0 : mk_Fr ws [(q, .inr (ci, fs))] [(q, .inr (ci, fs))] ws := ⟨wr, hF, hF⟩
  have hp := mk_pre (av := [.ref q]) C hF0 hP hD hS
  exact mk_backN C hF hP hD hS hl (va_runIN (As := []) (rest := st) (n := 0) C.1 (hM H.size) ⟨va_cnB 0 C.1.2.2.2.2 (mk_good h5) rfl hrm.1 hrm.2 (C.2.2.1.1.1 _ h1) (C.1.2.2.2.2 _ h4) hn hR, hi, C.1.2.2.2.2 _ h2⟩ hp rfl rfl hl.1 rfl (lv_room hst) hdg hroom) kk
/-- a constructor -/
theorem mk_callI {S : Type} {hd : S → Nat} {wf : S → va_W} (C : mk_Cx p s m args c cc nL own D tys X Y A) {y : MethodName} {cy : ByteArray} {nY index q ci : Nat} {rm : Room} {fs : List Value} {wr : va_W} {mc ms : Nat}
    (hM : mk_MetN l y cy nY rm D tys X Y q ci fs hd wf mc ms) (h1 : Cond.methodLink own index y ∈ mk_WL) (h2 : Cond.instanceMethod y ∈ mk_WL) (h4 : Cond.initialized y.cls ∈ mk_WL) (h5 : Cond.code y cy nY none ∈ mk_WL) (hn : mk_nm y 0) (hi : y.name = "<init>")
    (hR : rm.frames + 1 ≤ R.frames ∧ 8 + (nY + 11) + rm.locals ≤ R.locals) (hrm : rm.cells = mc ∧ rm.slots = ms) (hroom : cells + mc ≤ R.cells ∧ slots + ms ≤ R.slots) (hF : ws.Perm (wr ++ [(q, .inr (ci, fs))])) (hst : (st.map fun v => v.category).sum ≤ 8)
    (hdg : decode cc pc = .ok (.invokespecial index, 3)) (kk : ∀ u : S, hd u = q → mk_Go p l e R s m args below meth c D A nL (cells + mc) (slots + ms) Q (pc + 3) (wr ++ wf u) lv st) : mk_Go p l e R s m args below meth c D A nL cells slots Q pc ws lv (.ref q :: st) := by
  intro H locs ls hP hD hS hl
  have hF0 : mk_Fr ws [(q, .inr (ci, fs))] [(q, .inr (ci, fs))] ws := ⟨wr, hF, hF⟩
  have hp := mk_pre (av := [.ref q]) C hF0 hP hD hS
  exact mk_backN C hF hP hD hS hl (va_runI (As := []) (rest := st) (n := 0) C.1 (hM H.size) ⟨callB_of 0 C.1.2.2.2.2 (mk_good h5) rfl hrm.1 hrm.2 (C.1.2.2.2.2 _ h4) (C.1.2.2.2.2 _ h1) hn hR, hi, C.1.2.2.2.2 _ h2⟩ hp rfl rfl hl.1 rfl (lv_room hst) hdg hroom) kk
end MKNEW
theorem mk_setL {A A' B : va_W} {q : Nat} {x : Nat × va_E} (h : A.set q x = A') (hq : q < A.length) : (A ++ B).set q x = A' ++ B := by
  rw [List.set_append_left _ _ hq, h]
end
section
/-! further rows: rows of bytes, of truth values, of references; calls with an answer that is told by a property; strings that were made become the callee's surroundings -/
section MKROWS2
variable {p : Program} {l : Launch} {e : Env} {R : Room} {s : State} {m : MethodId} {args : Array Value} {below : List Frame} {meth : Method} {c : Code} {D : va_G} {A : Nat → Prop} {nL cells slots : Nat} {Q : State → Prop} {pc : Nat} {ws : va_W} {lv : mk_L} {st : List Value} {cc : ByteArray} {own : String} {tys : List (ClassId × FieldType)} {X : Nat → Nat} {Y : mk_Y}
theorem mk_dup2x1 (C : mk_Cx p s m args c cc nL own D tys X Y A) {va vb vd : Value} (hdg : decode cc pc = .ok (.dup2_x1, 1)) (hva : va.category = 1) (hvb : vb.category = 1) (hvd : vd.category = 1) (kk : mk_Go p l e R s m args below meth c D A nL cells slots Q (pc + 1) ws lv (va :: vb :: vd :: va :: vb :: st)) : mk_Go p l e R s m args below meth c D A nL cells slots Q pc ws lv (va :: vb :: vd :: st) := by
  intro H locs ls hP hD hS hl T hT X0
  obtain ⟨t, a, b⟩ := kk H locs ls hP hD hS hl T hT X0
  refine ⟨t, ?_, b⟩
  have hexec := C.1.1
  have hb := C.1.2.1
  jvm_step X0.here [X0.here.top, hexec, hb, hdg, hva, hvb, hvd]
  exact a
theorem mk_dupx1 (C : mk_Cx p s m args c cc nL own D tys X Y A) {va vb : Value} (hdg : decode cc pc = .ok (.dup_x1, 1)) (hva : va.category = 1) (hvb : vb.category = 1) (kk : mk_Go p l e R s m args below meth c D A nL cells slots Q (pc + 1) ws lv (va :: vb :: va :: st)) : mk_Go p l e R s m args below meth c D A nL cells slots Q pc ws lv (va :: vb :: st) :=
  fun H locs ls hP hD hS hl => lv_dup_x1 C.1.1 C.1.2.1 hdg hva hvb (kk H locs ls hP hD hS hl)
theorem mk_dupx2 (C : mk_Cx p s m args c cc nL own D tys X Y A) {va vb vd : Value} (hdg : decode cc pc = .ok (.dup_x2, 1)) (hva : va.category = 1) (hvb : vb.category = 1) (hvd : vd.category = 1) (kk : mk_Go p l e R s m args below meth c D A nL cells slots Q (pc + 1) ws lv (va :: vb :: vd :: va :: st)) : mk_Go p l e R s m args below meth c D A nL cells slots Q pc ws lv (va :: vb :: vd :: st) :=
  fun H locs ls hP hD hS hl => lv_dup_x2 C.1.1 C.1.2.1 hdg hva hvb hvd (kk H locs ls hP hD hS hl)
theorem mk_anull (C : mk_Cx p s m args c cc nL own D tys X Y A) (hdg : decode cc pc = .ok (.aconst_null, 1)) (kk : mk_Go p l e R s m args below meth c D A nL cells slots Q (pc + 1) ws lv (.null :: st)) : mk_Go p l e R s m args below meth c D A nL cells slots Q pc ws lv st :=
  fun H locs ls hP hD hS hl => lv_null C.1.1 C.1.2.1 hdg (kk H locs ls hP hD hS hl)
theorem mk_ifnn (C : mk_Cx p s m args c cc nL own D tys X Y A) {x : Nat} {off : Int} (tgt : Nat) (hdg : decode cc pc = .ok (.ifnonnull off, 3)) (ht : (pc : Int) + off = (tgt : Int)) (kk : mk_Go p l e R s m args below meth c D A nL cells slots Q tgt ws lv st) : mk_Go p l e R s m args below meth c D A nL cells slots Q pc ws lv (.ref x :: st) :=
  fun H locs ls hP hD hS hl => lv_ifnonnull C.1.1 C.1.2.1 hdg ht (kk H locs ls hP hD hS hl)
theorem mk_bald (C : mk_Cx p s m args c cc nL own D tys X Y A) {a : Nat} (q0 t0 : Nat) {cA : ClassId} {n : Nat} {f : Nat → Int32} (ha : ws[q0]? = some (a, .inl (cA, n, .inl f))) (ht : tys[t0]? = some (cA, .byte)) {i : Int32} (hin : vp_in i n) {j : Nat} (hj : i.toNatClampNeg = j) (hdg : decode cc pc = .ok (.baload, 1)) (kk : mk_Go p l e R s m args below meth c D A nL cells slots Q (pc + 1) ws lv (.int (f j) :: st)) : mk_Go p l e R s m args below meth c D A nL cells slots Q pc ws lv (.int i :: .ref a :: st) := by
  subst hj
  exact fun H locs ls hP hD hS hl => va_bald C.1.1 C.1.2.1 C.2.1 hP q0 t0 ha ht hin hdg (kk H locs ls hP hD hS hl)
theorem mk_zald (C : mk_Cx p s m args c cc nL own D tys X Y A) {a : Nat} (q0 t0 : Nat) {cA : ClassId} {n : Nat} {f : Nat → Int32} (ha : ws[q0]? = some (a, .inl (cA, n, .inl f))) (ht : tys[t0]? = some (cA, .boolean)) {i : Int32} (hin : vp_in i n) {j : Nat} (hj : i.toNatClampNeg = j) (hdg : decode cc pc = .ok (.baload, 1)) (kk : mk_Go p l e R s m args below meth c D A nL cells slots Q (pc + 1) ws lv (.int (f j) :: st)) : mk_Go p l e R s m args below meth c D A nL cells slots Q pc ws lv (.int i :: .ref a :: st) := by
  subst hj
  exact fun H locs ls hP hD hS hl => va_zald C.1.1 C.1.2.1 C.2.1 hP q0 t0 ha ht hin hdg (kk H locs ls hP hD hS hl)
theorem mk_aald (C : mk_Cx p s m args c cc nL own D tys X Y A) {a : Nat} (q0 t0 : Nat) {cA : ClassId} {E : String} {n : Nat} {f : Nat → Option Nat} (ha : ws[q0]? = some (a, .inl (cA, n, .inr (.inr (.inr (.inr f)))))) (ht : tys[t0]? = some (cA, .object E)) {i : Int32} (hin : vp_in i n) {j x : Nat} (hj : i.toNatClampNeg = j) (hx : f j = some x) (hdg : decode cc pc = .ok (.aaload, 1)) (kk : mk_Go p l e R s m args below meth c D A nL cells slots Q (pc + 1) ws lv (.ref x :: st)) : mk_Go p l e R s m args below meth c D A nL cells slots Q pc ws lv (.int i :: .ref a :: st) := by
  subst hj
  exact fun H locs ls hP hD hS hl => va_aldq C.1.1 C.1.2.1 C.2.1 hP q0 t0 ha ht hin hdg (by rw [hx]; exact kk H locs ls hP hD hS hl)
theorem mk_bast (C : mk_Cx p s m args c cc nL own D tys X Y A) {a : Nat} (q0 t0 : Nat) {cA : ClassId} {n : Nat} {f : Nat → Int32} (ha : ws[q0]? = some (a, .inl (cA, n, .inl f))) (ht : tys[t0]? = some (cA, .byte)) {i x v : Int32} (hin : vp_in i n) {j : Nat} (hj : i.toNatClampNeg = j) (hv : vp_nar .byte x = v) {ws' : va_W} (hw : ws.set q0 (a, .inl (cA, n, .inl (upd f j v))) = ws') (hdg : decode cc pc = .ok (.bastore, 1)) (kk : mk_Go p l e R s m args below meth c D A nL cells slots Q (pc + 1) ws' lv st) : mk_Go p l e R s m args below meth c D A nL cells slots Q pc ws lv (.int x :: .int i :: .ref a :: st) := by
  subst hj hv
  exact fun H locs ls hP hD hS hl => va_bast C.1.1 C.1.2.1 C.2.1 hP hD hS q0 t0 ha ht hin hdg (fun H1 locs1 hP1 hD1 hS1 => kk H1 locs1 ls (hw ▸ hP1) (hw ▸ hD1) hS1 hl)
theorem mk_zast (C : mk_Cx p s m args c cc nL own D tys X Y A) {a : Nat} (q0 t0 : Nat) {cA : ClassId} {n : Nat} {f : Nat → Int32} (ha : ws[q0]? = some (a, .inl (cA, n, .inl f))) (ht : tys[t0]? = some (cA, .boolean)) {i x v : Int32} (hin : vp_in i n) {j : Nat} (hj : i.toNatClampNeg = j) (hv : vp_nar .boolean x = v) {ws' : va_W} (hw : ws.set q0 (a, .inl (cA, n, .inl (upd f j v))) = ws') (hdg : decode cc pc = .ok (.bastore, 1)) (kk : mk_Go p l e R s m args below meth c D A nL cells slots Q (pc + 1) ws' lv st) : mk_Go p l e R s m args below meth c D A nL cells slots Q pc ws lv (.int x :: .int i :: .ref a :: st) := by
  subst hj hv
  exact fun H locs ls hP hD hS hl => va_zast C.1.1 C.1.2.1 C.2.1 hP hD hS q0 t0 ha ht hin hdg (fun H1 locs1 hP1 hD1 hS1 => kk H1 locs1 ls (hw ▸ hP1) (hw ▸ hD1) hS1 hl)
/-- a string of the world, or one of the surroundings, into a row of strings -/
theorem mk_aast (C : mk_Cx p s m args c cc nL own D tys X Y A) {a : Nat} (q0 t0 : Nat) {cA : ClassId} {n x : Nat} {f : Nat → Option Nat} (ha : ws[q0]? = some (a, .inl (cA, n, .inr (.inr (.inr (.inr f)))))) (ht : tys[t0]? = some (cA, .object "java/lang/String")) (hx : (∃ k, x = X k) ∨ ∃ (q1 : Nat) (fs : List Value), ws[q1]? = some (x, .inr (10, fs))) {i : Int32} (hin : vp_in i n) {j : Nat} (hj : i.toNatClampNeg = j) {ws' : va_W} (hw : ws.set q0 (a, .inl (cA, n, .inr (.inr (.inr (.inr (va_up f j (some x))))))) = ws') (hdg : decode cc pc = .ok (.aastore, 1)) (kk : mk_Go p l e R s m args below meth c D A nL cells slots Q (pc + 1) ws' lv st) : mk_Go p l e R s m args below meth c D A nL cells slots Q pc ws lv (.ref x :: .int i :: .ref a :: st) := by
  subst hj
  intro H locs ls hP hD hS hl
  refine vb_astq (C := "java/lang/String") C.1.1 C.1.2.1 C.2.1 hP hD hS q0 t0 ha ht ?_ (fun comp c0 h1 h2 => vb_asgS comp c0 h1 h2) hin hdg (fun H1 locs1 hP1 hD1 hS1 => kk H1 locs1 ls (hw ▸ hP1) (hw ▸ hD1) hS1 hl)
  rcases hx with ⟨k, rfl⟩ | ⟨q1, fs, hq⟩
  · exact mk_S.recv C.2.2.1.2.1 hS
  · exact va_recv C.2.1 hP (q := (RJ0, TJ0, 4)) rfl hq
/-- a nest mate's field -/
theorem mk_getN (C : mk_Cx p s m args c cc nL RL D tys X Y A) {a : Nat} {index : Nat} (q0 : Nat) {fs : List Value} (he : ws[q0]? = some (a, .inr (9, fs))) (k : Nat) (hk : k < 9) (hlink : (index, (TX9 k).2.1, (TX9 k).2.2.1) ∈ mk_nestF) {v : Value} (hv : fs[k]? = some v) (hdg : decode cc pc = .ok (.getfield index, 3)) (kk : mk_Go p l e R s m args below meth c D A nL cells slots Q (pc + 3) ws lv (v :: st)) : mk_Go p l e R s m args below meth c D A nL cells slots Q pc ws lv (.ref a :: st) :=
  fun H locs ls hP hD hS hl => va_getN (ref := RX9) (host := RL) C.1.1 C.1.2.1 C.1.2.2.2.2 mk_inX9 C.1.2.2.2.1 C.2.1 hP q0 he (C := RX9) (T := TX9) (N := 9) rfl k hk (va_Nw.use rfl (C.2.2.1.1.2.2.1 _ hlink)) (fun z h9 => by
    have e : (TX9 k).1 = RX9 := by
      rcases (show k = 0 ∨ k = 1 ∨ k = 2 ∨ k = 3 ∨ k = 4 ∨ k = 5 ∨ k = 6 ∨ k = 7 ∨ k = 8 by omega) with rfl | rfl | rfl | rfl | rfl | rfl | rfl | rfl | rfl <;> rfl
    rw [← e]; exact h9) hv hdg (kk H locs ls hP hD hS hl)
/-- an element of the script -/
theorem mk_sld (C : mk_Cx p s m args c cc nL own D tys X Y A) {i : Int32} (hin : vp_in i Y.2.2.1) {j : Nat} (hj : i.toNatClampNeg = j) (hdg : decode cc pc = .ok (.iaload, 1)) (kk : mk_Go p l e R s m args below meth c D A nL cells slots Q (pc + 1) ws lv (.int (Y.2.2.2 j) :: st)) : mk_Go p l e R s m args below meth c D A nL cells slots Q pc ws lv (.int i :: .ref Y.2.1 :: st) := by
  subst hj
  exact fun H locs ls hP hD hS hl => va_sld C.1.1 C.1.2.1 C.2.2.1.2.2.2.1.1 C.2.2.1.2.2.2.1.2.1 C.2.2.1.2.2.2.1.2.2 hS hin hdg (kk H locs ls hP hD hS hl)
theorem mk_slen (C : mk_Cx p s m args c cc nL own D tys X Y A) (hdg : decode cc pc = .ok (.arraylength, 1)) (kk : mk_Go p l e R s m args below meth c D A nL cells slots Q (pc + 1) ws lv (.int (nI Y.2.2.1) :: st)) : mk_Go p l e R s m args below meth c D A nL cells slots Q pc ws lv (.ref Y.2.1 :: st) :=
  fun H locs ls hP hD hS hl => va_slen C.1.1 C.1.2.1 C.2.2.1.2.2.2.1.1 C.2.2.1.2.2.2.1.2.1 C.2.2.1.2.2.2.1.2.2 hS hdg (kk H locs ls hP hD hS hl)
/-! rows made, by their class -/
theorem mk_newG {cA : ClassId} {ty : FieldType} {at_ : ArrayType} (C : mk_Cx p s m args c cc nL own D tys X Y A) (t0 : Nat) (ht : tys[t0]? = some (cA, ty)) (hty : newarray.typeOf at_ = ty) (hA : Cond.arrayClass ty ∈ mk_WL) (hd : defaultValue ty = .int 0) (hnm : ∀ cB : ClassId, va_RA s cB ty → s.vm.findClass ("[" ++ ty.toString) = some cB) {n : Int32} {N : Nat} (hn : ¬ n < 0) (hN : n.toNatClampNeg = N) (hbytes : N * componentBytes ty ≤ 536870912) (hroom : cells + 1 ≤ R.cells ∧ slots + N ≤ R.slots) (hdg : decode cc pc = .ok (.newarray at_, 2)) (kk : ∀ q : Nat, mk_Go p l e R s m args below meth c D A nL (cells + 1) (slots + N) Q (pc + 2) (ws ++ [(q, .inl (cA, N, .inl (fun _ => 0)))]) lv (.ref q :: st)) : mk_Go p l e R s m args below meth c D A nL cells slots Q pc ws lv (.int n :: st) := by
  intro H locs ls hP hD hS hl
  refine va_newa (atype := at_) (ty := ty) C.1.1 C.1.2.1 (by rw [hty]; exact C.1.2.2.2.2 _ hA) hty C.2.1 hP hD hS C.2.2.2 (a0 := (N, .inl (fun _ => 0))) (fun cB => by rw [hd]; rfl) hn hN hbytes hroom.1 hroom.2 hdg (fun q cB H1 hK1 hP1 hD1 hS1 => ?_)
  have e1 := hnm _ (hK1.2 tys.length (cB, ty) (by simp)).2
  have e2 := hnm _ (C.2.1.2 t0 _ ht).2
  have e : cB = cA := Option.some.inj (e1.symm.trans e2)
  subst e
  exact kk q H1 locs ls hP1 hD1 hS1 hl
theorem mk_newB {cI cJ cB cZ cS : ClassId} (C : mk_Cx p s m args c cc nL own D (mk_TY cI cJ cB cZ cS) X Y A) (hA : Cond.arrayClass .byte ∈ mk_WL) {n : Int32} {N : Nat} (hn : ¬ n < 0) (hN : n.toNatClampNeg = N) (hbytes : N ≤ 536870912) (hroom : cells + 1 ≤ R.cells ∧ slots + N ≤ R.slots) (hdg : decode cc pc = .ok (.newarray .byte, 2)) (kk : ∀ q : Nat, mk_Go p l e R s m args below meth c D A nL (cells + 1) (slots + N) Q (pc + 2) (ws ++ [(q, .inl (cB, N, .inl (fun _ => 0)))]) lv (.ref q :: st)) : mk_Go p l e R s m args below meth c D A nL cells slots Q pc ws lv (.int n :: st) :=
  mk_newG C 2 rfl rfl hA rfl (fun _ h => h) hn hN (by show N * 1 ≤ _; omega) hroom hdg kk
theorem mk_newZ {cI cJ cB cZ cS : ClassId} (C : mk_Cx p s m args c cc nL own D (mk_TY cI cJ cB cZ cS) X Y A) (hA : Cond.arrayClass .boolean ∈ mk_WL) {n : Int32} {N : Nat} (hn : ¬ n < 0) (hN : n.toNatClampNeg = N) (hbytes : N ≤ 536870912) (hroom : cells + 1 ≤ R.cells ∧ slots + N ≤ R.slots) (hdg : decode cc pc = .ok (.newarray .boolean, 2)) (kk : ∀ q : Nat, mk_Go p l e R s m args below meth c D A nL (cells + 1) (slots + N) Q (pc + 2) (ws ++ [(q, .inl (cZ, N, .inl (fun _ => 0)))]) lv (.ref q :: st)) : mk_Go p l e R s m args below meth c D A nL cells slots Q pc ws lv (.int n :: st) :=
  mk_newG C 3 rfl rfl hA rfl (fun _ h => h) hn hN (by show N * 1 ≤ _; omega) hroom hdg kk
theorem mk_newS {cI cJ cB cZ cS : ClassId} (C : mk_Cx p s m args c cc nL own D (mk_TY cI cJ cB cZ cS) X Y A) {index : Nat} (hcl : Cond.classLink own index "java/lang/String" ∈ mk_WL) {n : Int32} {N : Nat} (hn : ¬ n < 0) (hN : n.toNatClampNeg = N) (hbytes : N * 4 ≤ 536870912) (hroom : cells + 1 ≤ R.cells ∧ slots + N ≤ R.slots) (hdg : decode cc pc = .ok (.anewarray index, 3)) (kk : ∀ q : Nat, mk_Go p l e R s m args below meth c D A nL (cells + 1) (slots + N) Q (pc + 3) (ws ++ [(q, .inl (cS, N, .inr (.inr (.inr (.inr (fun _ => none))))))]) lv (.ref q :: st)) : mk_Go p l e R s m args below meth c D A nL cells slots Q pc ws lv (.int n :: st) := by
  intro H locs ls hP hD hS hl
  refine va_newq C.1.1 C.1.2.1 C.1.2.2.2.1 (C.1.2.2.2.2 _ hcl) C.2.2.1.1.2.2.2.2.1 C.2.1 hP hD hS C.2.2.2 hn hN hbytes hroom.1 hroom.2 hdg (fun q cA H1 hK1 hP1 hD1 hS1 => ?_)
  obtain ⟨-, -, -, -, -, e1⟩ := (hK1.2 (mk_TY cI cJ cB cZ cS).length (cA, .object "java/lang/String") (by simp)).2
  obtain ⟨-, -, -, -, -, e2⟩ := (C.2.1.2 4 (cS, .object "java/lang/String") rfl).2
  have e : cA = cS := Option.some.inj (e1.symm.trans e2)
  subst e
  exact kk q H1 locs ls hP1 hD1 hS1 hl
/-! System.arraycopy of bytes -/
theorem mk_copyB (C : mk_Cx p s m args c cc nL own D tys X Y A) {index : Nat} (h1 : Cond.methodLink own index arraycopyName ∈ mk_WL) (h2 : Cond.native arraycopyName ∈ mk_WL) (h3 : Cond.static arraycopyName ∈ mk_WL) (h4 : Cond.initialized "java/lang/System" ∈ mk_WL) (q0 q1 t0 : Nat) {a0 a1 : Nat} {cA : ClassId} {n0 n1 : Nat} {f g : Nat → Int32} (ha0 : ws[q0]? = some (a0, .inl (cA, n0, .inl f))) (ha1 : ws[q1]? = some (a1, .inl (cA, n1, .inl g))) (ht : tys[t0]? = some (cA, .byte)) {sp dp n : Nat} (hs : sp + n ≤ n0) (hd : dp + n ≤ n1) (h0 : n0 < 2 ^ 30) (h9 : n1 < 2 ^ 30) (hfit : sb_Fit f) (hR : 1 ≤ R.frames ∧ (st.map fun v => v.category).sum + 60 ≤ R.locals) {ws' : va_W} (hw : ws.set q1 (a1, .inl (cA, n1, .inl (va_cpy f g sp dp n))) = ws') (hdg : decode cc pc = .ok (.invokestatic index, 3)) (kk : mk_Go p l e R s m args below meth c D A nL cells slots Q (pc + 3) ws' lv st) : mk_Go p l e R s m args below meth c D A nL cells slots Q pc ws lv (.int (nI n) :: .int (nI dp) :: .ref a1 :: .int (nI sp) :: .ref a0 :: st) := by
  intro H locs ls hP hD hS hl
  have e1 : (nI sp).toNatClampNeg = sp := nI_clamp (by omega)
  have e2 : (nI dp).toNatClampNeg = dp := nI_clamp (by omega)
  have e3 : (nI n).toNatClampNeg = n := nI_clamp (by omega)
  refine va_copyi C.1.1 C.1.2.1 (C.1.2.2.1.trans hl.1.symm) C.1.2.2.2.1 (C.1.2.2.2.2 _ h1) (C.1.2.2.2.2 _ h2) (C.1.2.2.2.2 _ h3) (C.1.2.2.2.2 _ h4) C.2.1 hP hD hS q0 q1 t0 t0 ha0 ha1 ht ht rfl (nI_pos (by omega)) (nI_pos (by omega)) (nI_pos (by omega)) (by rw [e1, e3]; exact hs) (by rw [e2, e3]; exact hd) (fun i _ => hfit _) hR.1 (Nat.le_trans (Nat.add_le_add_left (by decide) _) hR.2) hdg (fun H1 locs1 hP1 hD1 hS1 => ?_)
  rw [e1, e2, e3, hw] at hP1 hD1
  exact kk H1 locs1 ls hP1 hD1 hS1 hl
theorem mk_copyE (C : mk_Cx p s m args c cc nL own D tys X Y A) {index : Nat} (h1 : Cond.methodLink own index arraycopyName ∈ mk_WL) (h2 : Cond.native arraycopyName ∈ mk_WL) (h3 : Cond.static arraycopyName ∈ mk_WL) (h4 : Cond.initialized "java/lang/System" ∈ mk_WL) {b0 n0 : Nat} {f : Nat → Int32} (hX : va_T .byte b0 n0 (fun j => .int (f j)) A s s.heap) (q1 t0 : Nat) {a1 : Nat} {cA : ClassId} {n1 : Nat} {g : Nat → Int32} (ha1 : ws[q1]? = some (a1, .inl (cA, n1, .inl g))) (ht : tys[t0]? = some (cA, .byte)) {sp dp n : Nat} (hs : sp + n ≤ n0) (hd : dp + n ≤ n1) (h0 : n0 < 2 ^ 30) (h9 : n1 < 2 ^ 30) (hfit : ∀ i, i < n0 → fits .byte (.int (f i)) = true) (hR : 1 ≤ R.frames ∧ (st.map fun v => v.category).sum + 60 ≤ R.locals) {ws' : va_W} (hw : ws.set q1 (a1, .inl (cA, n1, .inl (va_cpy f g sp dp n))) = ws') (hdg : decode cc pc = .ok (.invokestatic index, 3)) (kk : mk_Go p l e R s m args below meth c D A nL cells slots Q (pc + 3) ws' lv st) : mk_Go p l e R s m args below meth c D A nL cells slots Q pc ws lv (.int (nI n) :: .int (nI dp) :: .ref a1 :: .int (nI sp) :: .ref b0 :: st) := by
  intro H locs ls hP hD hS hl
  have e1 : (nI sp).toNatClampNeg = sp := nI_clamp (by omega)
  have e2 : (nI dp).toNatClampNeg = dp := nI_clamp (by omega)
  have e3 : (nI n).toNatClampNeg = n := nI_clamp (by omega)
  refine vk_copyt C.1.1 C.1.2.1 (C.1.2.2.1.trans hl.1.symm) C.1.2.2.2.1 (C.1.2.2.2.2 _ h1) (C.1.2.2.2.2 _ h2) (C.1.2.2.2.2 _ h3) (C.1.2.2.2.2 _ h4) C.2.1 hP hD hS hX q1 t0 ha1 ht (nI_pos (by omega)) (nI_pos (by omega)) (nI_pos (by omega)) (by rw [e1, e3]; exact hs) (by rw [e2, e3]; exact hd) (fun i hi => hfit _ (by rw [e3] at hi; rw [e1]; omega)) hR.1 (Nat.le_trans (Nat.add_le_add_left (by decide) _) hR.2) hdg (fun H1 locs1 hP1 hD1 hS1 => ?_)
  rw [e1, e2, e3, hw] at hP1 hD1
  exact kk H1 locs1 ls hP1 hD1 hS1 hl
/-- a row's clone, and the cast behind it -/
theorem mk_clone (C : mk_Cx p s m args c cc nL own D tys X Y A) {index : Nat} (h1 : Cond.methodLink own index ⟨"[B", "clone", "()Ljava/lang/Object;"⟩ ∈ mk_WL) (h2 : Cond.sameMethod "[B" "java/lang/Object" "clone" "()Ljava/lang/Object;" ∈ mk_WL) (h3 : Cond.native ⟨"java/lang/Object", "clone", "()Ljava/lang/Object;"⟩ ∈ mk_WL) (h4 : Cond.instanceMethod ⟨"java/lang/Object", "clone", "()Ljava/lang/Object;"⟩ ∈ mk_WL) (h5 : Cond.selects "[B" ⟨"[B", "clone", "()Ljava/lang/Object;"⟩ ⟨"java/lang/Object", "clone", "()Ljava/lang/Object;"⟩ ∈ mk_WL) (q0 t0 : Nat) {a : Nat} {cA : ClassId} {n : Nat} {f : Nat → Int32} (ha : ws[q0]? = some (a, .inl (cA, n, .inl f))) (ht : tys[t0]? = some (cA, .byte)) (hfit : sb_Fit f) (hR : 1 ≤ R.frames ∧ (st.map fun v => v.category).sum + 14 ≤ R.locals) (hroom : cells + 1 ≤ R.cells ∧ slots + n ≤ R.slots) (hdg : decode cc pc = .ok (.invokevirtual index, 3)) (kk : ∀ q : Nat, mk_Go p l e R s m args below meth c D A nL (cells + 1) (slots + n) Q (pc + 3) (ws ++ [(q, .inl (cA, n, .inl f))]) lv (.ref q :: st)) : mk_Go p l e R s m args below meth c D A nL cells slots Q pc ws lv (.ref a :: st) :=
  fun H locs ls hP hD hS hl => va_clone C.1.1 C.1.2.1 (C.1.2.2.1.trans hl.1.symm) C.1.2.2.2.1 (C.1.2.2.2.2 _ h1) (C.1.2.2.2.2 _ h2) (C.1.2.2.2.2 _ h3) (C.1.2.2.2.2 _ h4) (C.1.2.2.2.2 _ h5) C.2.2.1.1.2.2.2.2.2 C.2.1 hP hD hS C.2.2.2 q0 t0 ha ht (C.2.1.2 t0 _ ht).2 (va_fit (fun i _ => hfit i)) hR.1 hR.2 hroom.1 hroom.2 hdg (fun q H1 hK1 hP1 hD1 hS1 => kk q H1 locs ls hP1 hD1 hS1 hl)
theorem mk_castA (C : mk_Cx p s m args c cc nL own D tys X Y A) {index : Nat} (h1 : Cond.classLink own index "[B" ∈ mk_WL) (q0 t0 : Nat) {a : Nat} {cA : ClassId} {x : vp_A} (ha : ws[q0]? = some (a, .inl (cA, x))) (ht : tys[t0]? = some (cA, .byte)) (hdg : decode cc pc = .ok (.checkcast index, 3)) (kk : mk_Go p l e R s m args below meth c D A nL cells slots Q (pc + 3) ws lv (.ref a :: st)) : mk_Go p l e R s m args below meth c D A nL cells slots Q pc ws lv (.ref a :: st) :=
  fun H locs ls hP hD hS hl => va_castA C.1.1 C.1.2.1 C.1.2.2.2.1 (C.1.2.2.2.2 _ h1) hP q0 ha (C.2.1.2 t0 _ ht).2 hdg (kk H locs ls hP hD hS hl)
/-- a permutation of a written list, by places -/
theorem mk_px {ws ws' : va_W} (n : Nat) (is : List Nat) (hn : ws.length = n) (h : is.Perm (List.range n)) (h' : is.filterMap (fun i => ws[i]?) = ws') : ws.Perm ws' := by
  subst hn
  subst h'
  have e : (List.range ws.length).filterMap (fun i => ws[i]?) = ws := by
    have h1 : (List.range ws.length).map (fun i => ws[i]?) = ws.map some := by
      apply List.ext_getElem
      · simp
      · intro i h1 h2
        simp at h1 h2 ⊢
    have h2 : (List.range ws.length).filterMap (fun i => ws[i]?) = ((List.range ws.length).map (fun i => ws[i]?)).filterMap id := by
      rw [List.filterMap_map]; rfl
    rw [h2, h1, List.filterMap_map]
    simp
  have h3 := (h.symm.filterMap (fun i => ws[i]?))
  rw [e] at h3
  exact h3
theorem mk_pT {E E1 wc W : va_W} (h : E.Perm (E1 ++ wc)) : (E ++ W).Perm ((E1 ++ W) ++ wc) := by
  refine (h.append_right W).trans ?_
  rw [List.append_assoc, List.append_assoc]
  exact List.Perm.append_left E1 List.perm_append_comm
theorem mk_pB {E1 wf W : va_W} : ((E1 ++ W) ++ wf).Perm ((E1 ++ wf) ++ W) := by
  rw [List.append_assoc, List.append_assoc]
  exact List.Perm.append_left E1 List.perm_append_comm
end MKROWS2
end
section
/-! contracts whose answer is told by a property; strings of the world as the callee's surroundings -/
def mk_QG {S : Type} (P : S → Prop) (res : S → Option Value) (D : va_G) (wf : S → va_W) (A : Nat → Prop) : Array Value → State → Outcome → State → Prop := fun _ st oc t => (∃ u : S, P u ∧ oc = .returned (res u) ∧ va_P D vwCl (wf u) t.heap ∧ va_D A (wf u)) ∧ va_F A st t
def mk_MetG {S : Type} (l : Launch) (y : MethodName) (cc : ByteArray) (nL : Nat) (ret : Option FieldType) (rm : Room) (D : va_G) (tys : List (ClassId × FieldType)) (X : Nat → Nat) (Y : mk_Y) (av : List Value) (ws0 : va_W) (P : S → Prop) (res : S → Option Value) (wf : S → va_W) (mc ms : Nat) : Prop :=
  ∀ sz : Nat, Met l y (mk_ws y cc nL ret) rm (mk_Pc av D tys X Y ws0 sz) (mk_QG P res D wf (va_A ws0 sz)) mc ms (va_A ws0 sz)
theorem mk_startG {S : Type} {P : S → Prop} {rs : S → Option Value} {wf : S → va_W} {l : Launch} {y : MethodName} {cc : ByteArray} {nL : Nat} {ret : Option FieldType} {rm : Room} {D : va_G} {tys : List (ClassId × FieldType)} {X : Nat → Nat} {Y : mk_Y} {av : List Value} {ws0 : va_W} {mc ms : Nat} {own : String}
    (hy : plainName y.cls = true) (ho : y.cls = own) (hav : (lg_sl av).length ≤ nL)
    (body : ∀ (sz : Nat) (p : Program) (e : Env) (s : State) (m : MethodId) (args : Array Value) (below : List Frame) (meth : Method) (c : Code) (A : Nat → Prop), mk_Cx p s m args c cc nL own D tys X Y A → meth.sig.returnType = ret → meth.locks = false → meth.name = y.name →
      mk_Go p l e (headSpec (mk_ws y cc nL ret) rm).room s m args below meth c D A nL 0 0 (MQ below (mk_QG P rs D wf A) args s mc ms A) 0 ws0 (lv_args 0 av) []) :
    mk_MetG l y cc nL ret rm D tys X Y av ws0 P rs wf mc ms := by
  intro sz
  refine Met.ofW (cc := cc) (maxL := nL) (ret := ret) hy rfl ?_
  intro p e s m args below meth c s₁ B hml hv
  obtain ⟨rfl, hsz, hP, hK, hD0, hE⟩ := hv
  have hown : s.vm.findClass own = some m.cls := by rw [← ho]; exact findClass_of_methodNamed B.named
  subst hsz
  have hD := hD0.self (sz := s.heap.size)
  have hA : ∀ q : Nat, s.heap.size ≤ q → va_A ws0 s.heap.size q := fun q h => Or.inr h
  have hl := lv_entry av (n := nL) hav
  rw [lg_entry_eq]
  exact body s.heap.size p e s m _ below meth c _ ⟨⟨B.exec, B.bytes, hml, hown, fun w hw => atoms_spec (ws := mk_ws y cc nL ret) B.pre w (List.mem_cons_of_mem _ hw)⟩, hK, hE, hA⟩ B.returns B.notSynchronized (name_of_methodNamed B.named B.method).1 s.heap [] _ hP hD va_S.rf hl
/-- what is told of the strings without a state -/
theorem mk_pureG {S : Type} {P : S → Prop} {rs : S → Option Value} {wf : S → va_W} {l : Launch} {y : MethodName} {cc : ByteArray} {nL : Nat} {ret : Option FieldType} {rm : Room} {D : va_G} {tys : List (ClassId × FieldType)} {X : Nat → Nat} {Y : mk_Y} {av : List Value} {ws0 : va_W} {mc ms : Nat} (h : mk_Pu Y → mk_MetG l y cc nL ret rm D tys X Y av ws0 P rs wf mc ms) : mk_MetG l y cc nL ret rm D tys X Y av ws0 P rs wf mc ms := by
  by_cases hY : mk_Pu Y
  · exact h hY
  · intro sz
    unfold Met MetFree
    intro p e ha hc hk s m args below hf happ hP
    exact absurd hP.2.2.2.2.2.2.2.1 hY
def mk_Xt (X X' : Nat → Nat) (Y Y' : mk_Y) (cB : ClassId) (wr : va_W) : Prop := Y'.2 = Y.2 ∧ (∀ k, k < 23 → X' k = X k ∧ Y'.1 k = Y.1 k) ∧ ∀ k, (∃ j, X' k = X j ∧ Y'.1 k = Y.1 j) ∨ (mk_Sp (Y'.1 k) ∧ (X' k, Sum.inr (10, [Value.ref (Y'.1 k).1, .int 0, .int 0, .int 0])) ∈ wr ∧ ∃ f : Nat → Int32, ((Y'.1 k).1, Sum.inl (cB, (Y'.1 k).2.1, .inl f)) ∈ wr ∧ ∀ j, j < (Y'.1 k).2.1 → f j = nI ((Y'.1 k).2.2 j))
theorem mk_Xt.rf {X : Nat → Nat} {Y : mk_Y} {cB : ClassId} {wr : va_W} : mk_Xt X X Y Y cB wr := ⟨rfl, fun _ _ => ⟨rfl, rfl⟩, fun k => Or.inl ⟨k, rfl, rfl⟩⟩
section MKG
variable {p : Program} {l : Launch} {e : Env} {R : Room} {s : State} {m : MethodId} {args : Array Value} {below : List Frame} {meth : Method} {c : Code} {D : va_G} {A : Nat → Prop} {nL cells slots : Nat} {Q : State → Prop} {pc : Nat} {ws : va_W} {lv : mk_L} {st : List Value} {cc : ByteArray} {own : String} {cI cJ cB cZ cS : ClassId} {X X' : Nat → Nat} {Y Y' : mk_Y}
theorem mk_S1_of (C : mk_Cx p s m args c cc nL own D (mk_TY cI cJ cB cZ cS) X Y A) {wr : va_W} {H : Heap} (hP : va_P D vwCl wr H) {x : Nat} {y : mk_Sd} {f : Nat → Int32} (h1 : (x, Sum.inr (10, [Value.ref y.1, .int 0, .int 0, .int 0])) ∈ wr) (h2 : (y.1, Sum.inl (cB, y.2.1, .inl f)) ∈ wr) (hf : ∀ j, j < y.2.1 → f j = nI (y.2.2 j)) {B : Nat → Prop} (hx : ¬ B x) (hy : ¬ B y.1) : mk_S1 x y B s H := by
  obtain ⟨k1, e1⟩ := List.getElem?_of_mem h1
  obtain ⟨k2, e2⟩ := List.getElem?_of_mem h2
  have hrc := va_recv C.2.1 hP (q := (RJ0, TJ0, 4)) rfl e1
  obtain ⟨cell0, g1, g2, g3⟩ := hrc
  obtain ⟨r, hr0, cell, q1, q2, q3, q4⟩ := hP k1 _ e1
  have hr : r = (RJ0, TJ0, 4) := Option.some.inj (hr0.symm.trans rfl)
  subst hr
  obtain ⟨hS, hfc, kC, hkC, hkind⟩ := C.2.1.1 10 (RJ0, TJ0, 4) rfl
  obtain ⟨cf0, kf0, fi0, f0, hi0, hsl0⟩ := hS 0 (by decide)
  obtain ⟨cf1, kf1, fi1, f1, hi1, hsl1⟩ := hS 1 (by decide)
  refine ⟨⟨cell0, g1, g2, g3, hx⟩, ?_, ?_, ?_⟩
  · refine ⟨cf1, kf1, fi1, f1, cell, hi1, (u_facts hfc hkC (u_lays C.1.2.2.2.2 mk_inJ0 (by decide)) hi1).1, q1, (by rw [q3]; exact fun h => by cases h), ?_, hx⟩
    rw [hsl1, q4 1 (by decide)]
    rfl
  · refine ⟨cf0, kf0, fi0, f0, cell, hi0, (u_facts hfc hkC (u_lays C.1.2.2.2.2 mk_inJ0 (by decide)) hi0).1, q1, (by rw [q3]; exact fun h => by cases h), ?_, hx⟩
    rw [hsl0, q4 0 (by decide)]
    rfl
  · have hH : H[y.1]? = some (arrV cB y.2.1 (fun j => .int (f j))) := hP k2 _ e2
    refine ⟨_, hH, (C.2.1.2 2 (cB, .byte) rfl).1 _ _, (fun h => by cases h), ?_, ?_, fun j hj => ?_, hy⟩
    · rw [arrV_size]; exact Nat.le_refl _
    · rw [arrV_size]
    · rw [arrV_read _ _ hj, hf j hj]
theorem mk_preX {wr wc : va_W} {av : List Value} {H : Heap} {locs : List Loc} (C : mk_Cx p s m args c cc nL own D (mk_TY cI cJ cB cZ cS) X Y A) (hF : ws.Perm (wr ++ wc)) (hX : mk_Xt X X' Y Y' cB wr) (hP : va_P D vwCl ws H) (hD : va_D A ws) (hS : va_S A s.heap H locs) : PreS s H (mk_Pc av D (mk_TY cI cJ cB cZ cS) X' Y' wc H.size) av := by
  have hF0 : mk_Fr ws wc wc ws := ⟨wr, hF, hF⟩
  have base : mk_Amb X Y (va_A wc H.size) s H := (C.2.2.1.kept (fun a h1 h2 => hS.2.1 a h1 h2)).narrow (hF0.free hD hS C.2.2.2)
  have hPr : va_P D vwCl (wr ++ wc) H := mk_P.perm hP hF
  have hDr : va_D A (wr ++ wc) := mk_D.perm hD hF
  have hPw : va_P D vwCl wr H := mk_P.mpr (fun q hq => mk_P.mp hPr q (List.mem_append_left _ hq))
  have out : ∀ q ∈ wr, ¬ va_A wc H.size q.1 := by
    intro q hq hA
    have hl := (mk_P.mp hPw q hq).lt
    rcases mk_A.mp hA with ⟨x, hx, e⟩ | h
    · have hn := (mk_D.mp hDr).1
      rw [List.map_append, List.nodup_append] at hn
      exact hn.2.2 q.1 (List.mem_map.mpr ⟨q, hq, rfl⟩) x.1 (List.mem_map.mpr ⟨x, hx, rfl⟩) e.symm
    · omega
  have amb : mk_Amb X' Y' (va_A wc H.size) s H := by
    refine ⟨⟨base.1.1, base.1.2.1, base.1.2.2.1, fun w hw => ?_, base.1.2.2.2.2⟩, fun k => ?_, ⟨fun k => ?_, fun k hk => ?_⟩, ?_, base.2.2.2.2⟩
    · have h23 : w.2.2 < 23 := by
        have : ∀ w ∈ mk_lits, w.2.2 < 23 := by decide
        exact this w hw
      rw [(hX.2.1 _ h23).1]
      exact base.1.2.2.2.1 w hw
    · rcases hX.2.2 k with ⟨j, ex, ey⟩ | ⟨hp, hx, f, hy, hf⟩
      · rw [ex, ey]; exact base.2.1 j
      · exact mk_S1_of C hPw hx hy hf (out _ hx) (out _ hy)
    · rcases hX.2.2 k with ⟨j, ex, ey⟩ | ⟨hp, -⟩
      · rw [ey]; exact base.2.2.1.1 j
      · exact hp
    · rw [(hX.2.1 k hk).2]; exact base.2.2.1.2 k hk
    · rw [hX.1]; exact base.2.2.2.1
  refine ⟨mk_Pc.blind, fun U hU hW => ⟨rfl, by rw [hU], by rw [hU]; exact hF0.P hP, va_K.moved hW.alike C.2.1, (hF0.D hD).weaken (fun _ _ _ _ => trivial), ?_⟩⟩
  rw [hU]
  exact amb.warm hW
theorem mk_backG {S : Type} {P : S → Prop} {rs : S → Option Value} {wf : S → va_W} {ls : Array Slot} {H : Heap} {locs : List Loc} {st0 : List Value} {mc ms : Nat} {a : Array Value} {wr wc : va_W} {tys : List (ClassId × FieldType)} (C : mk_Cx p s m args c cc nL own D tys X Y A) (hF : ws.Perm (wr ++ wc)) (hP : va_P D vwCl ws H) (hD : va_D A ws) (hS : va_S A s.heap H locs) (hl : lv_has ls nL lv)
    (hr : va_Run p l e R s m args below meth c H locs cells slots mc ms (F0 m pc ls st0) st (mk_QG P rs D wf (va_A wc H.size) a) (va_A wc H.size))
    (kk : ∀ u : S, P u → mk_Go p l e R s m args below meth c D A nL (cells + mc) (slots + ms) Q (pc + 3) (wr ++ wf u) lv ((rs u).toList ++ st)) : W p l e R s m args below meth c H locs cells slots Q (F0 m pc ls st0) := by
  have hF0 : mk_Fr ws wc wc ws := ⟨wr, hF, hF⟩
  have hFc := hF0.free hD hS C.2.2.2
  intro T hT X0
  obtain ⟨v, st₀, t, T', L, h0', X', hL, e1, e2, ⟨⟨u, hu, hv, hp, hd'⟩, hz, hk⟩, stp⟩ := hr T hT X0
  cases hv
  rw [h0'] at hz hk
  obtain ⟨hP', hD'⟩ := mk_join (ws' := wr ++ wf u) ⟨wr, hF, List.Perm.refl _⟩ hP hD hFc hk hp hd'
  obtain ⟨t2, a1, b1⟩ := kk u hu t.heap (locs ++ L) ls hP' hD'
    ⟨Nat.le_trans hS.1 hz, fun q h1 h2 => by rw [hk q (Nat.lt_of_lt_of_le h1 hS.1) (fun z => h2 (hFc q z))]; exact hS.2.1 q h1 h2, fun q hq => by
      rcases List.mem_append.mp hq with h | h
      · exact hS.2.2 q h
      · exact hFc _ (hL q h)⟩ hl T' e1 X'
  exact ⟨t2, stp t2 a1, b1⟩
/-- a method that asks no receiver's class: static -/
theorem mk_callSG {S : Type} {P : S → Prop} {rs : S → Option Value} {wf : S → va_W} (C : mk_Cx p s m args c cc nL own D (mk_TY cI cJ cB cZ cS) X Y A) {y : MethodName} {cy : ByteArray} {nY index n : Nat} {ret : Option FieldType} {rm : Room} {As stk : List Value} {wr wc : va_W} {mc ms : Nat}
    (hM : mk_MetG l y cy nY ret rm D (mk_TY cI cJ cB cZ cS) X' Y' As wc P rs wf mc ms) (h1 : Cond.methodLink own index y ∈ mk_WL) (h2 : Cond.static y ∈ mk_WL) (h4 : Cond.initialized y.cls ∈ mk_WL) (h5 : Cond.code y cy nY ret ∈ mk_WL) (hn : mk_nm y n) (hAs : As.length = n)
    (hR : rm.frames + 1 ≤ R.frames ∧ 8 + (nY + 11) + rm.locals ≤ R.locals) (hrm : rm.cells = mc ∧ rm.slots = ms) (hroom : cells + mc ≤ R.cells ∧ slots + ms ≤ R.slots) (hF : ws.Perm (wr ++ wc)) (hX : mk_Xt X X' Y Y' cB wr) (hst : (st.map fun v => v.category).sum ≤ 8)
    (hdg : decode cc pc = .ok (.invokestatic index, 3)) (hs : stk = As.reverse ++ st) (kk : ∀ u : S, P u → mk_Go p l e R s m args below meth c D A nL (cells + mc) (slots + ms) Q (pc + 3) (wr ++ wf u) lv ((rs u).toList ++ st)) : mk_Go p l e R s m args below meth c D A nL cells slots Q pc ws lv stk := by
  subst hs
  intro H locs ls hP hD hS hl
  have hp := mk_preX (av := As) C hF hX hP hD hS
  exact mk_backG C hF hP hD hS hl (va_runS (As := As) (rest := st) (n := n) C.1 (hM H.size) ⟨callB_of n C.1.2.2.2.2 (mk_good h5) rfl hrm.1 hrm.2 (C.1.2.2.2.2 _ h4) (C.1.2.2.2.2 _ h1) hn hR, C.1.2.2.2.2 _ h2⟩ hp rfl hAs hl.1 rfl (lv_room hst) hdg hroom) kk
/-- a method of the receiver's own class -/
theorem mk_callVG {S : Type} {P : S → Prop} {rs : S → Option Value} {wf : S → va_W} (C : mk_Cx p s m args c cc nL own D (mk_TY cI cJ cB cZ cS) X Y A) {y : MethodName} {cy : ByteArray} {nY index n : Nat} {ret : Option FieldType} {rm : Room} {b ci : Nat} {fs : List Value} {r : vw_C} {As stk : List Value} {wr wc : va_W} {mc ms : Nat}
    (hM : mk_MetG l y cy nY ret rm D (mk_TY cI cJ cB cZ cS) X' Y' (.ref b :: As) wc P rs wf mc ms) (h1 : Cond.methodLink own index y ∈ mk_WL) (h2 : Cond.instanceMethod y ∈ mk_WL) (h3 : Cond.selects y.cls y y ∈ mk_WL) (h4 : Cond.initialized y.cls ∈ mk_WL) (h5 : Cond.code y cy nY ret ∈ mk_WL) (hn : mk_nm y n) (hAs : As.length = n)
    (hR : rm.frames + 1 ≤ R.frames ∧ 8 + (nY + 11) + rm.locals ≤ R.locals) (hrm : rm.cells = mc ∧ rm.slots = ms) (hroom : cells + mc ≤ R.cells ∧ slots + ms ≤ R.slots) (q0 : Nat) (he : ws[q0]? = some (b, .inr (ci, fs))) (hc : vwCl[ci]? = some r) (hr : r.1 = y.cls) (hF : ws.Perm (wr ++ wc)) (hX : mk_Xt X X' Y Y' cB wr) (hst : (st.map fun v => v.category).sum ≤ 8)
    (hdg : decode cc pc = .ok (.invokevirtual index, 3)) (hs : stk = As.reverse ++ .ref b :: st) (kk : ∀ u : S, P u → mk_Go p l e R s m args below meth c D A nL (cells + mc) (slots + ms) Q (pc + 3) (wr ++ wf u) lv ((rs u).toList ++ st)) : mk_Go p l e R s m args below meth c D A nL cells slots Q pc ws lv stk := by
  subst hs
  intro H locs ls hP hD hS hl
  have hp := mk_preX (av := .ref b :: As) C hF hX hP hD hS
  refine mk_backG C hF hP hD hS hl (va_runV (As := As) (rest := st) (C := y.cls) (n := n) C.1 (hM H.size) ⟨callB_of n C.1.2.2.2.2 (mk_good h5) rfl hrm.1 hrm.2 (C.1.2.2.2.2 _ h4) (C.1.2.2.2.2 _ h1) hn hR, C.1.2.2.2.2 _ h2, C.1.2.2.2.2 _ h3⟩ ⟨hp.1, ?_, hp.2⟩ rfl hAs hl.1 rfl (lv_room hst) hdg hroom) kk
  have h := va_recv C.2.1 hP hc he
  rw [hr] at h
  exact h
/-- a method of String, of a string of the surroundings -/
theorem mk_callEG {S : Type} {P : S → Prop} {rs : S → Option Value} {wf : S → va_W} (C : mk_Cx p s m args c cc nL own D (mk_TY cI cJ cB cZ cS) X Y A) {y : MethodName} {cy : ByteArray} {nY index n : Nat} {ret : Option FieldType} {rm : Room} {k : Nat} {As stk : List Value} {wr wc : va_W} {mc ms : Nat}
    (hM : mk_MetG l y cy nY ret rm D (mk_TY cI cJ cB cZ cS) X Y (.ref (X k) :: As) wc P rs wf mc ms) (h1 : Cond.methodLink own index y ∈ mk_WL) (h2 : Cond.instanceMethod y ∈ mk_WL) (h3 : Cond.selects y.cls y y ∈ mk_WL) (h4 : Cond.initialized y.cls ∈ mk_WL) (h5 : Cond.code y cy nY ret ∈ mk_WL) (hn : mk_nm y n) (hAs : As.length = n)
    (hR : rm.frames + 1 ≤ R.frames ∧ 8 + (nY + 11) + rm.locals ≤ R.locals) (hrm : rm.cells = mc ∧ rm.slots = ms) (hroom : cells + mc ≤ R.cells ∧ slots + ms ≤ R.slots) (hy : y.cls = "java/lang/String") (hF : ws.Perm (wr ++ wc)) (hst : (st.map fun v => v.category).sum ≤ 8)
    (hdg : decode cc pc = .ok (.invokevirtual index, 3)) (hs : stk = As.reverse ++ .ref (X k) :: st) (kk : ∀ u : S, P u → mk_Go p l e R s m args below meth c D A nL (cells + mc) (slots + ms) Q (pc + 3) (wr ++ wf u) lv ((rs u).toList ++ st)) : mk_Go p l e R s m args below meth c D A nL cells slots Q pc ws lv stk := by
  subst hs
  intro H locs ls hP hD hS hl
  have hp := mk_preX (av := .ref (X k) :: As) C hF mk_Xt.rf hP hD hS
  refine mk_backG C hF hP hD hS hl (va_runV (As := As) (rest := st) (C := y.cls) (n := n) C.1 (hM H.size) ⟨callB_of n C.1.2.2.2.2 (mk_good h5) rfl hrm.1 hrm.2 (C.1.2.2.2.2 _ h4) (C.1.2.2.2.2 _ h1) hn hR, C.1.2.2.2.2 _ h2, C.1.2.2.2.2 _ h3⟩ ⟨hp.1, ?_, hp.2⟩ rfl hAs hl.1 rfl (lv_room hst) hdg hroom) kk
  rw [hy]
  exact mk_S.recv C.2.2.1.2.1 hS
theorem mk_goodM {wsx : List Cond} (h : ∀ w ∈ wsx, w ∈ mk_WL) : GoodIn mk_WL wsx := fun w hw => ⟨h w hw, good_of_word (mk_WL_good w (h w hw))⟩
theorem mk_wsM {y : MethodName} {cy : ByteArray} {nY : Nat} {ret : Option FieldType} (hc : Cond.code y cy nY ret ∈ mk_WL) : ∀ w ∈ mk_ws y cy nY ret, w ∈ mk_WL := fun w hw => (mk_good hc w hw).1
/-- an inherited (or a private) method, of an object of class RJ4 -/
theorem mk_callUG {S : Type} {P : S → Prop} {rs : S → Option Value} {wf : S → va_W} (C : mk_Cx p s m args c cc nL own D (mk_TY cI cJ cB cZ cS) X Y A) {y : MethodName} {cy : ByteArray} {nY index n : Nat} {ret : Option FieldType} {rm : Room} {b : Nat} {fs : List Value} {As stk : List Value} {wr wc : va_W} {mc ms : Nat}
    (hM : mk_MetG l y cy nY ret rm D (mk_TY cI cJ cB cZ cS) X' Y' (.ref b :: As) wc P rs wf mc ms) (h1 : Cond.methodLink own index y ∈ mk_WL) (h0 : Cond.sameMethod y.cls y.cls y.name y.desc ∈ mk_WL) (h2 : Cond.instanceMethod y ∈ mk_WL) (h3 : Cond.selects RJ4 y y ∈ mk_WL) (h4 : Cond.initialized y.cls ∈ mk_WL) (h5 : Cond.code y cy nY ret ∈ mk_WL) (hn : mk_nm y n) (hAs : As.length = n)
    (hR : rm.frames + 1 ≤ R.frames ∧ 8 + (nY + 11) + rm.locals ≤ R.locals) (hrm : rm.cells = mc ∧ rm.slots = ms) (hroom : cells + mc ≤ R.cells ∧ slots + ms ≤ R.slots) (q0 : Nat) (he : ws[q0]? = some (b, .inr (11, fs))) (hF : ws.Perm (wr ++ wc)) (hX : mk_Xt X X' Y Y' cB wr) (hst : (st.map fun v => v.category).sum ≤ 8)
    (hdg : decode cc pc = .ok (.invokevirtual index, 3)) (hs : stk = As.reverse ++ .ref b :: st) (kk : ∀ u : S, P u → mk_Go p l e R s m args below meth c D A nL (cells + mc) (slots + ms) Q (pc + 3) (wr ++ wf u) lv ((rs u).toList ++ st)) : mk_Go p l e R s m args below meth c D A nL cells slots Q pc ws lv stk := by
  subst hs
  intro H locs ls hP hD hS hl
  have hp := mk_preX (av := .ref b :: As) C hF hX hP hD hS
  have hG : GoodIn mk_WL (va_wsU own index RJ4 y.cls y y (mk_ws y cy nY ret)) := mk_goodM (fun w hw => by
    unfold va_wsU at hw
    rcases List.mem_append.mp hw with h | h
    · simp only [List.mem_cons, List.not_mem_nil, or_false] at h
      rcases h with rfl | rfl | rfl | rfl | rfl
      · exact h1
      · exact h0
      · exact h3
      · exact h2
      · exact h4
    · exact mk_wsM h5 w h)
  exact mk_backG C hF hP hD hS hl (va_runU (As := As) (rest := st) (C := RJ4) (owner := y.cls) (n := n) C.1 (hM H.size) (va_cwU n C.1.2.2.2.2 hG rfl hrm.1 hrm.2 rfl ⟨hn.1, hn.2.1, hn.2.2⟩ hR) ⟨hp.1, va_recv C.2.1 hP (q := (RJ4, TJ4, 4)) rfl he, hp.2⟩ rfl hAs hl.1 rfl (lv_room hst) hdg hroom) kk
/-- super's method, of an object of class RJ4 -/
theorem mk_callSU {S : Type} {P : S → Prop} {rs : S → Option Value} {wf : S → va_W} (C : mk_Cx p s m args c cc nL RJ4 D (mk_TY cI cJ cB cZ cS) X Y A) {y : MethodName} {cy : ByteArray} {nY index n : Nat} {ret : Option FieldType} {rm : Room} {b : Nat} {fs : List Value} {As stk : List Value} {wr wc : va_W} {mc ms : Nat}
    (hM : mk_MetG l y cy nY ret rm D (mk_TY cI cJ cB cZ cS) X' Y' (.ref b :: As) wc P rs wf mc ms) (h1 : Cond.methodLink RJ4 index y ∈ mk_WL) (h0 : Cond.sameMethod y.cls y.cls y.name y.desc ∈ mk_WL) (h3 : Cond.superclass RJ4 y.cls ∈ mk_WL) (h2 : Cond.instanceMethod y ∈ mk_WL) (h4 : Cond.initialized y.cls ∈ mk_WL) (h5 : Cond.code y cy nY ret ∈ mk_WL) (hn : mk_nm y n) (hni : y.name ≠ "<init>") (hAs : As.length = n)
    (hR : rm.frames + 1 ≤ R.frames ∧ 8 + (nY + 11) + rm.locals ≤ R.locals) (hrm : rm.cells = mc ∧ rm.slots = ms) (hroom : cells + mc ≤ R.cells ∧ slots + ms ≤ R.slots) (q0 : Nat) (he : ws[q0]? = some (b, .inr (11, fs))) (hF : ws.Perm (wr ++ wc)) (hX : mk_Xt X X' Y Y' cB wr) (hst : (st.map fun v => v.category).sum ≤ 8)
    (hdg : decode cc pc = .ok (.invokespecial index, 3)) (hs : stk = As.reverse ++ .ref b :: st) (kk : ∀ u : S, P u → mk_Go p l e R s m args below meth c D A nL (cells + mc) (slots + ms) Q (pc + 3) (wr ++ wf u) lv ((rs u).toList ++ st)) : mk_Go p l e R s m args below meth c D A nL cells slots Q pc ws lv stk := by
  subst hs
  intro H locs ls hP hD hS hl
  have hp := mk_preX (av := .ref b :: As) C hF hX hP hD hS
  have hG : GoodIn mk_WL (va_wsSU RJ4 index y (mk_ws y cy nY ret)) := mk_goodM (fun w hw => by
    unfold va_wsSU at hw
    rcases List.mem_append.mp hw with h | h
    · simp only [List.mem_cons, List.not_mem_nil, or_false] at h
      rcases h with rfl | rfl | rfl | rfl | rfl
      · exact h1
      · exact h0
      · exact h3
      · exact h2
      · exact h4
    · exact mk_wsM h5 w h)
  exact mk_backG C hF hP hD hS hl (va_runSU (As := As) (rest := st) (C := RJ4) (n := n) (C.2.1.1 11 (RJ4, TJ4, 4) rfl).2 C.1 (hM H.size) (va_cwSU n C.1.2.2.2.2 hG rfl hrm.1 hrm.2 ⟨hni, hn.2.2⟩ hR) ⟨hp.1, va_recv C.2.1 hP (q := (RJ4, TJ4, 4)) rfl he, hp.2⟩ rfl hAs hl.1 rfl (lv_room hst) hdg hroom) kk
/-- a constructor with arguments -/
theorem mk_callIG {S : Type} {P : S → Prop} {wf : S → va_W} (C : mk_Cx p s m args c cc nL own D (mk_TY cI cJ cB cZ cS) X Y A) {y : MethodName} {cy : ByteArray} {nY index n : Nat} {rm : Room} {b : Nat} {As stk : List Value} {wr wc : va_W} {mc ms : Nat}
    (hM : mk_MetG l y cy nY none rm D (mk_TY cI cJ cB cZ cS) X' Y' (.ref b :: As) wc P (fun _ => none) wf mc ms) (h1 : Cond.methodLink own index y ∈ mk_WL) (h2 : Cond.instanceMethod y ∈ mk_WL) (h4 : Cond.initialized y.cls ∈ mk_WL) (h5 : Cond.code y cy nY none ∈ mk_WL) (hn : mk_nm y n) (hni : y.name = "<init>") (hAs : As.length = n)
    (hR : rm.frames + 1 ≤ R.frames ∧ 8 + (nY + 11) + rm.locals ≤ R.locals) (hrm : rm.cells = mc ∧ rm.slots = ms) (hroom : cells + mc ≤ R.cells ∧ slots + ms ≤ R.slots) (hF : ws.Perm (wr ++ wc)) (hX : mk_Xt X X' Y Y' cB wr) (hst : (st.map fun v => v.category).sum ≤ 8)
    (hdg : decode cc pc = .ok (.invokespecial index, 3)) (hs : stk = As.reverse ++ .ref b :: st) (kk : ∀ u : S, P u → mk_Go p l e R s m args below meth c D A nL (cells + mc) (slots + ms) Q (pc + 3) (wr ++ wf u) lv st) : mk_Go p l e R s m args below meth c D A nL cells slots Q pc ws lv stk := by
  subst hs
  intro H locs ls hP hD hS hl
  have hp := mk_preX (av := .ref b :: As) C hF hX hP hD hS
  exact mk_backG C hF hP hD hS hl (va_runI (As := As) (rest := st) (n := n) C.1 (hM H.size) ⟨callB_of n C.1.2.2.2.2 (mk_good h5) rfl hrm.1 hrm.2 (C.1.2.2.2.2 _ h4) (C.1.2.2.2.2 _ h1) hn hR, hni, C.1.2.2.2.2 _ h2⟩ hp rfl hAs hl.1 rfl (lv_room hst) hdg hroom) kk
/-! ends -/
theorem mk_iretG {S : Type} {P : S → Prop} {rs : S → Option Value} {wf : S → va_W} {tys : List (ClassId × FieldType)} (C : mk_Cx p s m args c cc nL own D tys X Y A) {ty : FieldType} (hr : meth.sig.returnType = some ty) (hlocks : meth.locks = false) {v : Int32} (hn : narrow ty (.int v) = .int v) (u : S) (hu : P u) (hv : rs u = some (.int v)) (hw : ws = wf u) (hdg : decode cc pc = .ok (.ireturn, 1)) : mk_Go p l e R s m args below meth c D A nL cells slots (MQ below (mk_QG P rs D wf A) args s cells slots A) pc ws lv [.int v] :=
  fun H locs ls hP hD hS hl => by
    subst hw
    exact W.zret C.1.1 C.1.2.1 hr hn (fun t ht hW => ⟨⟨u, hu, by rw [hv], by rw [ht]; exact hP, hD⟩, hS.F ht⟩) hS.2.2 hdg hlocks
theorem mk_aretG {S : Type} {P : S → Prop} {rs : S → Option Value} {wf : S → va_W} {tys : List (ClassId × FieldType)} (C : mk_Cx p s m args c cc nL own D tys X Y A) {rt : FieldType} (hr : meth.sig.returnType = some rt) (hrt : (∃ n, rt = .object n) ∨ ∃ t, rt = .array t) (hlocks : meth.locks = false) {v : Nat} (u : S) (hu : P u) (hv : rs u = some (.ref v)) (hw : ws = wf u) (hdg : decode cc pc = .ok (.areturn, 1)) : mk_Go p l e R s m args below meth c D A nL cells slots (MQ below (mk_QG P rs D wf A) args s cells slots A) pc ws lv [.ref v] :=
  fun H locs ls hP hD hS hl => by
    subst hw
    exact W.aret C.1.1 C.1.2.1 hr hrt (Or.inr ⟨v, rfl⟩) (fun t ht hW => ⟨⟨u, hu, by rw [hv], by rw [ht]; exact hP, hD⟩, hS.F ht⟩) hS.2.2 hdg hlocks
theorem mk_vretG {S : Type} {P : S → Prop} {wf : S → va_W} {tys : List (ClassId × FieldType)} (C : mk_Cx p s m args c cc nL own D tys X Y A) (hr : meth.sig.returnType = none) (hlocks : meth.locks = false) (u : S) (hu : P u) (hw : ws = wf u) (hdg : decode cc pc = .ok (.return_, 1)) : mk_Go p l e R s m args below meth c D A nL cells slots (MQ below (mk_QG P (fun _ => none) D wf A) args s cells slots A) pc ws lv [] :=
  fun H locs ls hP hD hS hl => by
    subst hw
    exact W.vret C.1.1 C.1.2.1 hr (fun t ht hW => ⟨⟨u, hu, rfl, by rw [ht]; exact hP, hD⟩, hS.F ht⟩) hS.2.2 hdg hlocks
end MKG
end
section
theorem mkq_J8_newLength_cabcc : mk_nm yJ8_newLength_cabcc 3 := by decide +kernel
theorem mkq_J5_newCapacity_0f7a4 : mk_nm yJ5_newCapacity_0f7a4 1 := by decide +kernel
theorem mkq_J7_copyOf_9075b : mk_nm yJ7_copyOf_9075b 2 := by decide +kernel
theorem mkq_J0_coder_7d493 : mk_nm yJ0_coder_7d493 0 := by decide +kernel
theorem mkq_J5_inflateIfNeededFor_a7421 : mk_nm yJ5_inflateIfNeededFor_a7421 1 := by decide +kernel
theorem mkq_J0_getBytes_840e7 : mk_nm yJ0_getBytes_840e7 3 := by decide +kernel
theorem mkq_J0_length_8abf5 : mk_nm yJ0_length_8abf5 0 := by decide +kernel
theorem mkq_J5_ensureCapacityInternal_d00df : mk_nm yJ5_ensureCapacityInternal_d00df 1 := by decide +kernel
theorem mkq_J5_putStringAt_47b60 : mk_nm yJ5_putStringAt_47b60 2 := by decide +kernel
theorem mkq_J5_append_cf1ce : mk_nm yJ5_append_cf1ce 1 := by decide +kernel
/-! the JDK's StringBuilder and String (Latin 1 alone), method by method (jdk.py) -/
theorem jk_ne {a b : Nat} (h : a ≠ b) (ha : a < 2 ^ 31) (hb : b < 2 ^ 31) : ¬ nI a = nI b := fun e => h ((nI_eq ha hb).mp e)
theorem jk_max {g f : Nat} (hg : g < 2 ^ 31) (hf : f < 2 ^ 31) : (if nI g < nI f then nI f else nI g) = nI (if g < f then f else g) := by
  by_cases h : g < f
  · rw [if_pos h, if_pos ((nI_ltI hg hf).mpr h)]
  · rw [if_neg h, if_neg (fun z => h ((nI_ltI hg hf).mp z))]
theorem jk_nle {a b : Nat} (h : b < a) (ha : a < 2 ^ 31) : ¬ nI a ≤ nI b := nI_ge h ha
theorem jk_sub0 {q mm : Nat} (hq : q < 2 ^ 30) (hm : mm < 2 ^ 30) : (nI q - nI mm ≤ 0) ↔ q ≤ mm := by
  rw [Int32.le_iff_toInt_le, pk_sub_toInt hq hm, Int32.toInt_zero]
  omega
theorem jk_bb : ∀ c : Nat, c < 128 → vp_nar .byte (nI c) = nI c ∧ fits .byte (.int (nI c)) = true := by decide +kernel
theorem jk_upd {f : Nat → Int32} {k c : Nat} (h : sb_Fit f) (hc : c < 128) : sb_Fit (upd f k (nI c)) := sb_fitU h (jk_bb c hc).2
theorem jk_10 : ∀ i : Nat, i ≤ 3 → 10 * (-nI (10 ^ i)) = -nI (10 ^ (i + 1)) := by decide +kernel
def wSB (cB : ClassId) (b n : Nat) (u : Nat × Nat × (Nat → Int32)) : va_W := [(b, .inr (11, [.ref u.1, .int 0, .int 0, .int (nI n)])), (u.1, .inl (cB, u.2.1, .inl u.2.2))]
def pSB (n : Nat) (t : Nat → Nat) (u : Nat × Nat × (Nat → Int32)) : Prop := n ≤ u.2.1 ∧ u.2.1 ≤ 2002 ∧ sb_Fit u.2.2 ∧ ∀ j, j < n → u.2.2 j = nI (t j)
theorem mk_dfJ4 : ∀ j, j < 4 → defaultValue (tyJ4 j) = vp_V [.null, .int 0, .int 0, .int 0] j := by
  intro j hj
  rcases (show j = 0 ∨ j = 1 ∨ j = 2 ∨ j = 3 by omega) with rfl | rfl | rfl | rfl <;> rfl
theorem mk_dfJ0 : ∀ j, j < 4 → defaultValue (tyJ0 j) = vp_V [.null, .int 0, .int 0, .int 0] j := by
  intro j hj
  rcases (show j = 0 ∨ j = 1 ∨ j = 2 ∨ j = 3 by omega) with rfl | rfl | rfl | rfl <;> rfl
set_option maxHeartbeats 4000000 in
set_option maxRecDepth 100000 in
theorem c_newLen (l : Launch) (D : va_G) (cI cJ cB cZ cS : ClassId) (X : Nat → Nat) (Y : mk_Y) (a g f r : Nat) (hr0 : r = a + (if g < f then f else g)) (h1 : 0 < r) (h2 : r < 1000000) : mk_Met l yJ8_newLength_cabcc cJ8_newLength_cabcc 4 (some .int) ({ frames := 1, cells := 0, slots := 0, locals := 30 }) D (mk_TY cI cJ cB cZ cS) X Y [.int (nI a), .int (nI g), .int (nI f)] [] [] (some (.int (nI r))) 0 0 := by
  refine mk_start (own := "jdk/internal/util/ArraysSupport") (by decide) rfl (Nat.le_of_ble_eq_true rfl) ?_
  intro sz p e s m args below meth c A C hr hlk hnm
  replace C : mk_Cx p s m args c cJ8_newLength_cabcc 4 "jdk/internal/util/ArraysSupport" D (mk_TY cI cJ cB cZ cS) X Y A := C
  refine mk_iload_n C 0 dJ8_newLength_cabcc_0 rfl ?_
  refine mk_iload_n C 1 dJ8_newLength_cabcc_1 rfl ?_
  refine mk_iload_n C 2 dJ8_newLength_cabcc_2 rfl ?_
  refine mk_mmax C mw_748 mw_567 mw_16 mw_568 ⟨Nat.le_of_ble_eq_true rfl, Nat.le_of_ble_eq_true rfl⟩ ⟨Nat.le_of_ble_eq_true rfl, Nat.le_of_ble_eq_true rfl⟩ dJ8_newLength_cabcc_3 ?_
  refine mk_topi (y := nI (if g < f then f else g)) (jk_max (by rw [hr0] at h2; split at h2 <;> omega) (by rw [hr0] at h2; split at h2 <;> omega)) ?_
  refine mk_iadd C dJ8_newLength_cabcc_6 ?_
  refine mk_topi (y := nI r) (by rw [nI_add, hr0]) ?_
  refine mk_istore_n C (lv' := [(3, .int (nI r)), (0, .int (nI a)), (1, .int (nI g)), (2, .int (nI f))]) dJ8_newLength_cabcc_7 (by decide) rfl ?_
  refine mk_iconst C (v := 0) dJ8_newLength_cabcc_8 (by decide) ?_
  refine mk_iload_n C 0 dJ8_newLength_cabcc_9 rfl ?_
  refine mk_icmp_ge C 21 dJ8_newLength_cabcc_10 (by decide) (fun h9 => absurd h9 (show ¬ nI r ≤ nI 0 from jk_nle h1 (by omega))) (fun _ => ?_)
  refine mk_iload_n C 0 dJ8_newLength_cabcc_13 rfl ?_
  refine mk_ldc C (v := 2147483639) mw_749 dJ8_newLength_cabcc_14 ?_
  refine mk_icmp_gt C 21 dJ8_newLength_cabcc_16 (by decide) (fun h9 => absurd h9 (show ¬ nI 2147483639 < nI r from nI_nlt (by omega) (by decide))) (fun _ => ?_)
  refine mk_iload_n C 0 dJ8_newLength_cabcc_19 rfl ?_
  exact mk_iret C hr hlk rfl rfl dJ8_newLength_cabcc_20
set_option maxHeartbeats 4000000 in
set_option maxRecDepth 100000 in
theorem c_newCap (l : Launch) (D : va_G) (cI cJ cB cZ cS : ClassId) (X : Nat → Nat) (Y : mk_Y) (b v mm n q r : Nat) (f : Nat → Int32) (hq : mm < q) (hq2 : q ≤ 1000) (hr0 : r = mm + (if q - mm < mm + 2 then mm + 2 else q - mm)) : mk_MetG l yJ5_newCapacity_0f7a4 cJ5_newCapacity_0f7a4 6 (some .int) ({ frames := 2, cells := 0, slots := 0, locals := 53 }) D (mk_TY cI cJ cB cZ cS) X Y [.ref b, .int (nI q)] [(b, .inr (11, [.ref v, .int 0, .int 0, .int (nI n)])), (v, .inl (cB, mm, .inl f))] (fun _ : Unit => True) (fun _ => some (.int (nI r))) (fun _ => [(b, .inr (11, [.ref v, .int 0, .int 0, .int (nI n)])), (v, .inl (cB, mm, .inl f))]) 0 0 := by
  refine mk_startG (own := "java/lang/AbstractStringBuilder") (by decide) rfl (Nat.le_of_ble_eq_true rfl) ?_
  intro sz p e s m args below meth c A C hr hlk hnm
  replace C : mk_Cx p s m args c cJ5_newCapacity_0f7a4 6 "java/lang/AbstractStringBuilder" D (mk_TY cI cJ cB cZ cS) X Y A := C
  refine mk_aload_n C 0 dJ5_newCapacity_0f7a4_0 rfl ?_
  refine mk_get C mk_inJ4 0 rfl rfl 0 (by decide) mw_712 (v := .ref v) rfl dJ5_newCapacity_0f7a4_1 ?_
  refine mk_alen C 1 2 rfl rfl (v := nI mm) rfl dJ5_newCapacity_0f7a4_4 ?_
  refine mk_istore_n C (lv' := [(2, .int (nI mm)), (0, .ref b), (1, .int (nI q))]) dJ5_newCapacity_0f7a4_5 (by decide) rfl ?_
  refine mk_iload_n C 2 dJ5_newCapacity_0f7a4_6 rfl ?_
  refine mk_aload_n C 1 dJ5_newCapacity_0f7a4_7 rfl ?_
  refine mk_get C mk_inJ4 0 rfl rfl 1 (by decide) mw_713 (v := .int 0) rfl dJ5_newCapacity_0f7a4_8 ?_
  refine mk_ishl C dJ5_newCapacity_0f7a4_11 ?_
  refine mk_topi (y := nI q) (sb_shl0 _) ?_
  refine mk_istore_n C (lv' := [(3, .int (nI q)), (2, .int (nI mm)), (0, .ref b), (1, .int (nI q))]) dJ5_newCapacity_0f7a4_12 (by decide) rfl ?_
  refine mk_iload_n C 0 dJ5_newCapacity_0f7a4_13 rfl ?_
  refine mk_iload_n C 1 dJ5_newCapacity_0f7a4_14 rfl ?_
  refine mk_isub C dJ5_newCapacity_0f7a4_15 ?_
  refine mk_topi (y := nI (q - mm)) (pk_sub (by omega)) ?_
  refine mk_istore C (lv' := [(4, .int (nI (q - mm))), (3, .int (nI q)), (2, .int (nI mm)), (0, .ref b), (1, .int (nI q))]) dJ5_newCapacity_0f7a4_16 (by decide) rfl ?_
  refine mk_iload_n C 2 dJ5_newCapacity_0f7a4_18 rfl ?_
  refine mk_iload C 0 dJ5_newCapacity_0f7a4_19 rfl ?_
  refine mk_iload_n C 2 dJ5_newCapacity_0f7a4_21 rfl ?_
  refine mk_iconst C (v := 2) dJ5_newCapacity_0f7a4_22 (by decide) ?_
  refine mk_aload_n C 3 dJ5_newCapacity_0f7a4_23 rfl ?_
  refine mk_get C mk_inJ4 0 rfl rfl 1 (by decide) mw_713 (v := .int 0) rfl dJ5_newCapacity_0f7a4_24 ?_
  refine mk_ishl C dJ5_newCapacity_0f7a4_27 ?_
  refine mk_topi (y := 2) (sb_shl0 _) ?_
  refine mk_iadd C dJ5_newCapacity_0f7a4_28 ?_
  refine mk_topi (y := nI (mm + 2)) (nI_add mm 2) ?_
  refine mk_callSi C (c_newLen l D cI cJ cB cZ cS X Y mm (q - mm) (mm + 2) r hr0 (by rw [hr0]; split <;> omega) (by rw [hr0]; split <;> omega)) mw_745 mw_746 mw_15 mw_747 mkq_J8_newLength_cabcc rfl ⟨Nat.le_of_ble_eq_true rfl, Nat.le_of_ble_eq_true rfl⟩ (mk_Fr.nil _) (Nat.le_of_ble_eq_true rfl) dJ5_newCapacity_0f7a4_29 rfl ?_
  refine mk_istore C (lv' := [(5, .int (nI r)), (4, .int (nI (q - mm))), (3, .int (nI q)), (2, .int (nI mm)), (0, .ref b), (1, .int (nI q))]) dJ5_newCapacity_0f7a4_32 (by decide) rfl ?_
  refine mk_iload C 0 dJ5_newCapacity_0f7a4_34 rfl ?_
  refine mk_ldc C (v := 2147483647) mw_753 dJ5_newCapacity_0f7a4_36 ?_
  refine mk_icmp_ne C 51 dJ5_newCapacity_0f7a4_38 (by decide) (fun _ => ?_) (fun h9 => absurd h9 (show ¬ nI r = nI 2147483647 from jk_ne (by rw [hr0]; split <;> omega) (by rw [hr0]; split <;> omega) (by decide)))
  refine mk_iload C 0 dJ5_newCapacity_0f7a4_51 rfl ?_
  refine mk_aload_n C 4 dJ5_newCapacity_0f7a4_53 rfl ?_
  refine mk_get C mk_inJ4 0 rfl rfl 1 (by decide) mw_713 (v := .int 0) rfl dJ5_newCapacity_0f7a4_54 ?_
  refine mk_ishr C dJ5_newCapacity_0f7a4_57 ?_
  refine mk_topi (y := nI r) (sb_shr0 _) ?_
  exact mk_iretG C hr hlk rfl () trivial rfl rfl dJ5_newCapacity_0f7a4_58
set_option maxHeartbeats 4000000 in
set_option maxRecDepth 100000 in
theorem c_cpOf (l : Launch) (D : va_G) (cI cJ cB cZ cS : ClassId) (X : Nat → Nat) (Y : mk_Y) (v mm k : Nat) (f : Nat → Int32) (hf : sb_Fit f) (hk : mm < k) (hk2 : k ≤ 4100) : mk_MetG l yJ7_copyOf_9075b cJ7_copyOf_9075b 3 (some (.array .byte)) ({ frames := 1, cells := 1, slots := 4100, locals := 70 }) D (mk_TY cI cJ cB cZ cS) X Y [.ref v, .int (nI k)] [(v, .inl (cB, mm, .inl f))] (fun _ : Nat => True) (fun q => some (.ref q)) (fun q => [(v, .inl (cB, mm, .inl f)), (q, .inl (cB, k, .inl (va_cpy f (fun _ => 0) 0 0 mm)))]) 1 4100 := by
  refine mk_startG (own := "java/util/Arrays") (by decide) rfl (Nat.le_of_ble_eq_true rfl) ?_
  intro sz p e s m args below meth c A C hr hlk hnm
  replace C : mk_Cx p s m args c cJ7_copyOf_9075b 3 "java/util/Arrays" D (mk_TY cI cJ cB cZ cS) X Y A := C
  refine mk_iload_n C 1 dJ7_copyOf_9075b_0 rfl ?_
  refine mk_aload_n C 0 dJ7_copyOf_9075b_1 rfl ?_
  refine mk_alen C 0 2 rfl rfl (v := nI mm) rfl dJ7_copyOf_9075b_2 ?_
  refine mk_icmp_ne C 14 dJ7_copyOf_9075b_3 (by decide) (fun _ => ?_) (fun h9 => absurd h9 (show ¬ nI k = nI mm from jk_ne (by omega) (by omega) (by omega)))
  refine mk_iload_n C 1 dJ7_copyOf_9075b_14 rfl ?_
  refine mk_newB C mw_619 (nI_pos (by omega)) (N := k) (nI_clamp (by omega)) (by omega) ⟨Nat.le_of_ble_eq_true rfl, by show 0 + k ≤ 4100; omega⟩ dJ7_copyOf_9075b_15 (fun q => ?_)
  refine mk_weq (ws' := [(v, .inl (cB, mm, .inl f)), (q, .inl (cB, k, .inl (fun _ => 0)))]) rfl ?_
  refine mk_astore_n C (lv' := [(2, .ref q), (0, .ref v), (1, .int (nI k))]) dJ7_copyOf_9075b_17 (by decide) rfl ?_
  refine mk_aload_n C 1 dJ7_copyOf_9075b_18 rfl ?_
  refine mk_iconst C (v := 0) dJ7_copyOf_9075b_19 (by decide) ?_
  refine mk_aload_n C 0 dJ7_copyOf_9075b_20 rfl ?_
  refine mk_iconst C (v := 0) dJ7_copyOf_9075b_21 (by decide) ?_
  refine mk_aload_n C 1 dJ7_copyOf_9075b_22 rfl ?_
  refine mk_alen C 0 2 rfl rfl (v := nI mm) rfl dJ7_copyOf_9075b_23 ?_
  refine mk_iload_n C 2 dJ7_copyOf_9075b_24 rfl ?_
  refine mk_mmin C mw_764 mw_546 mw_16 mw_547 ⟨Nat.le_of_ble_eq_true rfl, Nat.le_of_ble_eq_true rfl⟩ ⟨Nat.le_of_ble_eq_true rfl, by show 0 + k ≤ 4100; omega⟩ dJ7_copyOf_9075b_25 ?_
  refine mk_topi (y := nI mm) (if_neg (nI_nlt (by omega) (by omega))) ?_
  refine mk_copyB (sp := 0) (dp := 0) (n := mm) C mw_765 mw_767 mw_766 mw_18 0 1 2 rfl rfl rfl (by omega) (by omega) (by omega) (by omega) hf ⟨Nat.le_of_ble_eq_true rfl, Nat.le_of_ble_eq_true rfl⟩ (ws' := [(v, .inl (cB, mm, .inl f)), (q, .inl (cB, k, .inl (va_cpy f (fun _ => 0) 0 0 mm)))]) rfl dJ7_copyOf_9075b_28 ?_
  refine mk_aload_n C 0 dJ7_copyOf_9075b_31 rfl ?_
  refine mk_widen (k := 1) (n := 4100) (by omega) (by omega) ?_
  exact mk_aretG C hr (Or.inr ⟨_, rfl⟩) hlk q trivial rfl rfl dJ7_copyOf_9075b_32
set_option maxHeartbeats 4000000 in
set_option maxRecDepth 100000 in
theorem c_ens (l : Launch) (D : va_G) (cI cJ cB cZ cS : ClassId) (X : Nat → Nat) (Y : mk_Y) (b v mm n q : Nat) (t : Nat → Nat) (f : Nat → Int32) (hp : pSB n t (v, mm, f)) (hq2 : q ≤ 1000) : mk_MetG l yJ5_ensureCapacityInternal_d00df cJ5_ensureCapacityInternal_d00df 3 none ({ frames := 3, cells := 1, slots := 4100, locals := 92 }) D (mk_TY cI cJ cB cZ cS) X Y [.ref b, .int (nI q)] [(b, .inr (11, [.ref v, .int 0, .int 0, .int (nI n)])), (v, .inl (cB, mm, .inl f))] (fun u : Nat × Nat × (Nat → Int32) => pSB n t u ∧ q ≤ u.2.1) (fun _ => none) (fun u => wSB cB b n u) 1 4100 := by
  refine mk_startG (own := "java/lang/AbstractStringBuilder") (by decide) rfl (Nat.le_of_ble_eq_true rfl) ?_
  intro sz p e s m args below meth c A C hr hlk hnm
  replace C : mk_Cx p s m args c cJ5_ensureCapacityInternal_d00df 3 "java/lang/AbstractStringBuilder" D (mk_TY cI cJ cB cZ cS) X Y A := C
  obtain ⟨hp1, hp2, hp3, hp4⟩ := id hp
  have hp2 : mm ≤ 2002 := hp2
  have hp1 : n ≤ mm := hp1
  refine mk_aload_n C 0 dJ5_ensureCapacityInternal_d00df_0 rfl ?_
  refine mk_get C mk_inJ4 0 rfl rfl 0 (by decide) mw_712 (v := .ref v) rfl dJ5_ensureCapacityInternal_d00df_1 ?_
  refine mk_alen C 1 2 rfl rfl (v := nI mm) rfl dJ5_ensureCapacityInternal_d00df_4 ?_
  refine mk_aload_n C 0 dJ5_ensureCapacityInternal_d00df_5 rfl ?_
  refine mk_get C mk_inJ4 0 rfl rfl 1 (by decide) mw_713 (v := .int 0) rfl dJ5_ensureCapacityInternal_d00df_6 ?_
  refine mk_ishr C dJ5_ensureCapacityInternal_d00df_9 ?_
  refine mk_topi (y := nI mm) (sb_shr0 _) ?_
  refine mk_istore_n C (lv' := [(2, .int (nI mm)), (0, .ref b), (1, .int (nI q))]) dJ5_ensureCapacityInternal_d00df_10 (by decide) rfl ?_
  refine mk_iload_n C 2 dJ5_ensureCapacityInternal_d00df_11 rfl ?_
  refine mk_iload_n C 0 dJ5_ensureCapacityInternal_d00df_12 rfl ?_
  refine mk_isub C dJ5_ensureCapacityInternal_d00df_13 ?_
  refine mk_if_le C 38 dJ5_ensureCapacityInternal_d00df_14 (by decide) (fun hc => ?_) (fun hc => ?_)
  · have hqm : q ≤ mm := (jk_sub0 (by omega) (by omega)).mp hc
    refine mk_widen (k := 1) (n := 4100) (by decide) (by decide) ?_
    exact mk_vretG C hr hlk (v, mm, f) ⟨hp, hqm⟩ rfl dJ5_ensureCapacityInternal_d00df_38
  · have hqm : mm < q := Nat.lt_of_not_le (fun z => hc ((jk_sub0 (by omega) (by omega)).mpr z))
    obtain ⟨r, hr0⟩ : ∃ r, r = mm + (if q - mm < mm + 2 then mm + 2 else q - mm) := ⟨_, rfl⟩
    have hr1 : q ≤ r ∧ mm < r ∧ r ≤ 2002 := by rw [hr0]; split <;> omega
    refine mk_aload_n C 1 dJ5_ensureCapacityInternal_d00df_17 rfl ?_
    refine mk_aload_n C 1 dJ5_ensureCapacityInternal_d00df_18 rfl ?_
    refine mk_get C mk_inJ4 0 rfl rfl 0 (by decide) mw_712 (v := .ref v) rfl dJ5_ensureCapacityInternal_d00df_19 ?_
    refine mk_aload_n C 1 dJ5_ensureCapacityInternal_d00df_22 rfl ?_
    refine mk_iload_n C 2 dJ5_ensureCapacityInternal_d00df_23 rfl ?_
    refine mk_callUG (wr := []) (wc := [(b, .inr (11, [.ref v, .int 0, .int 0, .int (nI n)])), (v, .inl (cB, mm, .inl f))]) C (c_newCap l D cI cJ cB cZ cS X Y b v mm n q r f hqm hq2 hr0) mw_741 mw_1041 mw_743 mw_p1 mw_11 mw_744 mkq_J5_newCapacity_0f7a4 rfl ⟨Nat.le_of_ble_eq_true rfl, Nat.le_of_ble_eq_true rfl⟩ ⟨rfl, rfl⟩ ⟨Nat.le_of_ble_eq_true rfl, Nat.le_of_ble_eq_true rfl⟩ 0 rfl (List.Perm.refl _) mk_Xt.rf (Nat.le_of_ble_eq_true rfl) dJ5_ensureCapacityInternal_d00df_24 rfl (fun u _ => ?_)
    refine mk_weq (ws' := [(b, .inr (11, [.ref v, .int 0, .int 0, .int (nI n)])), (v, .inl (cB, mm, .inl f))]) rfl ?_
    show mk_Go p l e _ s m _ below meth c D A 3 _ _ _ _ _ _ [.int (nI r), .ref v, .ref b]
    refine mk_aload_n C 1 dJ5_ensureCapacityInternal_d00df_27 rfl ?_
    refine mk_get C mk_inJ4 0 rfl rfl 1 (by decide) mw_713 (v := .int 0) rfl dJ5_ensureCapacityInternal_d00df_28 ?_
    refine mk_ishl C dJ5_ensureCapacityInternal_d00df_31 ?_
    refine mk_topi (y := nI r) (sb_shl0 _) ?_
    refine mk_callSG (wr := [(b, .inr (11, [.ref v, .int 0, .int 0, .int (nI n)]))]) (wc := [(v, .inl (cB, mm, .inl f))]) C (c_cpOf l D cI cJ cB cZ cS X Y v mm r f hp3 hr1.2.1 (by omega)) mw_754 mw_755 mw_17 mw_756 mkq_J7_copyOf_9075b rfl ⟨Nat.le_of_ble_eq_true rfl, Nat.le_of_ble_eq_true rfl⟩ ⟨rfl, rfl⟩ ⟨Nat.le_of_ble_eq_true rfl, Nat.le_of_ble_eq_true rfl⟩ (List.Perm.refl _) mk_Xt.rf (Nat.le_of_ble_eq_true rfl) dJ5_ensureCapacityInternal_d00df_32 rfl (fun q2 _ => ?_)
    refine mk_weq (ws' := [(b, .inr (11, [.ref v, .int 0, .int 0, .int (nI n)])), (v, .inl (cB, mm, .inl f)), (q2, .inl (cB, r, .inl (va_cpy f (fun _ => 0) 0 0 mm)))]) rfl ?_
    show mk_Go p l e _ s m _ below meth c D A 3 _ _ _ _ _ _ [.ref q2, .ref b]
    refine mk_put C mk_inJ4 tyJ4 tyJ4_ok nmJ4 0 rfl rfl 0 (by decide) mw_712 rfl rfl rfl (Nat.le_of_ble_eq_true rfl) (ws' := [(b, .inr (11, [.ref q2, .int 0, .int 0, .int (nI n)])), (v, .inl (cB, mm, .inl f)), (q2, .inl (cB, r, .inl (va_cpy f (fun _ => 0) 0 0 mm)))]) rfl dJ5_ensureCapacityInternal_d00df_35 ?_
    refine mk_drop [(v, .inl (cB, mm, .inl f))] (ws' := [(b, .inr (11, [.ref q2, .int 0, .int 0, .int (nI n)])), (q2, .inl (cB, r, .inl (va_cpy f (fun _ => 0) 0 0 mm)))]) (mk_px 3 [1, 0, 2] rfl (by decide) rfl) ?_
    exact mk_vretG C hr hlk (q2, r, va_cpy f (fun _ => 0) 0 0 mm) ⟨⟨by show n ≤ r; omega, by show r ≤ 2002; omega, sb_fitC hp3 sb_fit0, fun j hj => (by show va_cpy f (fun _ => 0) 0 0 mm j = _; rw [sb_cpy0 (by omega)]; exact hp4 j hj)⟩, by show q ≤ r; omega⟩ rfl dJ5_ensureCapacityInternal_d00df_38
set_option maxHeartbeats 4000000 in
set_option maxRecDepth 100000 in
theorem c_asL (l : Launch) (D : va_G) (cI cJ cB cZ cS : ClassId) (X : Nat → Nat) (Y : mk_Y) (b v n : Nat) : mk_MetG l yJ5_isLatin1_aae02 cJ5_isLatin1_aae02 1 (some .boolean) ({ frames := 0, cells := 0, slots := 0, locals := 0 }) D (mk_TY cI cJ cB cZ cS) X Y [.ref b] [(b, .inr (11, [.ref v, .int 0, .int 0, .int (nI n)]))] (fun _ : Unit => True) (fun _ => some (.int 1)) (fun _ => [(b, .inr (11, [.ref v, .int 0, .int 0, .int (nI n)]))]) 0 0 := by
  refine mk_startG (own := "java/lang/AbstractStringBuilder") (by decide) rfl (Nat.le_of_ble_eq_true rfl) ?_
  intro sz p e s m args below meth c A C hr hlk hnm
  replace C : mk_Cx p s m args c cJ5_isLatin1_aae02 1 "java/lang/AbstractStringBuilder" D (mk_TY cI cJ cB cZ cS) X Y A := C
  refine mk_gets C C.2.2.1.2.2.2.2.1 mw_704 dJ5_isLatin1_aae02_0 ?_
  refine mk_if_eq C 17 dJ5_isLatin1_aae02_3 (by decide) (fun h9 => absurd h9 (by decide)) (fun _ => ?_)
  refine mk_aload_n C 0 dJ5_isLatin1_aae02_6 rfl ?_
  refine mk_get C mk_inJ4 0 rfl rfl 1 (by decide) mw_713 (v := .int 0) rfl dJ5_isLatin1_aae02_7 ?_
  refine mk_if_ne C 17 dJ5_isLatin1_aae02_10 (by decide) (fun h9 => absurd h9 (fun z => z rfl)) (fun _ => ?_)
  refine mk_iconst C (v := 1) dJ5_isLatin1_aae02_13 (by decide) ?_
  refine mk_goto C 18 dJ5_isLatin1_aae02_14 (by decide) ?_
  exact mk_iretG C hr hlk rfl () trivial rfl rfl dJ5_isLatin1_aae02_18
set_option maxHeartbeats 4000000 in
set_option maxRecDepth 100000 in
theorem c_infl (l : Launch) (D : va_G) (cI cJ cB cZ cS : ClassId) (X : Nat → Nat) (Y : mk_Y) (b v n k : Nat) : mk_MetG l yJ5_inflateIfNeededFor_a7421 cJ5_inflateIfNeededFor_a7421 2 none ({ frames := 1, cells := 0, slots := 0, locals := 20 }) D (mk_TY cI cJ cB cZ cS) X Y [.ref b, .ref (X k)] [(b, .inr (11, [.ref v, .int 0, .int 0, .int (nI n)]))] (fun _ : Unit => True) (fun _ => none) (fun _ => [(b, .inr (11, [.ref v, .int 0, .int 0, .int (nI n)]))]) 0 0 := by
  refine mk_startG (own := "java/lang/AbstractStringBuilder") (by decide) rfl (Nat.le_of_ble_eq_true rfl) ?_
  intro sz p e s m args below meth c A C hr hlk hnm
  replace C : mk_Cx p s m args c cJ5_inflateIfNeededFor_a7421 2 "java/lang/AbstractStringBuilder" D (mk_TY cI cJ cB cZ cS) X Y A := C
  refine mk_gets C C.2.2.1.2.2.2.2.1 mw_704 dJ5_inflateIfNeededFor_a7421_0 ?_
  refine mk_if_eq C 21 dJ5_inflateIfNeededFor_a7421_3 (by decide) (fun h9 => absurd h9 (by decide)) (fun _ => ?_)
  refine mk_aload_n C 0 dJ5_inflateIfNeededFor_a7421_6 rfl ?_
  refine mk_get C mk_inJ4 0 rfl rfl 1 (by decide) mw_713 (v := .int 0) rfl dJ5_inflateIfNeededFor_a7421_7 ?_
  refine mk_aload_n C 1 dJ5_inflateIfNeededFor_a7421_10 rfl ?_
  refine mk_callEg C (c_coder l D cI cJ cB cZ cS X Y k) mw_797 mw_399 mw_400 mw_13 mw_401 mkq_J0_coder_7d493 rfl ⟨Nat.le_of_ble_eq_true rfl, Nat.le_of_ble_eq_true rfl⟩ rfl (Nat.le_of_ble_eq_true rfl) dJ5_inflateIfNeededFor_a7421_11 rfl ?_
  refine mk_icmp_eq C 21 dJ5_inflateIfNeededFor_a7421_14 (by decide) (fun _ => ?_) (fun h9 => absurd (rfl) h9)
  exact mk_vretG C hr hlk () trivial rfl dJ5_inflateIfNeededFor_a7421_21
set_option maxHeartbeats 4000000 in
set_option maxRecDepth 100000 in
theorem c_gBy (l : Launch) (D : va_G) (cI cJ cB cZ cS : ClassId) (X : Nat → Nat) (Y : mk_Y) (v mm n k : Nat) (f : Nat → Int32) (hY : mk_Sp (Y.1 k)) (hn : n + (Y.1 k).2.1 ≤ mm) (hm : mm ≤ 2002) : mk_MetG l yJ0_getBytes_840e7 cJ0_getBytes_840e7 4 none ({ frames := 1, cells := 0, slots := 0, locals := 70 }) D (mk_TY cI cJ cB cZ cS) X Y [.ref (X k), .ref v, .int (nI n), .int 0] [(v, .inl (cB, mm, .inl f))] (fun _ : Unit => True) (fun _ => none) (fun _ => [(v, .inl (cB, mm, .inl (va_cpy (fun j => nI ((Y.1 k).2.2 j)) f 0 n (Y.1 k).2.1)))]) 0 0 := by
  refine mk_startG (own := RJ0) (by decide) rfl (Nat.le_of_ble_eq_true rfl) ?_
  intro sz p e s m args below meth c A C hr hlk hnm
  replace C : mk_Cx p s m args c cJ0_getBytes_840e7 4 RJ0 D (mk_TY cI cJ cB cZ cS) X Y A := C
  refine mk_aload_n C 0 dJ0_getBytes_840e7_0 rfl ?_
  refine mk_callEg C (c_coder l D cI cJ cB cZ cS X Y k) mw_398 mw_399 mw_400 mw_13 mw_401 mkq_J0_coder_7d493 rfl ⟨Nat.le_of_ble_eq_true rfl, Nat.le_of_ble_eq_true rfl⟩ rfl (Nat.le_of_ble_eq_true rfl) dJ0_getBytes_840e7_1 rfl ?_
  refine mk_iload_n C 3 dJ0_getBytes_840e7_4 rfl ?_
  refine mk_icmp_ne C 28 dJ0_getBytes_840e7_5 (by decide) (fun h9 => absurd h9 (fun z => z rfl)) (fun _ => ?_)
  refine mk_aload_n C 0 dJ0_getBytes_840e7_8 rfl ?_
  refine mk_getE C (C.2.2.1.2.1 k).2.2.1 mw_898 dJ0_getBytes_840e7_9 ?_
  refine mk_iconst C (v := 0) dJ0_getBytes_840e7_12 (by decide) ?_
  refine mk_aload_n C 1 dJ0_getBytes_840e7_13 rfl ?_
  refine mk_iload_n C 2 dJ0_getBytes_840e7_14 rfl ?_
  refine mk_iload_n C 3 dJ0_getBytes_840e7_15 rfl ?_
  refine mk_ishl C dJ0_getBytes_840e7_16 ?_
  refine mk_topi (y := nI n) (sb_shl0 _) ?_
  refine mk_aload_n C 0 dJ0_getBytes_840e7_17 rfl ?_
  refine mk_getE C (C.2.2.1.2.1 k).2.2.1 mw_898 dJ0_getBytes_840e7_18 ?_
  refine mk_lenE C (C.2.2.1.2.1 k).2.2.2 (v := nI (Y.1 k).2.1) rfl dJ0_getBytes_840e7_21 ?_
  refine mk_copyE (sp := 0) (dp := n) (n := (Y.1 k).2.1) C mw_821 mw_767 mw_766 mw_18 (f := fun j => nI ((Y.1 k).2.2 j)) (C.2.2.1.2.1 k).2.2.2 0 2 rfl rfl (by omega) (by omega) (Nat.lt_of_le_of_lt hY.1 (by decide)) (by omega) (fun i hi => (jk_bb _ (hY.2 i hi)).2) ⟨Nat.le_of_ble_eq_true rfl, Nat.le_of_ble_eq_true rfl⟩ (ws' := [(v, .inl (cB, mm, .inl (va_cpy (fun j => nI ((Y.1 k).2.2 j)) f 0 n (Y.1 k).2.1)))]) rfl dJ0_getBytes_840e7_22 ?_
  refine mk_goto C 43 dJ0_getBytes_840e7_25 (by decide) ?_
  exact mk_vretG C hr hlk () trivial rfl dJ0_getBytes_840e7_43
set_option maxHeartbeats 4000000 in
set_option maxRecDepth 100000 in
theorem c_puts (l : Launch) (D : va_G) (cI cJ cB cZ cS : ClassId) (X : Nat → Nat) (Y : mk_Y) (b v mm n k : Nat) (f : Nat → Int32) (hY : mk_Sp (Y.1 k)) (hn : n + (Y.1 k).2.1 ≤ mm) (hm : mm ≤ 2002) : mk_MetG l yJ5_putStringAt_47b60 cJ5_putStringAt_47b60 3 none ({ frames := 2, cells := 0, slots := 0, locals := 93 }) D (mk_TY cI cJ cB cZ cS) X Y [.ref b, .int (nI n), .ref (X k)] [(b, .inr (11, [.ref v, .int 0, .int 0, .int (nI n)])), (v, .inl (cB, mm, .inl f))] (fun _ : Unit => True) (fun _ => none) (fun _ => [(b, .inr (11, [.ref v, .int 0, .int 0, .int (nI n)])), (v, .inl (cB, mm, .inl (va_cpy (fun j => nI ((Y.1 k).2.2 j)) f 0 n (Y.1 k).2.1)))]) 0 0 := by
  refine mk_startG (own := "java/lang/AbstractStringBuilder") (by decide) rfl (Nat.le_of_ble_eq_true rfl) ?_
  intro sz p e s m args below meth c A C hr hlk hnm
  replace C : mk_Cx p s m args c cJ5_putStringAt_47b60 3 "java/lang/AbstractStringBuilder" D (mk_TY cI cJ cB cZ cS) X Y A := C
  refine mk_aload_n C 0 dJ5_putStringAt_47b60_0 rfl ?_
  refine mk_aload_n C 2 dJ5_putStringAt_47b60_1 rfl ?_
  refine mk_callUG (wr := [(v, .inl (cB, mm, .inl f))]) (wc := [(b, .inr (11, [.ref v, .int 0, .int 0, .int (nI n)]))]) C (c_infl l D cI cJ cB cZ cS X Y b v n k) mw_793 mw_1043 mw_795 mw_p3 mw_11 mw_796 mkq_J5_inflateIfNeededFor_a7421 rfl ⟨Nat.le_of_ble_eq_true rfl, Nat.le_of_ble_eq_true rfl⟩ ⟨rfl, rfl⟩ ⟨Nat.le_of_ble_eq_true rfl, Nat.le_of_ble_eq_true rfl⟩ 0 rfl (mk_px 2 [1, 0] rfl (by decide) rfl) mk_Xt.rf (Nat.le_of_ble_eq_true rfl) dJ5_putStringAt_47b60_2 rfl (fun u _ => ?_)
  refine mk_perm (ws' := [(b, .inr (11, [.ref v, .int 0, .int 0, .int (nI n)])), (v, .inl (cB, mm, .inl f))]) (mk_px 2 [1, 0] rfl (by decide) rfl) ?_
  show mk_Go p l e _ s m _ below meth c D A 3 _ _ _ _ _ _ []
  refine mk_aload_n C 2 dJ5_putStringAt_47b60_5 rfl ?_
  refine mk_aload_n C 0 dJ5_putStringAt_47b60_6 rfl ?_
  refine mk_get C mk_inJ4 0 rfl rfl 0 (by decide) mw_712 (v := .ref v) rfl dJ5_putStringAt_47b60_7 ?_
  refine mk_iload_n C 1 dJ5_putStringAt_47b60_10 rfl ?_
  refine mk_aload_n C 0 dJ5_putStringAt_47b60_11 rfl ?_
  refine mk_get C mk_inJ4 0 rfl rfl 1 (by decide) mw_713 (v := .int 0) rfl dJ5_putStringAt_47b60_12 ?_
  refine mk_callEG (wr := [(b, .inr (11, [.ref v, .int 0, .int 0, .int (nI n)]))]) (wc := [(v, .inl (cB, mm, .inl f))]) C (c_gBy l D cI cJ cB cZ cS X Y v mm n k f hY hn hm) mw_817 mw_818 mw_819 mw_13 mw_820 mkq_J0_getBytes_840e7 rfl ⟨Nat.le_of_ble_eq_true rfl, Nat.le_of_ble_eq_true rfl⟩ ⟨rfl, rfl⟩ ⟨Nat.le_of_ble_eq_true rfl, Nat.le_of_ble_eq_true rfl⟩ rfl (List.Perm.refl _) (Nat.le_of_ble_eq_true rfl) dJ5_putStringAt_47b60_15 rfl (fun u _ => ?_)
  refine mk_weq (ws' := [(b, .inr (11, [.ref v, .int 0, .int 0, .int (nI n)])), (v, .inl (cB, mm, .inl (va_cpy (fun j => nI ((Y.1 k).2.2 j)) f 0 n (Y.1 k).2.1)))]) rfl ?_
  show mk_Go p l e _ s m _ below meth c D A 3 _ _ _ _ _ _ []
  exact mk_vretG C hr hlk () trivial rfl dJ5_putStringAt_47b60_18
theorem jk_cat {n w mm : Nat} {t s : Nat → Nat} {v : Nat} {f : Nat → Int32} (hp : pSB n t (v, mm, f)) (hm : n + w ≤ mm) (hs : ∀ j, j < w → s j < 128) {g : Nat → Int32} (h1 : ∀ j, j < n → g j = f j) (h2 : ∀ i, i < w → g (n + i) = nI (s i)) (h3 : sb_Fit g) : pSB (n + w) (sb_cat t n s) (v, mm, g) := by
  obtain ⟨p1, p2, p3, p4⟩ := hp
  refine ⟨hm, p2, h3, fun j hj => ?_⟩
  show g j = _
  by_cases q : j < n
  · rw [h1 j q, sb_cat_lo q]; exact p4 j q
  · obtain ⟨i, rfl⟩ : ∃ i, j = n + i := ⟨j - n, by omega⟩
    rw [h2 i (by omega), sb_cat_hi]
theorem jk_cpS {Y : mk_Y} {k n w mm v : Nat} {t : Nat → Nat} {f : Nat → Int32} (hY : mk_Sp (Y.1 k)) (hw : w = (Y.1 k).2.1) (hp : pSB n t (v, mm, f)) (hm : n + w ≤ mm) : pSB (n + w) (sb_cat t n (Y.1 k).2.2) (v, mm, va_cpy (fun j => nI ((Y.1 k).2.2 j)) f 0 n w) := by
  subst hw
  refine jk_cat hp hm hY.2 (fun j hj => ?_) (fun i hi => ?_) (fun j => ?_)
  · rw [pk_cpy_out (by omega)]
  · rw [pk_cpy_in (by omega) (by omega)]
    rw [show 0 + (n + i - n) = i by omega]
  · by_cases q : n ≤ j ∧ j < n + (Y.1 k).2.1
    · rw [pk_cpy_in q.1 q.2]; exact (jk_bb _ (hY.2 _ (by omega))).2
    · rw [pk_cpy_out (by omega)]; exact hp.2.2.1 j
set_option maxHeartbeats 4000000 in
set_option maxRecDepth 100000 in
theorem c_asS (l : Launch) (D : va_G) (cI cJ cB cZ cS : ClassId) (X : Nat → Nat) (Y : mk_Y) (b v mm n k : Nat) (t : Nat → Nat) (f : Nat → Int32) (hY : mk_Sp (Y.1 k)) (hp : pSB n t (v, mm, f)) (hn : n + (Y.1 k).2.1 ≤ 1000) : mk_MetG l yJ5_append_cf1ce cJ5_append_cf1ce 3 (some (.object "java/lang/AbstractStringBuilder")) ({ frames := 4, cells := 1, slots := 4100, locals := 115 }) D (mk_TY cI cJ cB cZ cS) X Y [.ref b, .ref (X k)] [(b, .inr (11, [.ref v, .int 0, .int 0, .int (nI n)])), (v, .inl (cB, mm, .inl f))] (fun u : Nat × Nat × (Nat → Int32) => pSB (n + (Y.1 k).2.1) (sb_cat t n (Y.1 k).2.2) u) (fun _ => some (.ref b)) (fun u => wSB cB b (n + (Y.1 k).2.1) u) 1 4100 := by
  refine mk_startG (own := "java/lang/AbstractStringBuilder") (by decide) rfl (Nat.le_of_ble_eq_true rfl) ?_
  intro sz p e s m args below meth c A C hr hlk hnm
  replace C : mk_Cx p s m args c cJ5_append_cf1ce 3 "java/lang/AbstractStringBuilder" D (mk_TY cI cJ cB cZ cS) X Y A := C
  refine mk_aload_n C 1 dJ5_append_cf1ce_0 rfl ?_
  refine mk_ifnn C 9 dJ5_append_cf1ce_1 (by decide) ?_
  refine mk_aload_n C 1 dJ5_append_cf1ce_9 rfl ?_
  refine mk_callEg C (c_slenG l D cI cJ cB cZ cS X Y k) mw_788 mw_395 mw_396 mw_13 mw_397 mkq_J0_length_8abf5 rfl ⟨Nat.le_of_ble_eq_true rfl, Nat.le_of_ble_eq_true rfl⟩ rfl (Nat.le_of_ble_eq_true rfl) dJ5_append_cf1ce_10 rfl ?_
  refine mk_istore_n C (lv' := [(2, .int (nI (Y.1 k).2.1)), (0, .ref b), (1, .ref (X k))]) dJ5_append_cf1ce_13 (by decide) rfl ?_
  refine mk_aload_n C 1 dJ5_append_cf1ce_14 rfl ?_
  refine mk_aload_n C 1 dJ5_append_cf1ce_15 rfl ?_
  refine mk_get C mk_inJ4 0 rfl rfl 3 (by decide) mw_715 (v := .int (nI n)) rfl dJ5_append_cf1ce_16 ?_
  refine mk_iload_n C 0 dJ5_append_cf1ce_19 rfl ?_
  refine mk_iadd C dJ5_append_cf1ce_20 ?_
  refine mk_topi (y := nI (n + (Y.1 k).2.1)) (nI_add _ _) ?_
  refine mk_callUG (wr := []) (wc := [(b, .inr (11, [.ref v, .int 0, .int 0, .int (nI n)])), (v, .inl (cB, mm, .inl f))]) C (c_ens l D cI cJ cB cZ cS X Y b v mm n (n + (Y.1 k).2.1) t f hp hn) mw_737 mw_1040 mw_739 mw_p0 mw_11 mw_740 mkq_J5_ensureCapacityInternal_d00df rfl ⟨Nat.le_of_ble_eq_true rfl, Nat.le_of_ble_eq_true rfl⟩ ⟨rfl, rfl⟩ ⟨Nat.le_of_ble_eq_true rfl, Nat.le_of_ble_eq_true rfl⟩ 0 rfl (List.Perm.refl _) mk_Xt.rf (Nat.le_of_ble_eq_true rfl) dJ5_append_cf1ce_21 rfl (fun u hu => ?_)
  obtain ⟨v', mm', f'⟩ := u
  have hm' : n + (Y.1 k).2.1 ≤ mm' := hu.2
  have h2' : mm' ≤ 2002 := hu.1.2.1
  refine mk_weq (ws' := [(b, .inr (11, [.ref v', .int 0, .int 0, .int (nI n)])), (v', .inl (cB, mm', .inl f'))]) rfl ?_
  show mk_Go p l e _ s m _ below meth c D A 3 _ _ _ _ _ _ []
  refine mk_aload_n C 1 dJ5_append_cf1ce_24 rfl ?_
  refine mk_aload_n C 1 dJ5_append_cf1ce_25 rfl ?_
  refine mk_get C mk_inJ4 0 rfl rfl 3 (by decide) mw_715 (v := .int (nI n)) rfl dJ5_append_cf1ce_26 ?_
  refine mk_aload_n C 2 dJ5_append_cf1ce_29 rfl ?_
  refine mk_callUG (wr := []) (wc := [(b, .inr (11, [.ref v', .int 0, .int 0, .int (nI n)])), (v', .inl (cB, mm', .inl f'))]) C (c_puts l D cI cJ cB cZ cS X Y b v' mm' n k f' hY hm' h2') mw_789 mw_1042 mw_791 mw_p2 mw_11 mw_792 mkq_J5_putStringAt_47b60 rfl ⟨Nat.le_of_ble_eq_true rfl, Nat.le_of_ble_eq_true rfl⟩ ⟨rfl, rfl⟩ ⟨Nat.le_of_ble_eq_true rfl, Nat.le_of_ble_eq_true rfl⟩ 0 rfl (List.Perm.refl _) mk_Xt.rf (Nat.le_of_ble_eq_true rfl) dJ5_append_cf1ce_30 rfl (fun u _ => ?_)
  refine mk_weq (ws' := [(b, .inr (11, [.ref v', .int 0, .int 0, .int (nI n)])), (v', .inl (cB, mm', .inl (va_cpy (fun j => nI ((Y.1 k).2.2 j)) f' 0 n (Y.1 k).2.1)))]) rfl ?_
  show mk_Go p l e _ s m _ below meth c D A 3 _ _ _ _ _ _ []
  refine mk_aload_n C 1 dJ5_append_cf1ce_33 rfl ?_
  refine mk_dup C dJ5_append_cf1ce_34 rfl ?_
  refine mk_get C mk_inJ4 0 rfl rfl 3 (by decide) mw_715 (v := .int (nI n)) rfl dJ5_append_cf1ce_35 ?_
  refine mk_iload_n C 0 dJ5_append_cf1ce_38 rfl ?_
  refine mk_iadd C dJ5_append_cf1ce_39 ?_
  refine mk_topi (y := nI (n + (Y.1 k).2.1)) (nI_add _ _) ?_
  refine mk_put C mk_inJ4 tyJ4 tyJ4_ok nmJ4 0 rfl rfl 3 (by decide) mw_715 rfl rfl rfl (Nat.le_of_ble_eq_true rfl) (ws' := [(b, .inr (11, [.ref v', .int 0, .int 0, .int (nI (n + (Y.1 k).2.1))])), (v', .inl (cB, mm', .inl (va_cpy (fun j => nI ((Y.1 k).2.2 j)) f' 0 n (Y.1 k).2.1)))]) rfl dJ5_append_cf1ce_40 ?_
  refine mk_aload_n C 1 dJ5_append_cf1ce_43 rfl ?_
  exact mk_aretG C hr (Or.inl ⟨_, rfl⟩) hlk (v', mm', _) (jk_cpS hY rfl hu.1 hm') rfl rfl dJ5_append_cf1ce_44
set_option maxHeartbeats 4000000 in
set_option maxRecDepth 100000 in
theorem c_apS (l : Launch) (D : va_G) (cI cJ cB cZ cS : ClassId) (X : Nat → Nat) (Y : mk_Y) (b v mm n k : Nat) (t : Nat → Nat) (f : Nat → Int32) (hY : mk_Sp (Y.1 k)) (hp : pSB n t (v, mm, f)) (hn : n + (Y.1 k).2.1 ≤ 1000) : mk_MetG l yJ4_append_15ec4 cJ4_append_15ec4 2 (some (.object "java/lang/StringBuilder")) ({ frames := 5, cells := 1, slots := 4100, locals := 137 }) D (mk_TY cI cJ cB cZ cS) X Y [.ref b, .ref (X k)] [(b, .inr (11, [.ref v, .int 0, .int 0, .int (nI n)])), (v, .inl (cB, mm, .inl f))] (fun u : Nat × Nat × (Nat → Int32) => pSB (n + (Y.1 k).2.1) (sb_cat t n (Y.1 k).2.2) u) (fun _ => some (.ref b)) (fun u => wSB cB b (n + (Y.1 k).2.1) u) 1 4100 := by
  refine mk_startG (own := RJ4) (by decide) rfl (Nat.le_of_ble_eq_true rfl) ?_
  intro sz p e s m args below meth c A C hr hlk hnm
  replace C : mk_Cx p s m args c cJ4_append_15ec4 2 RJ4 D (mk_TY cI cJ cB cZ cS) X Y A := C
  refine mk_aload_n C 0 dJ4_append_15ec4_0 rfl ?_
  refine mk_aload_n C 1 dJ4_append_15ec4_1 rfl ?_
  refine mk_callSU (wr := []) (wc := [(b, .inr (11, [.ref v, .int 0, .int 0, .int (nI n)])), (v, .inl (cB, mm, .inl f))]) C (c_asS l D cI cJ cB cZ cS X Y b v mm n k t f hY hp hn) mw_730 mw_1038 mw_724 mw_731 mw_11 mw_732 mkq_J5_append_cf1ce (by decide) rfl ⟨Nat.le_of_ble_eq_true rfl, Nat.le_of_ble_eq_true rfl⟩ ⟨rfl, rfl⟩ ⟨Nat.le_of_ble_eq_true rfl, Nat.le_of_ble_eq_true rfl⟩ 0 rfl (List.Perm.refl _) mk_Xt.rf (Nat.le_of_ble_eq_true rfl) dJ4_append_15ec4_2 rfl (fun u hu => ?_)
  show mk_Go p l e _ s m _ below meth c D A 2 _ _ _ _ ([] ++ _) _ [.ref b]
  refine mk_pop C dJ4_append_15ec4_5 rfl ?_
  refine mk_aload_n C 0 dJ4_append_15ec4_6 rfl ?_
  exact mk_aretG C hr (Or.inl ⟨_, rfl⟩) hlk u hu rfl rfl dJ4_append_15ec4_7
end
section
theorem mkq_J6_stringSize_0f7a4 : mk_nm yJ6_stringSize_0f7a4 1 := by decide +kernel
theorem mkq_J5_isLatin1_aae02 : mk_nm yJ5_isLatin1_aae02 0 := by decide +kernel
theorem mkq_J6_getChars_ba4f3 : mk_nm yJ6_getChars_ba4f3 3 := by decide +kernel
theorem mkq_J5_append_c97b9 : mk_nm yJ5_append_c97b9 1 := by decide +kernel
theorem mkq_J5_length_8abf5 : mk_nm yJ5_length_8abf5 0 := by decide +kernel
theorem mkq_J7_checkLength_df160 : mk_nm yJ7_checkLength_df160 2 := by decide +kernel
theorem mkq_J7_copyOfRangeByte_39247 : mk_nm yJ7_copyOfRangeByte_39247 3 := by decide +kernel
theorem mkq_J5_getValue_6d5f1 : mk_nm yJ5_getValue_6d5f1 0 := by decide +kernel
theorem mkq_J7_copyOfRange_39247 : mk_nm yJ7_copyOfRange_39247 3 := by decide +kernel
theorem mkq_J0_init_db425 : mk_nm yJ0_init_db425 2 := by decide +kernel
theorem mkq_J0_init_81219 : mk_nm yJ0_init_81219 1 := by decide +kernel
theorem mkq_J5_init_d00df : mk_nm yJ5_init_d00df 1 := by decide +kernel
/-! numbers into text; toString (jdk2.py) -/
theorem jk_min {n mm : Nat} (h : n ≤ mm) (hm : mm < 2 ^ 31) : (if nI n < nI mm then nI n else nI mm) = nI n := by
  by_cases q : n < mm
  · rw [if_pos (nI_lt q hm)]
  · rw [if_neg (fun z => q ((nI_ltI (by omega) hm).mp z)), show mm = n by omega]
theorem jk_d1 {v : Nat} (h : v < 10) : sb_dg v = 1 := by unfold sb_dg; rw [if_pos h]
theorem jk_d2 {v : Nat} (h : 10 ≤ v) (h2 : v < 100) : sb_dg v = 2 := by unfold sb_dg; rw [if_neg (by omega), if_pos h2]
theorem jk_d3 {v : Nat} (h : 100 ≤ v) (h2 : v < 1000) : sb_dg v = 3 := by unfold sb_dg; rw [if_neg (by omega), if_neg (by omega), if_pos h2]
def pDg (v n : Nat) (f f' : Nat → Int32) : Prop := (∀ j, (j < n ∨ n + sb_dg v ≤ j) → f' j = f j) ∧ (∀ i, i < sb_dg v → f' (n + i) = nI (sb_dec v i)) ∧ sb_Fit f'
theorem jk_g1 {v n : Nat} {f : Nat → Int32} (h : v < 10) (hf : sb_Fit f) : pDg v n f (upd f n (nI (48 + v % 10))) := by
  have e := jk_d1 h
  refine ⟨fun j hj => pk_un (by omega), fun i hi => ?_, jk_upd hf (by omega)⟩
  obtain rfl : i = 0 := by omega
  unfold sb_dec
  rw [Nat.add_zero, pk_us, e, Nat.sub_self, Nat.pow_zero, Nat.div_one]
theorem jk_g2 {v n : Nat} {f : Nat → Int32} (h : 10 ≤ v) (h2 : v < 100) (hf : sb_Fit f) : pDg v n f (upd (upd f (n + 1) (nI (48 + v % 10))) n (nI (48 + v / 10))) := by
  have e := jk_d2 h h2
  refine ⟨fun j hj => by rw [pk_un (by omega), pk_un (by omega)], fun i hi => ?_, jk_upd (jk_upd hf (by omega)) (by omega)⟩
  unfold sb_dec
  rw [e]
  obtain rfl | rfl : i = 0 ∨ i = 1 := by omega
  · rw [show n + 0 = n from rfl, pk_us]
    congr 1
    show 48 + v / 10 = 48 + v / 10 ^ 1 % 10
    omega
  · rw [pk_un (by omega), pk_us]
    congr 1
    show 48 + v % 10 = 48 + v / 10 ^ 0 % 10
    omega
theorem jk_g3 {v n : Nat} {f : Nat → Int32} (h : 100 ≤ v) (h2 : v < 1000) (hf : sb_Fit f) : pDg v n f (upd (upd (upd f (n + 2) (nI (48 + v % 100 % 10))) (n + 1) (nI (48 + v % 100 / 10))) n (nI (48 + v / 100 % 10))) := by
  have e := jk_d3 h h2
  refine ⟨fun j hj => by rw [pk_un (by omega), pk_un (by omega), pk_un (by omega)], fun i hi => ?_, jk_upd (jk_upd (jk_upd hf (by omega)) (by omega)) (by omega)⟩
  unfold sb_dec
  rw [e]
  obtain rfl | rfl | rfl : i = 0 ∨ i = 1 ∨ i = 2 := by omega
  · rw [show n + 0 = n from rfl, pk_us]
  · rw [pk_un (by omega), pk_us]
    congr 1
    show 48 + v % 100 / 10 = 48 + v / 10 ^ 1 % 10
    omega
  · rw [pk_un (by omega), pk_un (by omega), pk_us]
    congr 1
    show 48 + v % 100 % 10 = 48 + v / 10 ^ 0 % 10
    omega
set_option maxHeartbeats 4000000 in
set_option maxRecDepth 100000 in
theorem c_sSz1 (l : Launch) (D : va_G) (cI cJ cB cZ cS : ClassId) (X : Nat → Nat) (Y : mk_Y) (v : Nat) (h2 : v < 10) : mk_Met l yJ6_stringSize_0f7a4 cJ6_stringSize_0f7a4 4 (some .int) ({ frames := 0, cells := 0, slots := 0, locals := 0 }) D (mk_TY cI cJ cB cZ cS) X Y [.int (nI v)] [] [] (some (.int (nI 1))) 0 0 := by
  refine mk_start (own := "java/lang/Integer") (by decide) rfl (Nat.le_of_ble_eq_true rfl) ?_
  intro sz p e s m args below meth c A C hr hlk hnm
  replace C : mk_Cx p s m args c cJ6_stringSize_0f7a4 4 "java/lang/Integer" D (mk_TY cI cJ cB cZ cS) X Y A := C
  refine mk_iconst C (v := 1) dJ6_stringSize_0f7a4_0 (by decide) ?_
  refine mk_istore_n C (lv' := [(1, .int 1), (0, .int (nI v))]) dJ6_stringSize_0f7a4_1 (by decide) rfl ?_
  refine mk_iload_n C 1 dJ6_stringSize_0f7a4_2 rfl ?_
  refine mk_if_lt C 11 dJ6_stringSize_0f7a4_3 (by decide) (fun h9 => absurd h9 (nI_pos (by omega))) (fun _ => ?_)
  refine mk_iconst C (v := 0) dJ6_stringSize_0f7a4_6 (by decide) ?_
  refine mk_istore_n C (lv' := [(1, .int 0), (0, .int (nI v))]) dJ6_stringSize_0f7a4_7 (by decide) rfl ?_
  refine mk_iload_n C 1 dJ6_stringSize_0f7a4_8 rfl ?_
  refine mk_ineg C dJ6_stringSize_0f7a4_9 ?_
  refine mk_istore_n C (lv' := [(0, .int (-nI v)), (1, .int 0)]) dJ6_stringSize_0f7a4_10 (by decide) rfl ?_
  refine mk_bipush C (v := (-10)) dJ6_stringSize_0f7a4_11 (by decide) ?_
  refine mk_istore_n C (lv' := [(2, .int (-10)), (0, .int (-nI v)), (1, .int 0)]) dJ6_stringSize_0f7a4_13 (by decide) rfl ?_
  refine mk_iconst C (v := 1) dJ6_stringSize_0f7a4_14 (by decide) ?_
  refine mk_istore_n C (lv' := [(3, .int 1), (2, .int (-10)), (0, .int (-nI v)), (1, .int 0)]) dJ6_stringSize_0f7a4_15 (by decide) rfl ?_
  refine mk_iload_n C 0 dJ6_stringSize_0f7a4_16 rfl ?_
  refine mk_bipush C (v := 10) dJ6_stringSize_0f7a4_17 (by decide) ?_
  refine mk_icmp_ge C 42 dJ6_stringSize_0f7a4_19 (by decide) (fun h9 => absurd h9 (by decide)) (fun _ => ?_)
  refine mk_iload_n C 2 dJ6_stringSize_0f7a4_22 rfl ?_
  refine mk_iload_n C 1 dJ6_stringSize_0f7a4_23 rfl ?_
  refine mk_icmp_le C 31 dJ6_stringSize_0f7a4_24 (by decide) (fun h9 => absurd h9 (fun z => absurd ((sb_nle (a := v) (b := 10) (by omega) (by decide)).mp z) (by omega))) (fun _ => ?_)
  refine mk_iload_n C 0 dJ6_stringSize_0f7a4_27 rfl ?_
  refine mk_iload_n C 3 dJ6_stringSize_0f7a4_28 rfl ?_
  refine mk_iadd C dJ6_stringSize_0f7a4_29 ?_
  exact mk_iret C hr hlk rfl rfl dJ6_stringSize_0f7a4_30
set_option maxHeartbeats 4000000 in
set_option maxRecDepth 100000 in
theorem c_sSz2 (l : Launch) (D : va_G) (cI cJ cB cZ cS : ClassId) (X : Nat → Nat) (Y : mk_Y) (v : Nat) (h1 : 10 ≤ v) (h2 : v < 100) : mk_Met l yJ6_stringSize_0f7a4 cJ6_stringSize_0f7a4 4 (some .int) ({ frames := 0, cells := 0, slots := 0, locals := 0 }) D (mk_TY cI cJ cB cZ cS) X Y [.int (nI v)] [] [] (some (.int (nI 2))) 0 0 := by
  refine mk_start (own := "java/lang/Integer") (by decide) rfl (Nat.le_of_ble_eq_true rfl) ?_
  intro sz p e s m args below meth c A C hr hlk hnm
  replace C : mk_Cx p s m args c cJ6_stringSize_0f7a4 4 "java/lang/Integer" D (mk_TY cI cJ cB cZ cS) X Y A := C
  refine mk_iconst C (v := 1) dJ6_stringSize_0f7a4_0 (by decide) ?_
  refine mk_istore_n C (lv' := [(1, .int 1), (0, .int (nI v))]) dJ6_stringSize_0f7a4_1 (by decide) rfl ?_
  refine mk_iload_n C 1 dJ6_stringSize_0f7a4_2 rfl ?_
  refine mk_if_lt C 11 dJ6_stringSize_0f7a4_3 (by decide) (fun h9 => absurd h9 (nI_pos (by omega))) (fun _ => ?_)
  refine mk_iconst C (v := 0) dJ6_stringSize_0f7a4_6 (by decide) ?_
  refine mk_istore_n C (lv' := [(1, .int 0), (0, .int (nI v))]) dJ6_stringSize_0f7a4_7 (by decide) rfl ?_
  refine mk_iload_n C 1 dJ6_stringSize_0f7a4_8 rfl ?_
  refine mk_ineg C dJ6_stringSize_0f7a4_9 ?_
  refine mk_istore_n C (lv' := [(0, .int (-nI v)), (1, .int 0)]) dJ6_stringSize_0f7a4_10 (by decide) rfl ?_
  refine mk_bipush C (v := (-10)) dJ6_stringSize_0f7a4_11 (by decide) ?_
  refine mk_istore_n C (lv' := [(2, .int (-10)), (0, .int (-nI v)), (1, .int 0)]) dJ6_stringSize_0f7a4_13 (by decide) rfl ?_
  refine mk_iconst C (v := 1) dJ6_stringSize_0f7a4_14 (by decide) ?_
  refine mk_istore_n C (lv' := [(3, .int 1), (2, .int (-10)), (0, .int (-nI v)), (1, .int 0)]) dJ6_stringSize_0f7a4_15 (by decide) rfl ?_
  refine mk_iload_n C 0 dJ6_stringSize_0f7a4_16 rfl ?_
  refine mk_bipush C (v := 10) dJ6_stringSize_0f7a4_17 (by decide) ?_
  refine mk_icmp_ge C 42 dJ6_stringSize_0f7a4_19 (by decide) (fun h9 => absurd h9 (by decide)) (fun _ => ?_)
  refine mk_iload_n C 2 dJ6_stringSize_0f7a4_22 rfl ?_
  refine mk_iload_n C 1 dJ6_stringSize_0f7a4_23 rfl ?_
  refine mk_icmp_le C 31 dJ6_stringSize_0f7a4_24 (by decide) (fun _ => ?_) (fun h9 => absurd (show -nI v ≤ -nI 10 from (sb_nle (by omega) (by decide)).mpr (by omega)) h9)
  refine mk_bipush C (v := 10) dJ6_stringSize_0f7a4_31 (by decide) ?_
  refine mk_iload_n C 1 dJ6_stringSize_0f7a4_33 rfl ?_
  refine mk_imul C dJ6_stringSize_0f7a4_34 ?_
  refine mk_topi (y := (-100)) (by decide) ?_
  refine mk_istore_n C (lv' := [(2, .int (-100)), (3, .int 1), (0, .int (-nI v)), (1, .int 0)]) dJ6_stringSize_0f7a4_35 (by decide) rfl ?_
  refine mk_iinc C 1 (v := 2) (lv' := [(3, .int 2), (2, .int (-100)), (0, .int (-nI v)), (1, .int 0)]) dJ6_stringSize_0f7a4_36 rfl rfl (by decide) rfl ?_
  refine mk_goto C 16 dJ6_stringSize_0f7a4_39 (by decide) ?_
  refine mk_iload_n C 0 dJ6_stringSize_0f7a4_16 rfl ?_
  refine mk_bipush C (v := 10) dJ6_stringSize_0f7a4_17 (by decide) ?_
  refine mk_icmp_ge C 42 dJ6_stringSize_0f7a4_19 (by decide) (fun h9 => absurd h9 (by decide)) (fun _ => ?_)
  refine mk_iload_n C 2 dJ6_stringSize_0f7a4_22 rfl ?_
  refine mk_iload_n C 1 dJ6_stringSize_0f7a4_23 rfl ?_
  refine mk_icmp_le C 31 dJ6_stringSize_0f7a4_24 (by decide) (fun h9 => absurd h9 (fun z => absurd ((sb_nle (a := v) (b := 100) (by omega) (by decide)).mp z) (by omega))) (fun _ => ?_)
  refine mk_iload_n C 0 dJ6_stringSize_0f7a4_27 rfl ?_
  refine mk_iload_n C 3 dJ6_stringSize_0f7a4_28 rfl ?_
  refine mk_iadd C dJ6_stringSize_0f7a4_29 ?_
  exact mk_iret C hr hlk rfl rfl dJ6_stringSize_0f7a4_30
set_option maxHeartbeats 4000000 in
set_option maxRecDepth 100000 in
theorem c_sSz3 (l : Launch) (D : va_G) (cI cJ cB cZ cS : ClassId) (X : Nat → Nat) (Y : mk_Y) (v : Nat) (h1 : 100 ≤ v) (h2 : v < 1000) : mk_Met l yJ6_stringSize_0f7a4 cJ6_stringSize_0f7a4 4 (some .int) ({ frames := 0, cells := 0, slots := 0, locals := 0 }) D (mk_TY cI cJ cB cZ cS) X Y [.int (nI v)] [] [] (some (.int (nI 3))) 0 0 := by
  refine mk_start (own := "java/lang/Integer") (by decide) rfl (Nat.le_of_ble_eq_true rfl) ?_
  intro sz p e s m args below meth c A C hr hlk hnm
  replace C : mk_Cx p s m args c cJ6_stringSize_0f7a4 4 "java/lang/Integer" D (mk_TY cI cJ cB cZ cS) X Y A := C
  refine mk_iconst C (v := 1) dJ6_stringSize_0f7a4_0 (by decide) ?_
  refine mk_istore_n C (lv' := [(1, .int 1), (0, .int (nI v))]) dJ6_stringSize_0f7a4_1 (by decide) rfl ?_
  refine mk_iload_n C 1 dJ6_stringSize_0f7a4_2 rfl ?_
  refine mk_if_lt C 11 dJ6_stringSize_0f7a4_3 (by decide) (fun h9 => absurd h9 (nI_pos (by omega))) (fun _ => ?_)
  refine mk_iconst C (v := 0) dJ6_stringSize_0f7a4_6 (by decide) ?_
  refine mk_istore_n C (lv' := [(1, .int 0), (0, .int (nI v))]) dJ6_stringSize_0f7a4_7 (by decide) rfl ?_
  refine mk_iload_n C 1 dJ6_stringSize_0f7a4_8 rfl ?_
  refine mk_ineg C dJ6_stringSize_0f7a4_9 ?_
  refine mk_istore_n C (lv' := [(0, .int (-nI v)), (1, .int 0)]) dJ6_stringSize_0f7a4_10 (by decide) rfl ?_
  refine mk_bipush C (v := (-10)) dJ6_stringSize_0f7a4_11 (by decide) ?_
  refine mk_istore_n C (lv' := [(2, .int (-10)), (0, .int (-nI v)), (1, .int 0)]) dJ6_stringSize_0f7a4_13 (by decide) rfl ?_
  refine mk_iconst C (v := 1) dJ6_stringSize_0f7a4_14 (by decide) ?_
  refine mk_istore_n C (lv' := [(3, .int 1), (2, .int (-10)), (0, .int (-nI v)), (1, .int 0)]) dJ6_stringSize_0f7a4_15 (by decide) rfl ?_
  refine mk_iload_n C 0 dJ6_stringSize_0f7a4_16 rfl ?_
  refine mk_bipush C (v := 10) dJ6_stringSize_0f7a4_17 (by decide) ?_
  refine mk_icmp_ge C 42 dJ6_stringSize_0f7a4_19 (by decide) (fun h9 => absurd h9 (by decide)) (fun _ => ?_)
  refine mk_iload_n C 2 dJ6_stringSize_0f7a4_22 rfl ?_
  refine mk_iload_n C 1 dJ6_stringSize_0f7a4_23 rfl ?_
  refine mk_icmp_le C 31 dJ6_stringSize_0f7a4_24 (by decide) (fun _ => ?_) (fun h9 => absurd (show -nI v ≤ -nI 10 from (sb_nle (by omega) (by decide)).mpr (by omega)) h9)
  refine mk_bipush C (v := 10) dJ6_stringSize_0f7a4_31 (by decide) ?_
  refine mk_iload_n C 1 dJ6_stringSize_0f7a4_33 rfl ?_
  refine mk_imul C dJ6_stringSize_0f7a4_34 ?_
  refine mk_topi (y := (-100)) (by decide) ?_
  refine mk_istore_n C (lv' := [(2, .int (-100)), (3, .int 1), (0, .int (-nI v)), (1, .int 0)]) dJ6_stringSize_0f7a4_35 (by decide) rfl ?_
  refine mk_iinc C 1 (v := 2) (lv' := [(3, .int 2), (2, .int (-100)), (0, .int (-nI v)), (1, .int 0)]) dJ6_stringSize_0f7a4_36 rfl rfl (by decide) rfl ?_
  refine mk_goto C 16 dJ6_stringSize_0f7a4_39 (by decide) ?_
  refine mk_iload_n C 0 dJ6_stringSize_0f7a4_16 rfl ?_
  refine mk_bipush C (v := 10) dJ6_stringSize_0f7a4_17 (by decide) ?_
  refine mk_icmp_ge C 42 dJ6_stringSize_0f7a4_19 (by decide) (fun h9 => absurd h9 (by decide)) (fun _ => ?_)
  refine mk_iload_n C 2 dJ6_stringSize_0f7a4_22 rfl ?_
  refine mk_iload_n C 1 dJ6_stringSize_0f7a4_23 rfl ?_
  refine mk_icmp_le C 31 dJ6_stringSize_0f7a4_24 (by decide) (fun _ => ?_) (fun h9 => absurd (show -nI v ≤ -nI 100 from (sb_nle (by omega) (by decide)).mpr (by omega)) h9)
  refine mk_bipush C (v := 10) dJ6_stringSize_0f7a4_31 (by decide) ?_
  refine mk_iload_n C 1 dJ6_stringSize_0f7a4_33 rfl ?_
  refine mk_imul C dJ6_stringSize_0f7a4_34 ?_
  refine mk_topi (y := (-1000)) (by decide) ?_
  refine mk_istore_n C (lv' := [(2, .int (-1000)), (3, .int 2), (0, .int (-nI v)), (1, .int 0)]) dJ6_stringSize_0f7a4_35 (by decide) rfl ?_
  refine mk_iinc C 1 (v := 3) (lv' := [(3, .int 3), (2, .int (-1000)), (0, .int (-nI v)), (1, .int 0)]) dJ6_stringSize_0f7a4_36 rfl rfl (by decide) rfl ?_
  refine mk_goto C 16 dJ6_stringSize_0f7a4_39 (by decide) ?_
  refine mk_iload_n C 0 dJ6_stringSize_0f7a4_16 rfl ?_
  refine mk_bipush C (v := 10) dJ6_stringSize_0f7a4_17 (by decide) ?_
  refine mk_icmp_ge C 42 dJ6_stringSize_0f7a4_19 (by decide) (fun h9 => absurd h9 (by decide)) (fun _ => ?_)
  refine mk_iload_n C 2 dJ6_stringSize_0f7a4_22 rfl ?_
  refine mk_iload_n C 1 dJ6_stringSize_0f7a4_23 rfl ?_
  refine mk_icmp_le C 31 dJ6_stringSize_0f7a4_24 (by decide) (fun h9 => absurd h9 (fun z => absurd ((sb_nle (a := v) (b := 1000) (by omega) (by decide)).mp z) (by omega))) (fun _ => ?_)
  refine mk_iload_n C 0 dJ6_stringSize_0f7a4_27 rfl ?_
  refine mk_iload_n C 3 dJ6_stringSize_0f7a4_28 rfl ?_
  refine mk_iadd C dJ6_stringSize_0f7a4_29 ?_
  exact mk_iret C hr hlk rfl rfl dJ6_stringSize_0f7a4_30
theorem c_sSz (l : Launch) (D : va_G) (cI cJ cB cZ cS : ClassId) (X : Nat → Nat) (Y : mk_Y) (v : Nat) (hv : v < 1000) : mk_Met l yJ6_stringSize_0f7a4 cJ6_stringSize_0f7a4 4 (some .int) ({ frames := 0, cells := 0, slots := 0, locals := 0 }) D (mk_TY cI cJ cB cZ cS) X Y [.int (nI v)] [] [] (some (.int (nI (sb_dg v)))) 0 0 := by
  by_cases h1 : v < 10
  · rw [jk_d1 h1]; exact c_sSz1 l D cI cJ cB cZ cS X Y v h1
  · by_cases h2 : v < 100
    · rw [jk_d2 (by omega) h2]; exact c_sSz2 l D cI cJ cB cZ cS X Y v (by omega) h2
    · rw [jk_d3 (by omega) hv]; exact c_sSz3 l D cI cJ cB cZ cS X Y v (by omega) hv
set_option maxHeartbeats 4000000 in
set_option maxRecDepth 100000 in
theorem c_gC1 (l : Launch) (D : va_G) (cI cJ cB cZ cS : ClassId) (X : Nat → Nat) (Y : mk_Y) (a mm v n p : Nat) (f : Nat → Int32) (h2 : v < 10) (hp : p = n + 1) (hpm : p ≤ mm) (hm : mm ≤ 2002) (hf : sb_Fit f) : mk_MetG l yJ6_getChars_ba4f3 cJ6_getChars_ba4f3 7 (some .int) ({ frames := 0, cells := 0, slots := 0, locals := 0 }) D (mk_TY cI cJ cB cZ cS) X Y [.int (nI v), .int (nI p), .ref a] [(a, .inl (cB, mm, .inl f))] (fun f' : Nat → Int32 => pDg v n f f') (fun _ => some (.int (nI n))) (fun f' => [(a, .inl (cB, mm, .inl f'))]) 0 0 := by
  subst hp
  refine mk_startG (own := "java/lang/Integer") (by decide) rfl (Nat.le_of_ble_eq_true rfl) ?_
  intro sz p e s m args below meth c A C hr hlk hnm
  replace C : mk_Cx p s m args c cJ6_getChars_ba4f3 7 "java/lang/Integer" D (mk_TY cI cJ cB cZ cS) X Y A := C
  obtain ⟨t1, z1, T1⟩ := C.2.2.1.2.2.2.2.2.2.1
  obtain ⟨t2, z2, T2⟩ := C.2.2.1.2.2.2.2.2.2.2
  refine mk_iload_n C 1 dJ6_getChars_ba4f3_0 rfl ?_
  refine mk_istore C (lv' := [(5, .int (nI (n + 1))), (0, .int (nI v)), (1, .int (nI (n + 1))), (2, .ref a)]) dJ6_getChars_ba4f3_1 (by decide) rfl ?_
  refine mk_iload_n C 1 dJ6_getChars_ba4f3_3 rfl ?_
  refine mk_if_ge C 11 dJ6_getChars_ba4f3_4 (by decide) (fun _ => ?_) (fun h9 => absurd (nI_pos' (by omega)) h9)
  refine mk_iconst C (v := 0) dJ6_getChars_ba4f3_11 (by decide) ?_
  refine mk_istore C (lv' := [(6, .int 0), (5, .int (nI (n + 1))), (0, .int (nI v)), (1, .int (nI (n + 1))), (2, .ref a)]) dJ6_getChars_ba4f3_12 (by decide) rfl ?_
  refine mk_iload C 0 dJ6_getChars_ba4f3_14 rfl ?_
  refine mk_if_ne C 22 dJ6_getChars_ba4f3_16 (by decide) (fun h9 => absurd h9 (fun z => z rfl)) (fun _ => ?_)
  refine mk_iload_n C 2 dJ6_getChars_ba4f3_19 rfl ?_
  refine mk_ineg C dJ6_getChars_ba4f3_20 ?_
  refine mk_istore_n C (lv' := [(0, .int (-nI v)), (6, .int 0), (5, .int (nI (n + 1))), (1, .int (nI (n + 1))), (2, .ref a)]) dJ6_getChars_ba4f3_21 (by decide) rfl ?_
  refine mk_iload_n C 0 dJ6_getChars_ba4f3_22 rfl ?_
  refine mk_bipush C (v := (-100)) dJ6_getChars_ba4f3_23 (by decide) ?_
  refine mk_icmp_gt C 72 dJ6_getChars_ba4f3_25 (by decide) (fun _ => ?_) (fun h9 => absurd (show -nI 100 < -nI v from (sb_nlt (by decide) (by omega)).mpr (by omega)) h9)
  refine mk_aload_n C 4 dJ6_getChars_ba4f3_72 rfl ?_
  refine mk_iinc C 2 (v := nI n) (lv' := [(5, .int (nI n)), (0, .int (-nI v)), (6, .int 0), (1, .int (nI (n + 1))), (2, .ref a)]) dJ6_getChars_ba4f3_73 rfl ((show _ + Int32.ofInt (-1) = _ + (-1) from rfl).trans (pk_m1 n)) (by decide) rfl ?_
  refine mk_iload C 0 dJ6_getChars_ba4f3_76 rfl ?_
  refine mk_gets C z1 mw_836 dJ6_getChars_ba4f3_78 ?_
  refine mk_iload_n C 1 dJ6_getChars_ba4f3_81 rfl ?_
  refine mk_ineg C dJ6_getChars_ba4f3_82 ?_
  refine mk_topi (y := nI v) (Int32.neg_neg) ?_
  refine mk_baldE C T1 (vp_in_nI (by omega) (by decide)) (v := .int (nI (48 + v % 10))) (by rw [nI_clamp (by omega)]) dJ6_getChars_ba4f3_83 ?_
  refine mk_bast C 0 2 rfl rfl (vp_in_nI (by omega) (by omega)) (j := n) (nI_clamp (by omega)) (v := nI (48 + v % 10)) (jk_bb _ (by omega)).1 (ws' := [(a, .inl (cB, mm, .inl (upd f n (nI (48 + v % 10)))))]) rfl dJ6_getChars_ba4f3_84 ?_
  refine mk_iload_n C 1 dJ6_getChars_ba4f3_85 rfl ?_
  refine mk_bipush C (v := (-9)) dJ6_getChars_ba4f3_86 (by decide) ?_
  refine mk_icmp_ge C 104 dJ6_getChars_ba4f3_88 (by decide) (fun _ => ?_) (fun h9 => absurd (show -nI 9 ≤ -nI v from (sb_nle (by decide) (by omega)).mpr (by omega)) h9)
  refine mk_iload C 2 dJ6_getChars_ba4f3_104 rfl ?_
  refine mk_if_eq C 118 dJ6_getChars_ba4f3_106 (by decide) (fun _ => ?_) (fun h9 => absurd (rfl) h9)
  refine mk_iload C 0 dJ6_getChars_ba4f3_118 rfl ?_
  exact mk_iretG C hr hlk rfl _ (jk_g1 h2 hf) rfl rfl dJ6_getChars_ba4f3_120
set_option maxHeartbeats 4000000 in
set_option maxRecDepth 100000 in
theorem c_gC2 (l : Launch) (D : va_G) (cI cJ cB cZ cS : ClassId) (X : Nat → Nat) (Y : mk_Y) (a mm v n p : Nat) (f : Nat → Int32) (h1 : 10 ≤ v) (h2 : v < 100) (hp : p = n + 2) (hpm : p ≤ mm) (hm : mm ≤ 2002) (hf : sb_Fit f) : mk_MetG l yJ6_getChars_ba4f3 cJ6_getChars_ba4f3 7 (some .int) ({ frames := 0, cells := 0, slots := 0, locals := 0 }) D (mk_TY cI cJ cB cZ cS) X Y [.int (nI v), .int (nI p), .ref a] [(a, .inl (cB, mm, .inl f))] (fun f' : Nat → Int32 => pDg v n f f') (fun _ => some (.int (nI n))) (fun f' => [(a, .inl (cB, mm, .inl f'))]) 0 0 := by
  subst hp
  refine mk_startG (own := "java/lang/Integer") (by decide) rfl (Nat.le_of_ble_eq_true rfl) ?_
  intro sz p e s m args below meth c A C hr hlk hnm
  replace C : mk_Cx p s m args c cJ6_getChars_ba4f3 7 "java/lang/Integer" D (mk_TY cI cJ cB cZ cS) X Y A := C
  obtain ⟨t1, z1, T1⟩ := C.2.2.1.2.2.2.2.2.2.1
  obtain ⟨t2, z2, T2⟩ := C.2.2.1.2.2.2.2.2.2.2
  refine mk_iload_n C 1 dJ6_getChars_ba4f3_0 rfl ?_
  refine mk_istore C (lv' := [(5, .int (nI (n + 2))), (0, .int (nI v)), (1, .int (nI (n + 2))), (2, .ref a)]) dJ6_getChars_ba4f3_1 (by decide) rfl ?_
  refine mk_iload_n C 1 dJ6_getChars_ba4f3_3 rfl ?_
  refine mk_if_ge C 11 dJ6_getChars_ba4f3_4 (by decide) (fun _ => ?_) (fun h9 => absurd (nI_pos' (by omega)) h9)
  refine mk_iconst C (v := 0) dJ6_getChars_ba4f3_11 (by decide) ?_
  refine mk_istore C (lv' := [(6, .int 0), (5, .int (nI (n + 2))), (0, .int (nI v)), (1, .int (nI (n + 2))), (2, .ref a)]) dJ6_getChars_ba4f3_12 (by decide) rfl ?_
  refine mk_iload C 0 dJ6_getChars_ba4f3_14 rfl ?_
  refine mk_if_ne C 22 dJ6_getChars_ba4f3_16 (by decide) (fun h9 => absurd h9 (fun z => z rfl)) (fun _ => ?_)
  refine mk_iload_n C 2 dJ6_getChars_ba4f3_19 rfl ?_
  refine mk_ineg C dJ6_getChars_ba4f3_20 ?_
  refine mk_istore_n C (lv' := [(0, .int (-nI v)), (6, .int 0), (5, .int (nI (n + 2))), (1, .int (nI (n + 2))), (2, .ref a)]) dJ6_getChars_ba4f3_21 (by decide) rfl ?_
  refine mk_iload_n C 0 dJ6_getChars_ba4f3_22 rfl ?_
  refine mk_bipush C (v := (-100)) dJ6_getChars_ba4f3_23 (by decide) ?_
  refine mk_icmp_gt C 72 dJ6_getChars_ba4f3_25 (by decide) (fun _ => ?_) (fun h9 => absurd (show -nI 100 < -nI v from (sb_nlt (by decide) (by omega)).mpr (by omega)) h9)
  refine mk_aload_n C 4 dJ6_getChars_ba4f3_72 rfl ?_
  refine mk_iinc C 2 (v := nI (n + 1)) (lv' := [(5, .int (nI (n + 1))), (0, .int (-nI v)), (6, .int 0), (1, .int (nI (n + 2))), (2, .ref a)]) dJ6_getChars_ba4f3_73 rfl ((show _ + Int32.ofInt (-1) = _ + (-1) from rfl).trans (pk_m1 (n + 1))) (by decide) rfl ?_
  refine mk_iload C 0 dJ6_getChars_ba4f3_76 rfl ?_
  refine mk_gets C z1 mw_836 dJ6_getChars_ba4f3_78 ?_
  refine mk_iload_n C 1 dJ6_getChars_ba4f3_81 rfl ?_
  refine mk_ineg C dJ6_getChars_ba4f3_82 ?_
  refine mk_topi (y := nI v) (Int32.neg_neg) ?_
  refine mk_baldE C T1 (vp_in_nI (by omega) (by decide)) (v := .int (nI (48 + v % 10))) (by rw [nI_clamp (by omega)]) dJ6_getChars_ba4f3_83 ?_
  refine mk_bast C 0 2 rfl rfl (vp_in_nI (by omega) (by omega)) (j := (n + 1)) (nI_clamp (by omega)) (v := nI (48 + v % 10)) (jk_bb _ (by omega)).1 (ws' := [(a, .inl (cB, mm, .inl (upd f (n + 1) (nI (48 + v % 10)))))]) rfl dJ6_getChars_ba4f3_84 ?_
  refine mk_iload_n C 1 dJ6_getChars_ba4f3_85 rfl ?_
  refine mk_bipush C (v := (-9)) dJ6_getChars_ba4f3_86 (by decide) ?_
  refine mk_icmp_ge C 104 dJ6_getChars_ba4f3_88 (by decide) (fun h9 => absurd h9 (fun z => absurd ((sb_nle (a := 9) (b := v) (by decide) (by omega)).mp z) (by omega))) (fun _ => ?_)
  refine mk_aload_n C 4 dJ6_getChars_ba4f3_91 rfl ?_
  refine mk_iinc C 0 (v := nI n) (lv' := [(5, .int (nI n)), (0, .int (-nI v)), (6, .int 0), (1, .int (nI (n + 2))), (2, .ref a)]) dJ6_getChars_ba4f3_92 rfl ((show _ + Int32.ofInt (-1) = _ + (-1) from rfl).trans (pk_m1 n)) (by decide) rfl ?_
  refine mk_iload C 0 dJ6_getChars_ba4f3_95 rfl ?_
  refine mk_gets C z2 mw_838 dJ6_getChars_ba4f3_97 ?_
  refine mk_iload_n C 1 dJ6_getChars_ba4f3_100 rfl ?_
  refine mk_ineg C dJ6_getChars_ba4f3_101 ?_
  refine mk_topi (y := nI v) (Int32.neg_neg) ?_
  refine mk_baldE C T2 (vp_in_nI (by omega) (by decide)) (v := .int (nI (48 + v / 10))) (by rw [nI_clamp (by omega)]) dJ6_getChars_ba4f3_102 ?_
  refine mk_bast C 0 2 rfl rfl (vp_in_nI (by omega) (by omega)) (j := n) (nI_clamp (by omega)) (v := nI (48 + v / 10)) (jk_bb _ (by omega)).1 (ws' := [(a, .inl (cB, mm, .inl (upd (upd f (n + 1) (nI (48 + v % 10))) n (nI (48 + v / 10)))))]) rfl dJ6_getChars_ba4f3_103 ?_
  refine mk_iload C 2 dJ6_getChars_ba4f3_104 rfl ?_
  refine mk_if_eq C 118 dJ6_getChars_ba4f3_106 (by decide) (fun _ => ?_) (fun h9 => absurd (rfl) h9)
  refine mk_iload C 0 dJ6_getChars_ba4f3_118 rfl ?_
  exact mk_iretG C hr hlk rfl _ (jk_g2 h1 h2 hf) rfl rfl dJ6_getChars_ba4f3_120
set_option maxHeartbeats 4000000 in
set_option maxRecDepth 100000 in
theorem c_gC3 (l : Launch) (D : va_G) (cI cJ cB cZ cS : ClassId) (X : Nat → Nat) (Y : mk_Y) (a mm v n p : Nat) (f : Nat → Int32) (h1 : 100 ≤ v) (h2 : v < 1000) (hp : p = n + 3) (hpm : p ≤ mm) (hm : mm ≤ 2002) (hf : sb_Fit f) : mk_MetG l yJ6_getChars_ba4f3 cJ6_getChars_ba4f3 7 (some .int) ({ frames := 0, cells := 0, slots := 0, locals := 0 }) D (mk_TY cI cJ cB cZ cS) X Y [.int (nI v), .int (nI p), .ref a] [(a, .inl (cB, mm, .inl f))] (fun f' : Nat → Int32 => pDg v n f f') (fun _ => some (.int (nI n))) (fun f' => [(a, .inl (cB, mm, .inl f'))]) 0 0 := by
  subst hp
  refine mk_startG (own := "java/lang/Integer") (by decide) rfl (Nat.le_of_ble_eq_true rfl) ?_
  intro sz p e s m args below meth c A C hr hlk hnm
  replace C : mk_Cx p s m args c cJ6_getChars_ba4f3 7 "java/lang/Integer" D (mk_TY cI cJ cB cZ cS) X Y A := C
  obtain ⟨t1, z1, T1⟩ := C.2.2.1.2.2.2.2.2.2.1
  obtain ⟨t2, z2, T2⟩ := C.2.2.1.2.2.2.2.2.2.2
  refine mk_iload_n C 1 dJ6_getChars_ba4f3_0 rfl ?_
  refine mk_istore C (lv' := [(5, .int (nI (n + 3))), (0, .int (nI v)), (1, .int (nI (n + 3))), (2, .ref a)]) dJ6_getChars_ba4f3_1 (by decide) rfl ?_
  refine mk_iload_n C 1 dJ6_getChars_ba4f3_3 rfl ?_
  refine mk_if_ge C 11 dJ6_getChars_ba4f3_4 (by decide) (fun _ => ?_) (fun h9 => absurd (nI_pos' (by omega)) h9)
  refine mk_iconst C (v := 0) dJ6_getChars_ba4f3_11 (by decide) ?_
  refine mk_istore C (lv' := [(6, .int 0), (5, .int (nI (n + 3))), (0, .int (nI v)), (1, .int (nI (n + 3))), (2, .ref a)]) dJ6_getChars_ba4f3_12 (by decide) rfl ?_
  refine mk_iload C 0 dJ6_getChars_ba4f3_14 rfl ?_
  refine mk_if_ne C 22 dJ6_getChars_ba4f3_16 (by decide) (fun h9 => absurd h9 (fun z => z rfl)) (fun _ => ?_)
  refine mk_iload_n C 2 dJ6_getChars_ba4f3_19 rfl ?_
  refine mk_ineg C dJ6_getChars_ba4f3_20 ?_
  refine mk_istore_n C (lv' := [(0, .int (-nI v)), (6, .int 0), (5, .int (nI (n + 3))), (1, .int (nI (n + 3))), (2, .ref a)]) dJ6_getChars_ba4f3_21 (by decide) rfl ?_
  refine mk_iload_n C 0 dJ6_getChars_ba4f3_22 rfl ?_
  refine mk_bipush C (v := (-100)) dJ6_getChars_ba4f3_23 (by decide) ?_
  refine mk_icmp_gt C 72 dJ6_getChars_ba4f3_25 (by decide) (fun h9 => absurd h9 (fun z => absurd ((sb_nlt (a := 100) (b := v) (by decide) (by omega)).mp z) (by omega))) (fun _ => ?_)
  refine mk_iload_n C 0 dJ6_getChars_ba4f3_28 rfl ?_
  refine mk_bipush C (v := 100) dJ6_getChars_ba4f3_29 (by decide) ?_
  refine mk_idiv C dJ6_getChars_ba4f3_31 (by decide) ?_
  refine mk_topi (y := (-nI (v / 100))) (sb_ndiv (by omega)) ?_
  refine mk_istore_n C (lv' := [(3, .int (-nI (v / 100))), (0, .int (-nI v)), (6, .int 0), (5, .int (nI (n + 3))), (1, .int (nI (n + 3))), (2, .ref a)]) dJ6_getChars_ba4f3_32 (by decide) rfl ?_
  refine mk_iload_n C 0 dJ6_getChars_ba4f3_33 rfl ?_
  refine mk_bipush C (v := 100) dJ6_getChars_ba4f3_34 (by decide) ?_
  refine mk_imul C dJ6_getChars_ba4f3_36 ?_
  refine mk_iload_n C 1 dJ6_getChars_ba4f3_37 rfl ?_
  refine mk_isub C dJ6_getChars_ba4f3_38 ?_
  refine mk_topi (y := nI (v % 100)) (sb_nrem (by omega)) ?_
  refine mk_istore C (lv' := [(4, .int (nI (v % 100))), (3, .int (-nI (v / 100))), (0, .int (-nI v)), (6, .int 0), (5, .int (nI (n + 3))), (1, .int (nI (n + 3))), (2, .ref a)]) dJ6_getChars_ba4f3_39 (by decide) rfl ?_
  refine mk_iload_n C 1 dJ6_getChars_ba4f3_41 rfl ?_
  refine mk_istore_n C (lv' := [(0, .int (-nI (v / 100))), (4, .int (nI (v % 100))), (3, .int (-nI (v / 100))), (6, .int 0), (5, .int (nI (n + 3))), (1, .int (nI (n + 3))), (2, .ref a)]) dJ6_getChars_ba4f3_42 (by decide) rfl ?_
  refine mk_aload_n C 6 dJ6_getChars_ba4f3_43 rfl ?_
  refine mk_iinc C 4 (v := nI (n + 2)) (lv' := [(5, .int (nI (n + 2))), (0, .int (-nI (v / 100))), (4, .int (nI (v % 100))), (3, .int (-nI (v / 100))), (6, .int 0), (1, .int (nI (n + 3))), (2, .ref a)]) dJ6_getChars_ba4f3_44 rfl ((show _ + Int32.ofInt (-1) = _ + (-1) from rfl).trans (pk_m1 (n + 2))) (by decide) rfl ?_
  refine mk_iload C 0 dJ6_getChars_ba4f3_47 rfl ?_
  refine mk_gets C z1 mw_836 dJ6_getChars_ba4f3_49 ?_
  refine mk_iload C 2 dJ6_getChars_ba4f3_52 rfl ?_
  refine mk_baldE C T1 (vp_in_nI (by omega) (by decide)) (v := .int (nI (48 + v % 100 % 10))) (by rw [nI_clamp (by omega)]) dJ6_getChars_ba4f3_54 ?_
  refine mk_bast C 0 2 rfl rfl (vp_in_nI (by omega) (by omega)) (j := (n + 2)) (nI_clamp (by omega)) (v := nI (48 + v % 100 % 10)) (jk_bb _ (by omega)).1 (ws' := [(a, .inl (cB, mm, .inl (upd f (n + 2) (nI (48 + v % 100 % 10)))))]) rfl dJ6_getChars_ba4f3_55 ?_
  refine mk_aload_n C 6 dJ6_getChars_ba4f3_56 rfl ?_
  refine mk_iinc C 0 (v := nI (n + 1)) (lv' := [(5, .int (nI (n + 1))), (0, .int (-nI (v / 100))), (4, .int (nI (v % 100))), (3, .int (-nI (v / 100))), (6, .int 0), (1, .int (nI (n + 3))), (2, .ref a)]) dJ6_getChars_ba4f3_57 rfl ((show _ + Int32.ofInt (-1) = _ + (-1) from rfl).trans (pk_m1 (n + 1))) (by decide) rfl ?_
  refine mk_iload C 0 dJ6_getChars_ba4f3_60 rfl ?_
  refine mk_gets C z2 mw_838 dJ6_getChars_ba4f3_62 ?_
  refine mk_iload C 2 dJ6_getChars_ba4f3_65 rfl ?_
  refine mk_baldE C T2 (vp_in_nI (by omega) (by decide)) (v := .int (nI (48 + v % 100 / 10))) (by rw [nI_clamp (by omega)]) dJ6_getChars_ba4f3_67 ?_
  refine mk_bast C 0 2 rfl rfl (vp_in_nI (by omega) (by omega)) (j := (n + 1)) (nI_clamp (by omega)) (v := nI (48 + v % 100 / 10)) (jk_bb _ (by omega)).1 (ws' := [(a, .inl (cB, mm, .inl (upd (upd f (n + 2) (nI (48 + v % 100 % 10))) (n + 1) (nI (48 + v % 100 / 10)))))]) rfl dJ6_getChars_ba4f3_68 ?_
  refine mk_goto C 22 dJ6_getChars_ba4f3_69 (by decide) ?_
  refine mk_iload_n C 1 dJ6_getChars_ba4f3_22 rfl ?_
  refine mk_bipush C (v := (-100)) dJ6_getChars_ba4f3_23 (by decide) ?_
  refine mk_icmp_gt C 72 dJ6_getChars_ba4f3_25 (by decide) (fun _ => ?_) (fun h9 => absurd (show -nI 100 < -nI (v / 100) from (sb_nlt (by decide) (by omega)).mpr (by omega)) h9)
  refine mk_aload_n C 6 dJ6_getChars_ba4f3_72 rfl ?_
  refine mk_iinc C 0 (v := nI n) (lv' := [(5, .int (nI n)), (0, .int (-nI (v / 100))), (4, .int (nI (v % 100))), (3, .int (-nI (v / 100))), (6, .int 0), (1, .int (nI (n + 3))), (2, .ref a)]) dJ6_getChars_ba4f3_73 rfl ((show _ + Int32.ofInt (-1) = _ + (-1) from rfl).trans (pk_m1 n)) (by decide) rfl ?_
  refine mk_iload C 0 dJ6_getChars_ba4f3_76 rfl ?_
  refine mk_gets C z1 mw_836 dJ6_getChars_ba4f3_78 ?_
  refine mk_iload_n C 1 dJ6_getChars_ba4f3_81 rfl ?_
  refine mk_ineg C dJ6_getChars_ba4f3_82 ?_
  refine mk_topi (y := nI (v / 100)) (Int32.neg_neg) ?_
  refine mk_baldE C T1 (vp_in_nI (by omega) (by decide)) (v := .int (nI (48 + v / 100 % 10))) (by rw [nI_clamp (by omega)]) dJ6_getChars_ba4f3_83 ?_
  refine mk_bast C 0 2 rfl rfl (vp_in_nI (by omega) (by omega)) (j := n) (nI_clamp (by omega)) (v := nI (48 + v / 100 % 10)) (jk_bb _ (by omega)).1 (ws' := [(a, .inl (cB, mm, .inl (upd (upd (upd f (n + 2) (nI (48 + v % 100 % 10))) (n + 1) (nI (48 + v % 100 / 10))) n (nI (48 + v / 100 % 10)))))]) rfl dJ6_getChars_ba4f3_84 ?_
  refine mk_iload_n C 1 dJ6_getChars_ba4f3_85 rfl ?_
  refine mk_bipush C (v := (-9)) dJ6_getChars_ba4f3_86 (by decide) ?_
  refine mk_icmp_ge C 104 dJ6_getChars_ba4f3_88 (by decide) (fun _ => ?_) (fun h9 => absurd (show -nI 9 ≤ -nI (v / 100) from (sb_nle (by decide) (by omega)).mpr (by omega)) h9)
  refine mk_iload C 4 dJ6_getChars_ba4f3_104 rfl ?_
  refine mk_if_eq C 118 dJ6_getChars_ba4f3_106 (by decide) (fun _ => ?_) (fun h9 => absurd (rfl) h9)
  refine mk_iload C 0 dJ6_getChars_ba4f3_118 rfl ?_
  exact mk_iretG C hr hlk rfl _ (jk_g3 h1 h2 hf) rfl rfl dJ6_getChars_ba4f3_120
theorem c_gC (l : Launch) (D : va_G) (cI cJ cB cZ cS : ClassId) (X : Nat → Nat) (Y : mk_Y) (a mm v n : Nat) (f : Nat → Int32) (hv : v < 1000) (hpm : n + sb_dg v ≤ mm) (hm : mm ≤ 2002) (hf : sb_Fit f) : mk_MetG l yJ6_getChars_ba4f3 cJ6_getChars_ba4f3 7 (some .int) ({ frames := 0, cells := 0, slots := 0, locals := 0 }) D (mk_TY cI cJ cB cZ cS) X Y [.int (nI v), .int (nI (n + sb_dg v)), .ref a] [(a, .inl (cB, mm, .inl f))] (fun f' : Nat → Int32 => pDg v n f f') (fun _ => some (.int (nI n))) (fun f' => [(a, .inl (cB, mm, .inl f'))]) 0 0 := by
  by_cases h1 : v < 10
  · exact c_gC1 l D cI cJ cB cZ cS X Y a mm v n _ f h1 (by rw [jk_d1 h1]) hpm hm hf
  · by_cases h2 : v < 100
    · exact c_gC2 l D cI cJ cB cZ cS X Y a mm v n _ f (by omega) h2 (by rw [jk_d2 (by omega) h2]) hpm hm hf
    · exact c_gC3 l D cI cJ cB cZ cS X Y a mm v n _ f (by omega) hv (by rw [jk_d3 (by omega) hv]) hpm hm hf
set_option maxHeartbeats 4000000 in
set_option maxRecDepth 100000 in
theorem c_asI (l : Launch) (D : va_G) (cI cJ cB cZ cS : ClassId) (X : Nat → Nat) (Y : mk_Y) (b v mm n x : Nat) (t : Nat → Nat) (f : Nat → Int32) (hx : x < 1000) (hp : pSB n t (v, mm, f)) (hn : n + sb_dg x ≤ 1000) : mk_MetG l yJ5_append_c97b9 cJ5_append_c97b9 4 (some (.object "java/lang/AbstractStringBuilder")) ({ frames := 4, cells := 1, slots := 4100, locals := 114 }) D (mk_TY cI cJ cB cZ cS) X Y [.ref b, .int (nI x)] [(b, .inr (11, [.ref v, .int 0, .int 0, .int (nI n)])), (v, .inl (cB, mm, .inl f))] (fun u : Nat × Nat × (Nat → Int32) => pSB (n + sb_dg x) (sb_cat t n (sb_dec x)) u) (fun _ => some (.ref b)) (fun u => wSB cB b (n + sb_dg x) u) 1 4100 := by
  refine mk_startG (own := "java/lang/AbstractStringBuilder") (by decide) rfl (Nat.le_of_ble_eq_true rfl) ?_
  intro sz p e s m args below meth c A C hr hlk hnm
  replace C : mk_Cx p s m args c cJ5_append_c97b9 4 "java/lang/AbstractStringBuilder" D (mk_TY cI cJ cB cZ cS) X Y A := C
  refine mk_aload_n C 0 dJ5_append_c97b9_0 rfl ?_
  refine mk_get C mk_inJ4 0 rfl rfl 3 (by decide) mw_715 (v := .int (nI n)) rfl dJ5_append_c97b9_1 ?_
  refine mk_istore_n C (lv' := [(2, .int (nI n)), (0, .ref b), (1, .int (nI x))]) dJ5_append_c97b9_4 (by decide) rfl ?_
  refine mk_iload_n C 0 dJ5_append_c97b9_5 rfl ?_
  refine mk_iload_n C 2 dJ5_append_c97b9_6 rfl ?_
  refine mk_callSi C (c_sSz l D cI cJ cB cZ cS X Y x hx) mw_830 mw_831 mw_22 mw_832 mkq_J6_stringSize_0f7a4 rfl ⟨Nat.le_of_ble_eq_true rfl, Nat.le_of_ble_eq_true rfl⟩ (mk_Fr.nil _) (Nat.le_of_ble_eq_true rfl) dJ5_append_c97b9_7 rfl ?_
  refine mk_iadd C dJ5_append_c97b9_10 ?_
  refine mk_topi (y := nI (n + sb_dg x)) (nI_add _ _) ?_
  refine mk_istore_n C (lv' := [(3, .int (nI (n + sb_dg x))), (2, .int (nI n)), (0, .ref b), (1, .int (nI x))]) dJ5_append_c97b9_11 (by decide) rfl ?_
  refine mk_aload_n C 2 dJ5_append_c97b9_12 rfl ?_
  refine mk_iload_n C 0 dJ5_append_c97b9_13 rfl ?_
  refine mk_callUG (wr := []) (wc := [(b, .inr (11, [.ref v, .int 0, .int 0, .int (nI n)])), (v, .inl (cB, mm, .inl f))]) C (c_ens l D cI cJ cB cZ cS X Y b v mm n (n + sb_dg x) t f hp hn) mw_737 mw_1040 mw_739 mw_p0 mw_11 mw_740 mkq_J5_ensureCapacityInternal_d00df rfl ⟨Nat.le_of_ble_eq_true rfl, Nat.le_of_ble_eq_true rfl⟩ ⟨rfl, rfl⟩ ⟨Nat.le_of_ble_eq_true rfl, Nat.le_of_ble_eq_true rfl⟩ 0 rfl (List.Perm.refl _) mk_Xt.rf (Nat.le_of_ble_eq_true rfl) dJ5_append_c97b9_14 rfl (fun u hu => ?_)
  obtain ⟨v', mm', f'⟩ := u
  have hm' : n + sb_dg x ≤ mm' := hu.2
  have h2' : mm' ≤ 2002 := hu.1.2.1
  refine mk_weq (ws' := [(b, .inr (11, [.ref v', .int 0, .int 0, .int (nI n)])), (v', .inl (cB, mm', .inl f'))]) rfl ?_
  show mk_Go p l e _ s m _ below meth c D A 4 _ _ _ _ _ _ []
  refine mk_aload_n C 2 dJ5_append_c97b9_17 rfl ?_
  refine mk_callUG (wr := [(v', .inl (cB, mm', .inl f'))]) (wc := [(b, .inr (11, [.ref v', .int 0, .int 0, .int (nI n)]))]) C (c_asL l D cI cJ cB cZ cS X Y b v' n) mw_768 mw_770 mw_769 mw_771 mw_11 mw_772 mkq_J5_isLatin1_aae02 rfl ⟨Nat.le_of_ble_eq_true rfl, Nat.le_of_ble_eq_true rfl⟩ ⟨rfl, rfl⟩ ⟨Nat.le_of_ble_eq_true rfl, Nat.le_of_ble_eq_true rfl⟩ 0 rfl (mk_px 2 [1, 0] rfl (by decide) rfl) mk_Xt.rf (Nat.le_of_ble_eq_true rfl) dJ5_append_c97b9_18 rfl (fun u _ => ?_)
  refine mk_weq (ws' := [(v', .inl (cB, mm', .inl f')), (b, .inr (11, [.ref v', .int 0, .int 0, .int (nI n)]))]) rfl ?_
  show mk_Go p l e _ s m _ below meth c D A 4 _ _ _ _ _ _ [.int 1]
  refine mk_if_eq C 37 dJ5_append_c97b9_21 (by decide) (fun h9 => absurd h9 (by decide)) (fun _ => ?_)
  refine mk_iload_n C 3 dJ5_append_c97b9_24 rfl ?_
  refine mk_iload_n C 0 dJ5_append_c97b9_25 rfl ?_
  refine mk_aload_n C 2 dJ5_append_c97b9_26 rfl ?_
  refine mk_get C mk_inJ4 1 rfl rfl 0 (by decide) mw_712 (v := .ref v') rfl dJ5_append_c97b9_27 ?_
  refine mk_callSG (wr := [(b, .inr (11, [.ref v', .int 0, .int 0, .int (nI n)]))]) (wc := [(v', .inl (cB, mm', .inl f'))]) C (c_gC l D cI cJ cB cZ cS X Y v' mm' x n f' hx hm' h2' hu.1.2.2.1) mw_833 mw_834 mw_22 mw_835 mkq_J6_getChars_ba4f3 rfl ⟨Nat.le_of_ble_eq_true rfl, Nat.le_of_ble_eq_true rfl⟩ ⟨rfl, rfl⟩ ⟨Nat.le_of_ble_eq_true rfl, Nat.le_of_ble_eq_true rfl⟩ (mk_px 2 [1, 0] rfl (by decide) rfl) mk_Xt.rf (Nat.le_of_ble_eq_true rfl) dJ5_append_c97b9_30 rfl (fun f2 h2 => ?_)
  refine mk_weq (ws' := [(b, .inr (11, [.ref v', .int 0, .int 0, .int (nI n)])), (v', .inl (cB, mm', .inl f2))]) rfl ?_
  show mk_Go p l e _ s m _ below meth c D A 4 _ _ _ _ _ _ [.int (nI n)]
  refine mk_pop C dJ5_append_c97b9_33 rfl ?_
  refine mk_goto C 48 dJ5_append_c97b9_34 (by decide) ?_
  refine mk_aload_n C 2 dJ5_append_c97b9_48 rfl ?_
  refine mk_iload_n C 0 dJ5_append_c97b9_49 rfl ?_
  refine mk_put C mk_inJ4 tyJ4 tyJ4_ok nmJ4 0 rfl rfl 3 (by decide) mw_715 rfl rfl rfl (Nat.le_of_ble_eq_true rfl) (ws' := [(b, .inr (11, [.ref v', .int 0, .int 0, .int (nI (n + sb_dg x))])), (v', .inl (cB, mm', .inl f2))]) rfl dJ5_append_c97b9_50 ?_
  refine mk_aload_n C 2 dJ5_append_c97b9_53 rfl ?_
  exact mk_aretG C hr (Or.inl ⟨_, rfl⟩) hlk (v', mm', f2) (jk_cat hu.1 hm' (fun j _ => by unfold sb_dec; omega) (fun j hj => h2.1 j (Or.inl hj)) h2.2.1 h2.2.2) rfl rfl dJ5_append_c97b9_54
set_option maxHeartbeats 4000000 in
set_option maxRecDepth 100000 in
theorem c_apI (l : Launch) (D : va_G) (cI cJ cB cZ cS : ClassId) (X : Nat → Nat) (Y : mk_Y) (b v mm n x : Nat) (t : Nat → Nat) (f : Nat → Int32) (hx : x < 1000) (hp : pSB n t (v, mm, f)) (hn : n + sb_dg x ≤ 1000) : mk_MetG l yJ4_append_bf812 cJ4_append_bf812 2 (some (.object "java/lang/StringBuilder")) ({ frames := 5, cells := 1, slots := 4100, locals := 137 }) D (mk_TY cI cJ cB cZ cS) X Y [.ref b, .int (nI x)] [(b, .inr (11, [.ref v, .int 0, .int 0, .int (nI n)])), (v, .inl (cB, mm, .inl f))] (fun u : Nat × Nat × (Nat → Int32) => pSB (n + sb_dg x) (sb_cat t n (sb_dec x)) u) (fun _ => some (.ref b)) (fun u => wSB cB b (n + sb_dg x) u) 1 4100 := by
  refine mk_startG (own := RJ4) (by decide) rfl (Nat.le_of_ble_eq_true rfl) ?_
  intro sz p e s m args below meth c A C hr hlk hnm
  replace C : mk_Cx p s m args c cJ4_append_bf812 2 RJ4 D (mk_TY cI cJ cB cZ cS) X Y A := C
  refine mk_aload_n C 0 dJ4_append_bf812_0 rfl ?_
  refine mk_iload_n C 1 dJ4_append_bf812_1 rfl ?_
  refine mk_callSU (wr := []) (wc := [(b, .inr (11, [.ref v, .int 0, .int 0, .int (nI n)])), (v, .inl (cB, mm, .inl f))]) C (c_asI l D cI cJ cB cZ cS X Y b v mm n x t f hx hp hn) mw_827 mw_1045 mw_724 mw_828 mw_11 mw_829 mkq_J5_append_c97b9 (by decide) rfl ⟨Nat.le_of_ble_eq_true rfl, Nat.le_of_ble_eq_true rfl⟩ ⟨rfl, rfl⟩ ⟨Nat.le_of_ble_eq_true rfl, Nat.le_of_ble_eq_true rfl⟩ 0 rfl (List.Perm.refl _) mk_Xt.rf (Nat.le_of_ble_eq_true rfl) dJ4_append_bf812_2 rfl (fun u hu => ?_)
  show mk_Go p l e _ s m _ below meth c D A 2 _ _ _ _ ([] ++ _) _ [.ref b]
  refine mk_pop C dJ4_append_bf812_5 rfl ?_
  refine mk_aload_n C 0 dJ4_append_bf812_6 rfl ?_
  exact mk_aretG C hr (Or.inl ⟨_, rfl⟩) hlk u hu rfl rfl dJ4_append_bf812_7
set_option maxHeartbeats 4000000 in
set_option maxRecDepth 100000 in
theorem c_gV (l : Launch) (D : va_G) (cI cJ cB cZ cS : ClassId) (X : Nat → Nat) (Y : mk_Y) (b v n : Nat) : mk_MetG l yJ5_getValue_6d5f1 cJ5_getValue_6d5f1 1 (some (.array .byte)) ({ frames := 0, cells := 0, slots := 0, locals := 0 }) D (mk_TY cI cJ cB cZ cS) X Y [.ref b] [(b, .inr (11, [.ref v, .int 0, .int 0, .int (nI n)]))] (fun _ : Unit => True) (fun _ => some (.ref v)) (fun _ => [(b, .inr (11, [.ref v, .int 0, .int 0, .int (nI n)]))]) 0 0 := by
  refine mk_startG (own := "java/lang/AbstractStringBuilder") (by decide) rfl (Nat.le_of_ble_eq_true rfl) ?_
  intro sz p e s m args below meth c A C hr hlk hnm
  replace C : mk_Cx p s m args c cJ5_getValue_6d5f1 1 "java/lang/AbstractStringBuilder" D (mk_TY cI cJ cB cZ cS) X Y A := C
  refine mk_aload_n C 0 dJ5_getValue_6d5f1_0 rfl ?_
  refine mk_get C mk_inJ4 0 rfl rfl 0 (by decide) mw_712 (v := .ref v) rfl dJ5_getValue_6d5f1_1 ?_
  exact mk_aretG C hr (Or.inr ⟨_, rfl⟩) hlk () trivial rfl rfl dJ5_getValue_6d5f1_4
set_option maxHeartbeats 4000000 in
set_option maxRecDepth 100000 in
theorem c_aLen (l : Launch) (D : va_G) (cI cJ cB cZ cS : ClassId) (X : Nat → Nat) (Y : mk_Y) (b v n : Nat) : mk_MetG l yJ5_length_8abf5 cJ5_length_8abf5 1 (some .int) ({ frames := 0, cells := 0, slots := 0, locals := 0 }) D (mk_TY cI cJ cB cZ cS) X Y [.ref b] [(b, .inr (11, [.ref v, .int 0, .int 0, .int (nI n)]))] (fun _ : Unit => True) (fun _ => some (.int (nI n))) (fun _ => [(b, .inr (11, [.ref v, .int 0, .int 0, .int (nI n)]))]) 0 0 := by
  refine mk_startG (own := "java/lang/AbstractStringBuilder") (by decide) rfl (Nat.le_of_ble_eq_true rfl) ?_
  intro sz p e s m args below meth c A C hr hlk hnm
  replace C : mk_Cx p s m args c cJ5_length_8abf5 1 "java/lang/AbstractStringBuilder" D (mk_TY cI cJ cB cZ cS) X Y A := C
  refine mk_aload_n C 0 dJ5_length_8abf5_0 rfl ?_
  refine mk_get C mk_inJ4 0 rfl rfl 3 (by decide) mw_715 (v := .int (nI n)) rfl dJ5_length_8abf5_1 ?_
  exact mk_iretG C hr hlk rfl () trivial rfl rfl dJ5_length_8abf5_4
theorem mk_callOG {p : Program} {l : Launch} {e : Env} {R : Room} {s : State} {m : MethodId} {args : Array Value} {below : List Frame} {meth : Method} {c : Code} {D : va_G} {A : Nat → Prop} {nL cells slots : Nat} {Q : State → Prop} {pc : Nat} {ws : va_W} {lv : mk_L} {st : List Value} {cc : ByteArray} {own : String} {cI cJ cB cZ cS : ClassId} {X X' : Nat → Nat} {Y Y' : mk_Y} {S : Type} {P : S → Prop} {rs : S → Option Value} {wf : S → va_W} (C : mk_Cx p s m args c cc nL own D (mk_TY cI cJ cB cZ cS) X Y A) {x y : MethodName} {cy b0 : ByteArray} {nY index n m0 : Nat} {ret r0 : Option FieldType} {rm : Room} {b : Nat} {fs : List Value} {As stk : List Value} {wr wc : va_W} {mc ms : Nat}
    (hM : mk_MetG l y cy nY ret rm D (mk_TY cI cJ cB cZ cS) X' Y' (.ref b :: As) wc P rs wf mc ms) (h1 : Cond.methodLink own index x ∈ mk_WL) (h0 : Cond.sameMethod x.cls x.cls x.name x.desc ∈ mk_WL) (hx : Cond.instanceMethod x ∈ mk_WL) (h3 : Cond.selects RJ4 x y ∈ mk_WL) (h2 : Cond.instanceMethod y ∈ mk_WL) (h4 : Cond.initialized y.cls ∈ mk_WL) (h5 : Cond.code y cy nY ret ∈ mk_WL) (h6 : Cond.code x b0 m0 r0 ∈ mk_WL) (hn : mk_nm x n) (hAs : As.length = n)
    (hR : rm.frames + 1 ≤ R.frames ∧ 8 + (nY + 11) + rm.locals ≤ R.locals) (hrm : rm.cells = mc ∧ rm.slots = ms) (hroom : cells + mc ≤ R.cells ∧ slots + ms ≤ R.slots) (q0 : Nat) (he : ws[q0]? = some (b, .inr (11, fs))) (hF : ws.Perm (wr ++ wc)) (hX : mk_Xt X X' Y Y' cB wr) (hst : (st.map fun v => v.category).sum ≤ 8)
    (hdg : decode cc pc = .ok (.invokevirtual index, 3)) (hs : stk = As.reverse ++ .ref b :: st) (kk : ∀ u : S, P u → mk_Go p l e R s m args below meth c D A nL (cells + mc) (slots + ms) Q (pc + 3) (wr ++ wf u) lv ((rs u).toList ++ st)) : mk_Go p l e R s m args below meth c D A nL cells slots Q pc ws lv stk := by
  subst hs
  intro H locs ls hP hD hS hl
  have hp := mk_preX (av := .ref b :: As) C hF hX hP hD hS
  have hG : GoodIn mk_WL (va_wsO own index RJ4 x.cls x y (mk_ws y cy nY ret)) := mk_goodM (fun w hw => by
    unfold va_wsO at hw
    rcases List.mem_append.mp hw with h | h
    · simp only [List.mem_cons, List.not_mem_nil, or_false] at h
      rcases h with rfl | rfl | rfl | rfl | rfl | rfl
      · exact h1
      · exact h0
      · exact hx
      · exact h3
      · exact h2
      · exact h4
    · exact mk_wsM h5 w h)
  exact mk_backG C hF hP hD hS hl (va_runU (As := As) (rest := st) (C := RJ4) (owner := x.cls) (n := n) C.1 (hM H.size) (va_cwO n C.1.2.2.2.2 hG rfl hrm.1 hrm.2 h6 ⟨hn.1, hn.2.1, hn.2.2⟩ hR) ⟨hp.1, va_recv C.2.1 hP (q := (RJ4, TJ4, 4)) rfl he, hp.2⟩ rfl hAs hl.1 rfl (lv_room hst) hdg hroom) kk
set_option maxHeartbeats 4000000 in
set_option maxRecDepth 100000 in
theorem c_sLen (l : Launch) (D : va_G) (cI cJ cB cZ cS : ClassId) (X : Nat → Nat) (Y : mk_Y) (b v n : Nat) : mk_MetG l yJ4_length_8abf5 cJ4_length_8abf5 1 (some .int) ({ frames := 1, cells := 0, slots := 0, locals := 20 }) D (mk_TY cI cJ cB cZ cS) X Y [.ref b] [(b, .inr (11, [.ref v, .int 0, .int 0, .int (nI n)]))] (fun _ : Unit => True) (fun _ => some (.int (nI n))) (fun _ => [(b, .inr (11, [.ref v, .int 0, .int 0, .int (nI n)]))]) 0 0 := by
  refine mk_startG (own := RJ4) (by decide) rfl (Nat.le_of_ble_eq_true rfl) ?_
  intro sz p e s m args below meth c A C hr hlk hnm
  replace C : mk_Cx p s m args c cJ4_length_8abf5 1 RJ4 D (mk_TY cI cJ cB cZ cS) X Y A := C
  refine mk_aload_n C 0 dJ4_length_8abf5_0 rfl ?_
  refine mk_callSU (wr := []) (wc := [(b, .inr (11, [.ref v, .int 0, .int 0, .int (nI n)]))]) C (c_aLen l D cI cJ cB cZ cS X Y b v n) mw_876 mw_872 mw_724 mw_871 mw_11 mw_877 mkq_J5_length_8abf5 (by decide) rfl ⟨Nat.le_of_ble_eq_true rfl, Nat.le_of_ble_eq_true rfl⟩ ⟨rfl, rfl⟩ ⟨Nat.le_of_ble_eq_true rfl, Nat.le_of_ble_eq_true rfl⟩ 0 rfl (List.Perm.refl _) mk_Xt.rf (Nat.le_of_ble_eq_true rfl) dJ4_length_8abf5_1 rfl (fun u _ => ?_)
  refine mk_weq (ws' := [(b, .inr (11, [.ref v, .int 0, .int 0, .int (nI n)]))]) rfl ?_
  show mk_Go p l e _ s m _ below meth c D A 1 _ _ _ _ _ _ [.int (nI n)]
  exact mk_iretG C hr hlk rfl () trivial rfl rfl dJ4_length_8abf5_4
set_option maxHeartbeats 4000000 in
set_option maxRecDepth 100000 in
theorem c_ckL (l : Launch) (D : va_G) (cI cJ cB cZ cS : ClassId) (X : Nat → Nat) (Y : mk_Y) (n : Nat) (hn : n < 2 ^ 31) : mk_Met l yJ7_checkLength_df160 cJ7_checkLength_df160 2 none ({ frames := 0, cells := 0, slots := 0, locals := 0 }) D (mk_TY cI cJ cB cZ cS) X Y [.int 0, .int (nI n)] [] [] none 0 0 := by
  refine mk_start (own := "java/util/Arrays") (by decide) rfl (Nat.le_of_ble_eq_true rfl) ?_
  intro sz p e s m args below meth c A C hr hlk hnm
  replace C : mk_Cx p s m args c cJ7_checkLength_df160 2 "java/util/Arrays" D (mk_TY cI cJ cB cZ cS) X Y A := C
  refine mk_iload_n C 1 dJ7_checkLength_df160_0 rfl ?_
  refine mk_iload_n C 0 dJ7_checkLength_df160_1 rfl ?_
  refine mk_icmp_ge C 37 dJ7_checkLength_df160_2 (by decide) (fun _ => ?_) (fun h9 => absurd (nI_pos' hn) h9)
  exact mk_vret C hr hlk rfl dJ7_checkLength_df160_37
set_option maxHeartbeats 4000000 in
set_option maxRecDepth 100000 in
theorem c_cRB (l : Launch) (D : va_G) (cI cJ cB cZ cS : ClassId) (X : Nat → Nat) (Y : mk_Y) (v mm n : Nat) (f : Nat → Int32) (hf : sb_Fit f) (hn : n ≤ mm) (hm : mm ≤ 2002) : mk_MetG l yJ7_copyOfRangeByte_39247 cJ7_copyOfRangeByte_39247 5 (some (.array .byte)) ({ frames := 1, cells := 1, slots := 2002, locals := 70 }) D (mk_TY cI cJ cB cZ cS) X Y [.ref v, .int 0, .int (nI n)] [(v, .inl (cB, mm, .inl f))] (fun u : Nat × (Nat → Int32) => sb_Fit u.2 ∧ ∀ j, j < n → u.2 j = f j) (fun u => some (.ref u.1)) (fun u => [(v, .inl (cB, mm, .inl f)), (u.1, .inl (cB, n, .inl u.2))]) 1 2002 := by
  refine mk_startG (own := "java/util/Arrays") (by decide) rfl (Nat.le_of_ble_eq_true rfl) ?_
  intro sz p e s m args below meth c A C hr hlk hnm
  replace C : mk_Cx p s m args c cJ7_copyOfRangeByte_39247 5 "java/util/Arrays" D (mk_TY cI cJ cB cZ cS) X Y A := C
  refine mk_iload_n C 1 dJ7_copyOfRangeByte_39247_0 rfl ?_
  refine mk_iload_n C 2 dJ7_copyOfRangeByte_39247_1 rfl ?_
  refine mk_callSv C (c_ckL l D cI cJ cB cZ cS X Y n (by omega)) mw_885 mw_886 mw_17 mw_887 mkq_J7_checkLength_df160 rfl ⟨Nat.le_of_ble_eq_true rfl, Nat.le_of_ble_eq_true rfl⟩ (mk_Fr.nil _) (Nat.le_of_ble_eq_true rfl) dJ7_copyOfRangeByte_39247_2 rfl ?_
  refine mk_iload_n C 2 dJ7_copyOfRangeByte_39247_5 rfl ?_
  refine mk_iload_n C 1 dJ7_copyOfRangeByte_39247_6 rfl ?_
  refine mk_isub C dJ7_copyOfRangeByte_39247_7 ?_
  refine mk_topi (y := nI n) (Int32.sub_zero _) ?_
  refine mk_istore_n C (lv' := [(3, .int (nI n)), (0, .ref v), (1, .int 0), (2, .int (nI n))]) dJ7_copyOfRangeByte_39247_8 (by decide) rfl ?_
  refine mk_iload_n C 0 dJ7_copyOfRangeByte_39247_9 rfl ?_
  refine mk_newB C mw_619 (nI_pos (by omega)) (N := n) (nI_clamp (by omega)) (by omega) ⟨Nat.le_of_ble_eq_true rfl, by show 0 + n ≤ 2002; omega⟩ dJ7_copyOfRangeByte_39247_10 (fun q => ?_)
  refine mk_weq (ws' := [(v, .inl (cB, mm, .inl f)), (q, .inl (cB, n, .inl (fun _ => 0)))]) rfl ?_
  refine mk_astore C (lv' := [(4, .ref q), (3, .int (nI n)), (0, .ref v), (1, .int 0), (2, .int (nI n))]) dJ7_copyOfRangeByte_39247_12 (by decide) rfl ?_
  refine mk_aload_n C 2 dJ7_copyOfRangeByte_39247_14 rfl ?_
  refine mk_iload_n C 3 dJ7_copyOfRangeByte_39247_15 rfl ?_
  refine mk_aload C 0 dJ7_copyOfRangeByte_39247_16 rfl ?_
  refine mk_iconst C (v := 0) dJ7_copyOfRangeByte_39247_18 (by decide) ?_
  refine mk_aload_n C 2 dJ7_copyOfRangeByte_39247_19 rfl ?_
  refine mk_alen C 0 2 rfl rfl (v := nI mm) rfl dJ7_copyOfRangeByte_39247_20 ?_
  refine mk_iload_n C 3 dJ7_copyOfRangeByte_39247_21 rfl ?_
  refine mk_isub C dJ7_copyOfRangeByte_39247_22 ?_
  refine mk_topi (y := nI mm) (Int32.sub_zero _) ?_
  refine mk_iload_n C 1 dJ7_copyOfRangeByte_39247_23 rfl ?_
  refine mk_mmin C mw_764 mw_546 mw_16 mw_547 ⟨Nat.le_of_ble_eq_true rfl, Nat.le_of_ble_eq_true rfl⟩ ⟨Nat.le_of_ble_eq_true rfl, by show 0 + n ≤ 2002; omega⟩ dJ7_copyOfRangeByte_39247_24 ?_
  refine mk_topi (y := nI n) (jk_min hn (by omega)) ?_
  refine mk_copyB (sp := 0) (dp := 0) (n := n) C mw_765 mw_767 mw_766 mw_18 0 1 2 rfl rfl rfl (by omega) (by omega) (by omega) (by omega) hf ⟨Nat.le_of_ble_eq_true rfl, Nat.le_of_ble_eq_true rfl⟩ (ws' := [(v, .inl (cB, mm, .inl f)), (q, .inl (cB, n, .inl (va_cpy f (fun _ => 0) 0 0 n)))]) rfl dJ7_copyOfRangeByte_39247_27 ?_
  refine mk_aload C 0 dJ7_copyOfRangeByte_39247_30 rfl ?_
  refine mk_widen (k := 1) (n := 2002) (by omega) (by omega) ?_
  exact mk_aretG C hr (Or.inr ⟨_, rfl⟩) hlk (q, va_cpy f (fun _ => 0) 0 0 n) ⟨sb_fitC hf sb_fit0, fun j hj => (show va_cpy f (fun _ => 0) 0 0 n j = f j from sb_cpy0 hj)⟩ rfl rfl dJ7_copyOfRangeByte_39247_32
set_option maxHeartbeats 4000000 in
set_option maxRecDepth 100000 in
theorem c_cR (l : Launch) (D : va_G) (cI cJ cB cZ cS : ClassId) (X : Nat → Nat) (Y : mk_Y) (v mm n : Nat) (f : Nat → Int32) (hf : sb_Fit f) (hn : n ≤ mm) (hm : mm ≤ 2002) : mk_MetG l yJ7_copyOfRange_39247 cJ7_copyOfRange_39247 3 (some (.array .byte)) ({ frames := 2, cells := 1, slots := 2002, locals := 94 }) D (mk_TY cI cJ cB cZ cS) X Y [.ref v, .int 0, .int (nI n)] [(v, .inl (cB, mm, .inl f))] (fun u : Nat × (Nat → Int32) => sb_Fit u.2 ∧ ∀ j, j < n → u.2 j = f j) (fun u => some (.ref u.1)) (fun u => [(v, .inl (cB, mm, .inl f)), (u.1, .inl (cB, n, .inl u.2))]) 1 2002 := by
  refine mk_startG (own := "java/util/Arrays") (by decide) rfl (Nat.le_of_ble_eq_true rfl) ?_
  intro sz p e s m args below meth c A C hr hlk hnm
  replace C : mk_Cx p s m args c cJ7_copyOfRange_39247 3 "java/util/Arrays" D (mk_TY cI cJ cB cZ cS) X Y A := C
  refine mk_iload_n C 1 dJ7_copyOfRange_39247_0 rfl ?_
  refine mk_if_ne C 10 dJ7_copyOfRange_39247_1 (by decide) (fun h9 => absurd h9 (fun z => z rfl)) (fun _ => ?_)
  refine mk_iload_n C 2 dJ7_copyOfRange_39247_4 rfl ?_
  refine mk_aload_n C 0 dJ7_copyOfRange_39247_5 rfl ?_
  refine mk_alen C 0 2 rfl rfl (v := nI mm) rfl dJ7_copyOfRange_39247_6 ?_
  refine mk_icmp_eq C 17 dJ7_copyOfRange_39247_7 (by decide) (fun hc => ?_) (fun hc => ?_)
  · have e : n = mm := (nI_eq (by omega) (by omega)).mp hc
    subst e
    refine mk_aload_n C 0 dJ7_copyOfRange_39247_17 rfl ?_
    refine mk_clone C mw_757 mw_758 mw_759 mw_760 mw_761 0 2 rfl rfl hf ⟨Nat.le_of_ble_eq_true rfl, Nat.le_of_ble_eq_true rfl⟩ ⟨Nat.le_of_ble_eq_true rfl, by show 0 + n ≤ 2002; omega⟩ dJ7_copyOfRange_39247_18 (fun q => ?_)
    refine mk_weq (ws' := [(v, .inl (cB, n, .inl f)), (q, .inl (cB, n, .inl f))]) rfl ?_
    refine mk_castA C mw_763 1 2 rfl rfl dJ7_copyOfRange_39247_21 ?_
    refine mk_widen (k := 1) (n := 2002) (by omega) (by omega) ?_
    exact mk_aretG C hr (Or.inr ⟨_, rfl⟩) hlk (q, f) ⟨hf, fun j hj => rfl⟩ rfl rfl dJ7_copyOfRange_39247_24
  · refine mk_aload_n C 0 dJ7_copyOfRange_39247_10 rfl ?_
    refine mk_iload_n C 1 dJ7_copyOfRange_39247_11 rfl ?_
    refine mk_iload_n C 2 dJ7_copyOfRange_39247_12 rfl ?_
    refine mk_callSG (wr := []) (wc := [(v, .inl (cB, mm, .inl f))]) C (c_cRB l D cI cJ cB cZ cS X Y v mm n f hf hn hm) mw_882 mw_883 mw_17 mw_884 mkq_J7_copyOfRangeByte_39247 rfl ⟨Nat.le_of_ble_eq_true rfl, Nat.le_of_ble_eq_true rfl⟩ ⟨rfl, rfl⟩ ⟨Nat.le_of_ble_eq_true rfl, Nat.le_of_ble_eq_true rfl⟩ (List.Perm.refl _) mk_Xt.rf (Nat.le_of_ble_eq_true rfl) dJ7_copyOfRange_39247_13 rfl (fun u hu => ?_)
    refine mk_weq (ws' := [(v, .inl (cB, mm, .inl f)), (u.1, .inl (cB, n, .inl u.2))]) rfl ?_
    show mk_Go p l e _ s m _ below meth c D A 3 _ _ _ _ _ _ [.ref u.1]
    exact mk_aretG C hr (Or.inr ⟨_, rfl⟩) hlk u hu rfl rfl dJ7_copyOfRange_39247_16
set_option maxHeartbeats 4000000 in
set_option maxRecDepth 100000 in
theorem c_sI1 (l : Launch) (D : va_G) (cI cJ cB cZ cS : ClassId) (X : Nat → Nat) (Y : mk_Y) (x b v mm n : Nat) (t : Nat → Nat) (f : Nat → Int32) (hp : pSB n t (v, mm, f)) : mk_MetG l yJ0_init_db425 cJ0_init_db425 5 none ({ frames := 3, cells := 1, slots := 2002, locals := 116 }) D (mk_TY cI cJ cB cZ cS) X Y [.ref x, .ref b, .null] [(x, .inr (10, [.null, .int 0, .int 0, .int 0])), (b, .inr (11, [.ref v, .int 0, .int 0, .int (nI n)])), (v, .inl (cB, mm, .inl f))] (fun u : Nat × (Nat → Int32) => ∀ j, j < n → u.2 j = nI (t j)) (fun _ => none) (fun u => [(x, .inr (10, [.ref u.1, .int 0, .int 0, .int 0])), (b, .inr (11, [.ref v, .int 0, .int 0, .int (nI n)])), (v, .inl (cB, mm, .inl f)), (u.1, .inl (cB, n, .inl u.2))]) 1 2002 := by
  refine mk_startG (own := RJ0) (by decide) rfl (Nat.le_of_ble_eq_true rfl) ?_
  intro sz p e s m args below meth c A C hr hlk hnm
  replace C : mk_Cx p s m args c cJ0_init_db425 5 RJ0 D (mk_TY cI cJ cB cZ cS) X Y A := C
  replace hnm : meth.name = "<init>" := hnm
  obtain ⟨hp1, hp2, hp3, hp4⟩ := id hp
  have hp2 : mm ≤ 2002 := hp2
  have hp1 : n ≤ mm := hp1
  refine mk_lvsub [0, 1] (lv' := [(0, .ref x), (1, .ref b)]) rfl ?_
  refine mk_aload_n C 0 dJ0_init_db425_0 rfl ?_
  refine mk_objI C mw_864 mw_29 mw_30 ⟨Nat.le_of_ble_eq_true rfl, Nat.le_of_ble_eq_true rfl⟩ dJ0_init_db425_1 ?_
  refine mk_aload_n C 1 dJ0_init_db425_4 rfl ?_
  refine mk_callUG (wr := [(x, .inr (10, [.null, .int 0, .int 0, .int 0])), (v, .inl (cB, mm, .inl f))]) (wc := [(b, .inr (11, [.ref v, .int 0, .int 0, .int (nI n)]))]) C (c_gV l D cI cJ cB cZ cS X Y b v n) mw_865 mw_867 mw_866 mw_868 mw_11 mw_869 mkq_J5_getValue_6d5f1 rfl ⟨Nat.le_of_ble_eq_true rfl, Nat.le_of_ble_eq_true rfl⟩ ⟨rfl, rfl⟩ ⟨Nat.le_of_ble_eq_true rfl, Nat.le_of_ble_eq_true rfl⟩ 1 rfl (mk_px 3 [0, 2, 1] rfl (by decide) rfl) mk_Xt.rf (Nat.le_of_ble_eq_true rfl) dJ0_init_db425_5 rfl (fun u _ => ?_)
  refine mk_weq (ws' := [(x, .inr (10, [.null, .int 0, .int 0, .int 0])), (v, .inl (cB, mm, .inl f)), (b, .inr (11, [.ref v, .int 0, .int 0, .int (nI n)]))]) rfl ?_
  show mk_Go p l e _ s m _ below meth c D A 5 _ _ _ _ _ _ [.ref v]
  refine mk_astore_n C (lv' := [(3, .ref v), (0, .ref x), (1, .ref b)]) dJ0_init_db425_8 (by decide) rfl ?_
  refine mk_aload_n C 2 dJ0_init_db425_9 rfl ?_
  refine mk_callOG (wr := [(x, .inr (10, [.null, .int 0, .int 0, .int 0])), (v, .inl (cB, mm, .inl f))]) (wc := [(b, .inr (11, [.ref v, .int 0, .int 0, .int (nI n)]))]) C (c_sLen l D cI cJ cB cZ cS X Y b v n) mw_870 mw_872 mw_871 mw_873 mw_874 mw_12 mw_875 mw_877 mkq_J5_length_8abf5 rfl ⟨Nat.le_of_ble_eq_true rfl, Nat.le_of_ble_eq_true rfl⟩ ⟨rfl, rfl⟩ ⟨Nat.le_of_ble_eq_true rfl, Nat.le_of_ble_eq_true rfl⟩ 2 rfl (List.Perm.refl _) mk_Xt.rf (Nat.le_of_ble_eq_true rfl) dJ0_init_db425_10 rfl (fun u _ => ?_)
  refine mk_weq (ws' := [(x, .inr (10, [.null, .int 0, .int 0, .int 0])), (v, .inl (cB, mm, .inl f)), (b, .inr (11, [.ref v, .int 0, .int 0, .int (nI n)]))]) rfl ?_
  show mk_Go p l e _ s m _ below meth c D A 5 _ _ _ _ _ _ [.int (nI n)]
  refine mk_istore C (lv' := [(4, .int (nI n)), (3, .ref v), (0, .ref x), (1, .ref b)]) dJ0_init_db425_13 (by decide) rfl ?_
  refine mk_aload_n C 3 dJ0_init_db425_15 rfl ?_
  refine mk_callUG (wr := [(x, .inr (10, [.null, .int 0, .int 0, .int 0])), (v, .inl (cB, mm, .inl f))]) (wc := [(b, .inr (11, [.ref v, .int 0, .int 0, .int (nI n)]))]) C (c_asL l D cI cJ cB cZ cS X Y b v n) mw_878 mw_770 mw_769 mw_771 mw_11 mw_772 mkq_J5_isLatin1_aae02 rfl ⟨Nat.le_of_ble_eq_true rfl, Nat.le_of_ble_eq_true rfl⟩ ⟨rfl, rfl⟩ ⟨Nat.le_of_ble_eq_true rfl, Nat.le_of_ble_eq_true rfl⟩ 2 rfl (List.Perm.refl _) mk_Xt.rf (Nat.le_of_ble_eq_true rfl) dJ0_init_db425_16 rfl (fun u _ => ?_)
  refine mk_weq (ws' := [(x, .inr (10, [.null, .int 0, .int 0, .int 0])), (v, .inl (cB, mm, .inl f)), (b, .inr (11, [.ref v, .int 0, .int 0, .int (nI n)]))]) rfl ?_
  show mk_Go p l e _ s m _ below meth c D A 5 _ _ _ _ _ _ [.int 1]
  refine mk_if_eq C 41 dJ0_init_db425_19 (by decide) (fun h9 => absurd h9 (by decide)) (fun _ => ?_)
  refine mk_aload_n C 2 dJ0_init_db425_22 rfl ?_
  refine mk_iconst C (v := 0) dJ0_init_db425_23 (by decide) ?_
  refine mk_putF C hnm mk_inJ0 tyJ0 tyJ0_ok nmJ0 0 rfl rfl 1 (by decide) mw_899 rfl rfl rfl rfl (Nat.le_of_ble_eq_true rfl) (ws' := [(x, .inr (10, [.null, .int 0, .int 0, .int 0])), (v, .inl (cB, mm, .inl f)), (b, .inr (11, [.ref v, .int 0, .int 0, .int (nI n)]))]) rfl dJ0_init_db425_24 ?_
  refine mk_aload_n C 2 dJ0_init_db425_27 rfl ?_
  refine mk_aload_n C 1 dJ0_init_db425_28 rfl ?_
  refine mk_iconst C (v := 0) dJ0_init_db425_29 (by decide) ?_
  refine mk_iload C 0 dJ0_init_db425_30 rfl ?_
  refine mk_callSG (wr := [(x, .inr (10, [.null, .int 0, .int 0, .int 0])), (b, .inr (11, [.ref v, .int 0, .int 0, .int (nI n)]))]) (wc := [(v, .inl (cB, mm, .inl f))]) C (c_cR l D cI cJ cB cZ cS X Y v mm n f hp3 hp1 hp2) mw_879 mw_880 mw_17 mw_881 mkq_J7_copyOfRange_39247 rfl ⟨Nat.le_of_ble_eq_true rfl, Nat.le_of_ble_eq_true rfl⟩ ⟨rfl, rfl⟩ ⟨Nat.le_of_ble_eq_true rfl, Nat.le_of_ble_eq_true rfl⟩ (mk_px 3 [0, 2, 1] rfl (by decide) rfl) mk_Xt.rf (Nat.le_of_ble_eq_true rfl) dJ0_init_db425_32 rfl (fun u hu => ?_)
  refine mk_weq (ws' := [(x, .inr (10, [.null, .int 0, .int 0, .int 0])), (b, .inr (11, [.ref v, .int 0, .int 0, .int (nI n)])), (v, .inl (cB, mm, .inl f)), (u.1, .inl (cB, n, .inl u.2))]) rfl ?_
  show mk_Go p l e _ s m _ below meth c D A 5 _ _ _ _ _ _ [.ref u.1, .ref x]
  refine mk_putF C hnm mk_inJ0 tyJ0 tyJ0_ok nmJ0 0 rfl rfl 0 (by decide) mw_898 rfl rfl rfl rfl (Nat.le_of_ble_eq_true rfl) (ws' := [(x, .inr (10, [.ref u.1, .int 0, .int 0, .int 0])), (b, .inr (11, [.ref v, .int 0, .int 0, .int (nI n)])), (v, .inl (cB, mm, .inl f)), (u.1, .inl (cB, n, .inl u.2))]) rfl dJ0_init_db425_35 ?_
  refine mk_goto C 97 dJ0_init_db425_38 (by decide) ?_
  exact mk_vretG C hr hlk u (fun j hj => by rw [hu.2 j hj]; exact hp4 j hj) rfl dJ0_init_db425_97
set_option maxHeartbeats 4000000 in
set_option maxRecDepth 100000 in
theorem c_sI2 (l : Launch) (D : va_G) (cI cJ cB cZ cS : ClassId) (X : Nat → Nat) (Y : mk_Y) (x b v mm n : Nat) (t : Nat → Nat) (f : Nat → Int32) (hp : pSB n t (v, mm, f)) : mk_MetG l yJ0_init_81219 cJ0_init_81219 2 none ({ frames := 4, cells := 1, slots := 2002, locals := 140 }) D (mk_TY cI cJ cB cZ cS) X Y [.ref x, .ref b] [(x, .inr (10, [.null, .int 0, .int 0, .int 0])), (b, .inr (11, [.ref v, .int 0, .int 0, .int (nI n)])), (v, .inl (cB, mm, .inl f))] (fun u : Nat × (Nat → Int32) => ∀ j, j < n → u.2 j = nI (t j)) (fun _ => none) (fun u => [(x, .inr (10, [.ref u.1, .int 0, .int 0, .int 0])), (b, .inr (11, [.ref v, .int 0, .int 0, .int (nI n)])), (v, .inl (cB, mm, .inl f)), (u.1, .inl (cB, n, .inl u.2))]) 1 2002 := by
  refine mk_startG (own := RJ0) (by decide) rfl (Nat.le_of_ble_eq_true rfl) ?_
  intro sz p e s m args below meth c A C hr hlk hnm
  replace C : mk_Cx p s m args c cJ0_init_81219 2 RJ0 D (mk_TY cI cJ cB cZ cS) X Y A := C
  refine mk_aload_n C 0 dJ0_init_81219_0 rfl ?_
  refine mk_aload_n C 1 dJ0_init_81219_1 rfl ?_
  refine mk_anull C dJ0_init_81219_2 ?_
  refine mk_callIG (wr := []) (wc := [(x, .inr (10, [.null, .int 0, .int 0, .int 0])), (b, .inr (11, [.ref v, .int 0, .int 0, .int (nI n)])), (v, .inl (cB, mm, .inl f))]) C (c_sI1 l D cI cJ cB cZ cS X Y x b v mm n t f hp) mw_861 mw_862 mw_13 mw_863 mkq_J0_init_db425 rfl rfl ⟨Nat.le_of_ble_eq_true rfl, Nat.le_of_ble_eq_true rfl⟩ ⟨rfl, rfl⟩ ⟨Nat.le_of_ble_eq_true rfl, Nat.le_of_ble_eq_true rfl⟩ (List.Perm.refl _) mk_Xt.rf (Nat.le_of_ble_eq_true rfl) dJ0_init_81219_3 rfl (fun u hu => ?_)
  refine mk_weq (ws' := [(x, .inr (10, [.ref u.1, .int 0, .int 0, .int 0])), (b, .inr (11, [.ref v, .int 0, .int 0, .int (nI n)])), (v, .inl (cB, mm, .inl f)), (u.1, .inl (cB, n, .inl u.2))]) rfl ?_
  show mk_Go p l e _ s m _ below meth c D A 2 _ _ _ _ _ _ []
  exact mk_vretG C hr hlk u hu rfl dJ0_init_81219_6
set_option maxHeartbeats 4000000 in
set_option maxRecDepth 100000 in
theorem c_toS (l : Launch) (D : va_G) (cI cJ cB cZ cS : ClassId) (X : Nat → Nat) (Y : mk_Y) (b v mm n : Nat) (t : Nat → Nat) (f : Nat → Int32) (hp : pSB n t (v, mm, f)) : mk_MetG l yJ4_toString_0e30d cJ4_toString_0e30d 1 (some (.object "java/lang/String")) ({ frames := 5, cells := 2, slots := 2006, locals := 161 }) D (mk_TY cI cJ cB cZ cS) X Y [.ref b] [(b, .inr (11, [.ref v, .int 0, .int 0, .int (nI n)])), (v, .inl (cB, mm, .inl f))] (fun u : Nat × Nat × (Nat → Int32) => ∀ j, j < n → u.2.2 j = nI (t j)) (fun u => some (.ref u.1)) (fun u => [(b, .inr (11, [.ref v, .int 0, .int 0, .int (nI n)])), (v, .inl (cB, mm, .inl f)), (u.1, .inr (10, [.ref u.2.1, .int 0, .int 0, .int 0])), (u.2.1, .inl (cB, n, .inl u.2.2))]) 2 2006 := by
  refine mk_startG (own := RJ4) (by decide) rfl (Nat.le_of_ble_eq_true rfl) ?_
  intro sz p e s m args below meth c A C hr hlk hnm
  replace C : mk_Cx p s m args c cJ4_toString_0e30d 1 RJ4 D (mk_TY cI cJ cB cZ cS) X Y A := C
  refine mk_new C (ci := 10) mk_inJ0 tyJ0 tyJ0_ok mw_856 mw_857 mw_13 rfl mk_dfJ0 ⟨Nat.le_of_ble_eq_true rfl, Nat.le_of_ble_eq_true rfl⟩ dJ4_toString_0e30d_0 (fun x => ?_)
  refine mk_weq (ws' := [(b, .inr (11, [.ref v, .int 0, .int 0, .int (nI n)])), (v, .inl (cB, mm, .inl f)), (x, .inr (10, [.null, .int 0, .int 0, .int 0]))]) rfl ?_
  refine mk_dup C dJ4_toString_0e30d_3 rfl ?_
  refine mk_aload_n C 0 dJ4_toString_0e30d_4 rfl ?_
  refine mk_callIG (wr := []) (wc := [(x, .inr (10, [.null, .int 0, .int 0, .int 0])), (b, .inr (11, [.ref v, .int 0, .int 0, .int (nI n)])), (v, .inl (cB, mm, .inl f))]) C (c_sI2 l D cI cJ cB cZ cS X Y x b v mm n t f hp) mw_858 mw_859 mw_13 mw_860 mkq_J0_init_81219 rfl rfl ⟨Nat.le_of_ble_eq_true rfl, Nat.le_of_ble_eq_true rfl⟩ ⟨rfl, rfl⟩ ⟨Nat.le_of_ble_eq_true rfl, Nat.le_of_ble_eq_true rfl⟩ (mk_px 3 [2, 0, 1] rfl (by decide) rfl) mk_Xt.rf (Nat.le_of_ble_eq_true rfl) dJ4_toString_0e30d_5 rfl (fun u hu => ?_)
  refine mk_weq (ws' := [(x, .inr (10, [.ref u.1, .int 0, .int 0, .int 0])), (b, .inr (11, [.ref v, .int 0, .int 0, .int (nI n)])), (v, .inl (cB, mm, .inl f)), (u.1, .inl (cB, n, .inl u.2))]) rfl ?_
  show mk_Go p l e _ s m _ below meth c D A 1 _ _ _ _ _ _ [.ref x]
  refine mk_perm (ws' := [(b, .inr (11, [.ref v, .int 0, .int 0, .int (nI n)])), (v, .inl (cB, mm, .inl f)), (x, .inr (10, [.ref u.1, .int 0, .int 0, .int 0])), (u.1, .inl (cB, n, .inl u.2))]) (mk_px 4 [1, 2, 0, 3] rfl (by decide) rfl) ?_
  exact mk_aretG C hr (Or.inl ⟨_, rfl⟩) hlk (x, u.1, u.2) hu rfl rfl dJ4_toString_0e30d_8
set_option maxHeartbeats 4000000 in
set_option maxRecDepth 100000 in
theorem c_aNew (l : Launch) (D : va_G) (cI cJ cB cZ cS : ClassId) (X : Nat → Nat) (Y : mk_Y) (b : Nat) : mk_MetG l yJ5_init_d00df cJ5_init_d00df 2 none ({ frames := 1, cells := 1, slots := 16, locals := 30 }) D (mk_TY cI cJ cB cZ cS) X Y [.ref b, .int 16] [(b, .inr (11, [.null, .int 0, .int 0, .int 0]))] (fun u : Nat × Nat × (Nat → Int32) => ∀ t, pSB 0 t u) (fun _ => none) (fun u => wSB cB b 0 u) 1 16 := by
  refine mk_startG (own := "java/lang/AbstractStringBuilder") (by decide) rfl (Nat.le_of_ble_eq_true rfl) ?_
  intro sz p e s m args below meth c A C hr hlk hnm
  replace C : mk_Cx p s m args c cJ5_init_d00df 2 "java/lang/AbstractStringBuilder" D (mk_TY cI cJ cB cZ cS) X Y A := C
  replace hnm : meth.name = "<init>" := hnm
  refine mk_aload_n C 0 dJ5_init_d00df_0 rfl ?_
  refine mk_objI C mw_703 mw_29 mw_30 ⟨Nat.le_of_ble_eq_true rfl, Nat.le_of_ble_eq_true rfl⟩ dJ5_init_d00df_1 ?_
  refine mk_gets C C.2.2.1.2.2.2.2.1 mw_704 dJ5_init_d00df_4 ?_
  refine mk_if_eq C 25 dJ5_init_d00df_7 (by decide) (fun h9 => absurd h9 (by decide)) (fun _ => ?_)
  refine mk_aload_n C 0 dJ5_init_d00df_10 rfl ?_
  refine mk_iload_n C 1 dJ5_init_d00df_11 rfl ?_
  refine mk_newB C mw_619 (by decide) (N := 16) (by decide) (by decide) ⟨Nat.le_of_ble_eq_true rfl, Nat.le_of_ble_eq_true rfl⟩ dJ5_init_d00df_12 (fun q => ?_)
  refine mk_weq (ws' := [(b, .inr (11, [.null, .int 0, .int 0, .int 0])), (q, .inl (cB, 16, .inl (fun _ => 0)))]) rfl ?_
  refine mk_put C mk_inJ4 tyJ4 tyJ4_ok nmJ4 0 rfl rfl 0 (by decide) mw_712 rfl rfl rfl (Nat.le_of_ble_eq_true rfl) (ws' := [(b, .inr (11, [.ref q, .int 0, .int 0, .int 0])), (q, .inl (cB, 16, .inl (fun _ => 0)))]) rfl dJ5_init_d00df_14 ?_
  refine mk_aload_n C 0 dJ5_init_d00df_17 rfl ?_
  refine mk_iconst C (v := 0) dJ5_init_d00df_18 (by decide) ?_
  refine mk_put C mk_inJ4 tyJ4 tyJ4_ok nmJ4 0 rfl rfl 1 (by decide) mw_713 rfl rfl rfl (Nat.le_of_ble_eq_true rfl) (ws' := [(b, .inr (11, [.ref q, .int 0, .int 0, .int 0])), (q, .inl (cB, 16, .inl (fun _ => 0)))]) rfl dJ5_init_d00df_19 ?_
  refine mk_goto C 38 dJ5_init_d00df_22 (by decide) ?_
  exact mk_vretG C hr hlk (q, 16, fun _ => 0) (fun t => ⟨Nat.zero_le _, (show 16 ≤ 2002 by decide), sb_fit0, fun j hj => absurd hj (Nat.not_lt_zero j)⟩) rfl dJ5_init_d00df_38
set_option maxHeartbeats 4000000 in
set_option maxRecDepth 100000 in
theorem c_bNew (l : Launch) (D : va_G) (cI cJ cB cZ cS : ClassId) (X : Nat → Nat) (Y : mk_Y) (b : Nat) : mk_MetG l yJ4_init_da8c8 cJ4_init_da8c8 1 none ({ frames := 2, cells := 1, slots := 16, locals := 51 }) D (mk_TY cI cJ cB cZ cS) X Y [.ref b] [(b, .inr (11, [.null, .int 0, .int 0, .int 0]))] (fun u : Nat × Nat × (Nat → Int32) => ∀ t, pSB 0 t u) (fun _ => none) (fun u => wSB cB b 0 u) 1 16 := by
  refine mk_startG (own := RJ4) (by decide) rfl (Nat.le_of_ble_eq_true rfl) ?_
  intro sz p e s m args below meth c A C hr hlk hnm
  replace C : mk_Cx p s m args c cJ4_init_da8c8 1 RJ4 D (mk_TY cI cJ cB cZ cS) X Y A := C
  refine mk_aload_n C 0 dJ4_init_da8c8_0 rfl ?_
  refine mk_bipush C (v := 16) dJ4_init_da8c8_1 (by decide) ?_
  refine mk_callIG (wr := []) (wc := [(b, .inr (11, [.null, .int 0, .int 0, .int 0]))]) C (c_aNew l D cI cJ cB cZ cS X Y b) mw_700 mw_701 mw_11 mw_702 mkq_J5_init_d00df rfl rfl ⟨Nat.le_of_ble_eq_true rfl, Nat.le_of_ble_eq_true rfl⟩ ⟨rfl, rfl⟩ ⟨Nat.le_of_ble_eq_true rfl, Nat.le_of_ble_eq_true rfl⟩ (List.Perm.refl _) mk_Xt.rf (Nat.le_of_ble_eq_true rfl) dJ4_init_da8c8_3 rfl (fun u hu => ?_)
  exact mk_vretG C hr hlk u hu rfl dJ4_init_da8c8_6
end
