/-! ===== BEGIN words of one list among another's, by their places ===== -/
theorem goodIn_r {big : List Cond} (ws : List Cond) (ps : List Nat) (hp : ws = ps.filterMap (fun i => big[i]?)) (h : ws.all goodWord = true) : GoodIn big ws := by
  intro w hw
  have h1 := List.all_eq_true.mp h w hw
  rw [hp] at hw
  obtain ⟨i, -, hi⟩ := List.mem_filterMap.mp hw
  have hm : w ∈ big := by first | exact List.mem_of_getElem? hi | exact List.getElem?_mem hi
  exact ⟨hm, good_of_word h1⟩
theorem goodIn_app {big a b : List Cond} (ha : GoodIn big a) (hb : GoodIn big b) : GoodIn big (a ++ b) := fun w h => (List.mem_append.mp h).elim (ha w) (hb w)
theorem goodIn_ca {big a b : List Cond} {c : Cond} (ha : GoodIn big (c :: a)) (hb : GoodIn big b) : GoodIn big (c :: (a ++ b)) := fun w h => (List.mem_cons.mp h).elim (fun e => ha w (List.mem_cons.mpr (Or.inl e))) (fun h => (List.mem_append.mp h).elim (fun h => ha w (List.mem_cons.mpr (Or.inr h))) (hb w))
theorem goodIn_sub {big ws : List Cond} (hm : ∀ w ∈ ws, w ∈ big) (h : ws.all goodWord = true) : GoodIn big ws := fun w hw => ⟨hm w hw, good_of_word (List.all_eq_true.mp h w hw)⟩
/-! ===== END ===== -/

/-! ===== BEGIN printed: names, fields, word lists, decode rows ===== -/
def RX0 : String := "TradeWords$Beach"
def TX0 : u_T := fun k => match k with
  | 0 => ("TradeWords$Beach", "words", "[I", true)
  | 1 => ("TradeWords$Beach", "heard", "[I", true)
  | 2 => ("TradeWords$Beach", "canSay", "[I", true)
  | 3 => ("TradeWords$Beach", "instead", "[I", true)
  | 4 => ("TradeWords$Beach", "traders", "[I", true)
  | 5 => ("TradeWords$Beach", "takes", "[I", true)
  | 6 => ("TradeWords$Beach", "needs", "LTradeWords$Needs;", true)
  | 7 => ("TradeWords$Beach", "speaks", "I", false)
  | _ => ("TradeWords$Beach", "alikeFrom", "I", false)
def tyX0 : Nat → FieldType := fun k => match k with
  | 0 => .array .int
  | 1 => .array .int
  | 2 => .array .int
  | 3 => .array .int
  | 4 => .array .int
  | 5 => .array .int
  | 6 => .object "TradeWords$Needs"
  | 7 => .int
  | _ => .int
abbrev wsX00 : List Cond := u_ws RX0 TX0 9
theorem nmX0 : ∀ a, a < 9 → ∀ b, b < 9 → a ≠ b → (TX0 a).2.1 ≠ (TX0 b).2.1 := by decide +kernel
theorem tyX0_ok : ∀ k, k < 9 → parseFieldDescriptor (TX0 k).2.2.1 = some (tyX0 k) := by decide +kernel
abbrev cX0_init : ByteArray := prog_2_method_1_code
def yX0_init : MethodName := ⟨RX0, "<init>", "()V"⟩
abbrev cX0_clear : ByteArray := prog_2_method_2_code
def yX0_clear : MethodName := ⟨RX0, "clear", "()V"⟩
abbrev cX0_accepts : ByteArray := prog_2_method_3_code
def yX0_accepts : MethodName := ⟨RX0, "accepts", "(LTradeWords$Item;)Z"⟩
abbrev cX0_tellExchange : ByteArray := prog_2_method_4_code
def yX0_tellExchange : MethodName := ⟨RX0, "tellExchange", "(I)V"⟩
abbrev cX0_tellPair : ByteArray := prog_2_method_5_code
def yX0_tellPair : MethodName := ⟨RX0, "tellPair", "([III)V"⟩
abbrev cX0_wordPlace : ByteArray := prog_2_method_6_code
def yX0_wordPlace : MethodName := ⟨RX0, "wordPlace", "(II)I"⟩
abbrev cX0_heardPlace : ByteArray := prog_2_method_7_code
def yX0_heardPlace : MethodName := ⟨RX0, "heardPlace", "(II)I"⟩
abbrev cX0_wordOf : ByteArray := prog_2_method_8_code
def yX0_wordOf : MethodName := ⟨RX0, "wordOf", "(II)I"⟩
abbrev cX0_heardBy : ByteArray := prog_2_method_9_code
def yX0_heardBy : MethodName := ⟨RX0, "heardBy", "(II)I"⟩
abbrev cX0_isTold : ByteArray := prog_2_method_10_code
def yX0_isTold : MethodName := ⟨RX0, "isTold", "(I)Z"⟩
abbrev cX0_soundsOf : ByteArray := prog_2_method_11_code
def yX0_soundsOf : MethodName := ⟨RX0, "soundsOf", "(I)I"⟩
abbrev cX0_tradersOf : ByteArray := prog_2_method_12_code
def yX0_tradersOf : MethodName := ⟨RX0, "tradersOf", "(I)I"⟩
abbrev cX0_takesOfTen : ByteArray := prog_2_method_13_code
def yX0_takesOfTen : MethodName := ⟨RX0, "takesOfTen", "(I)I"⟩
abbrev cX0_speaksOfTen : ByteArray := prog_2_method_14_code
def yX0_speaksOfTen : MethodName := ⟨RX0, "speaksOfTen", "()I"⟩
abbrev cX0_alikeFrom : ByteArray := prog_2_method_15_code
def yX0_alikeFrom : MethodName := ⟨RX0, "alikeFrom", "()I"⟩
abbrev cX0_needs : ByteArray := prog_2_method_16_code
def yX0_needs : MethodName := ⟨RX0, "needs", "()LTradeWords$Needs;"⟩
abbrev cX0_soundSaidBy : ByteArray := prog_2_method_17_code
def yX0_soundSaidBy : MethodName := ⟨RX0, "soundSaidBy", "(II)I"⟩
abbrev cX0_saidBy : ByteArray := prog_2_method_18_code
def yX0_saidBy : MethodName := ⟨RX0, "saidBy", "(II)I"⟩
def RX1 : String := "TradeWords$Crowd"
def TX1 : u_T := fun k => match k with
  | 0 => ("TradeWords$Crowd", "now", "[J", true)
  | 1 => ("TradeWords$Crowd", "next", "[J", true)
  | 2 => ("TradeWords$Crowd", "a", "I", false)
  | 3 => ("TradeWords$Crowd", "b", "I", false)
  | 4 => ("TradeWords$Crowd", "zeroHears", "I", false)
  | 5 => ("TradeWords$Crowd", "oneHears", "I", false)
  | _ => ("TradeWords$Crowd", "moved", "Z", false)
def tyX1 : Nat → FieldType := fun k => match k with
  | 0 => .array .long
  | 1 => .array .long
  | 2 => .int
  | 3 => .int
  | 4 => .int
  | 5 => .int
  | _ => .boolean
abbrev wsX10 : List Cond := u_ws RX1 TX1 7
theorem nmX1 : ∀ a, a < 7 → ∀ b, b < 7 → a ≠ b → (TX1 a).2.1 ≠ (TX1 b).2.1 := by decide +kernel
theorem tyX1_ok : ∀ k, k < 7 → parseFieldDescriptor (TX1 k).2.2.1 = some (tyX1 k) := by decide +kernel
abbrev cX1_init : ByteArray := prog_3_method_1_code
def yX1_init : MethodName := ⟨RX1, "<init>", "()V"⟩
abbrev cX1_gather : ByteArray := prog_3_method_2_code
def yX1_gather : MethodName := ⟨RX1, "gather", "(II)V"⟩
abbrev cX1_habits : ByteArray := prog_3_method_3_code
def yX1_habits : MethodName := ⟨RX1, "habits", "(ZIII)V"⟩
abbrev cX1_begin : ByteArray := prog_3_method_4_code
def yX1_begin : MethodName := ⟨RX1, "begin", "(II)V"⟩
abbrev cX1_meet : ByteArray := prog_3_method_5_code
def yX1_meet : MethodName := ⟨RX1, "meet", "(I)V"⟩
abbrev cX1_meetOnce : ByteArray := prog_3_method_6_code
def yX1_meetOnce : MethodName := ⟨RX1, "meetOnce", "()Z"⟩
abbrev cX1_inStand : ByteArray := prog_3_method_7_code
def yX1_inStand : MethodName := ⟨RX1, "inStand", "(II)J"⟩
abbrev cX1_allSaying : ByteArray := prog_3_method_8_code
def yX1_allSaying : MethodName := ⟨RX1, "allSaying", "(I)J"⟩
abbrev cX1_sayingWordZero : ByteArray := prog_3_method_9_code
def yX1_sayingWordZero : MethodName := ⟨RX1, "sayingWordZero", "()J"⟩
abbrev cX1_place : ByteArray := prog_3_method_10_code
def yX1_place : MethodName := ⟨RX1, "place", "(II)I"⟩
abbrev cX1_part : ByteArray := prog_3_method_11_code
def yX1_part : MethodName := ⟨RX1, "part", "(II)V"⟩
abbrev cX1_go : ByteArray := prog_3_method_12_code
def yX1_go : MethodName := ⟨RX1, "go", "(IIJ)V"⟩
def RX2 : String := "TradeWords$Item"
def TX2 : u_T := fun k => match k with
  | 0 => ("TradeWords$Item", "text", "LTradeWords$Text;", true)
  | 1 => ("TradeWords$Item", "numbers", "[I", true)
  | 2 => ("TradeWords$Item", "place", "I", false)
  | 3 => ("TradeWords$Item", "letter", "I", false)
  | 4 => ("TradeWords$Item", "word", "I", false)
  | _ => ("TradeWords$Item", "bits", "I", false)
def tyX2 : Nat → FieldType := fun k => match k with
  | 0 => .object "TradeWords$Text"
  | 1 => .array .int
  | 2 => .int
  | 3 => .int
  | 4 => .int
  | _ => .int
abbrev wsX20 : List Cond := u_ws RX2 TX2 6
theorem nmX2 : ∀ a, a < 6 → ∀ b, b < 6 → a ≠ b → (TX2 a).2.1 ≠ (TX2 b).2.1 := by decide +kernel
theorem tyX2_ok : ∀ k, k < 6 → parseFieldDescriptor (TX2 k).2.2.1 = some (tyX2 k) := by decide +kernel
abbrev cX2_init : ByteArray := prog_4_method_1_code
def yX2_init : MethodName := ⟨RX2, "<init>", "(LTradeWords$Text;)V"⟩
abbrev cX2_readAt : ByteArray := prog_4_method_2_code
def yX2_readAt : MethodName := ⟨RX2, "readAt", "(I)Z"⟩
abbrev cX2_letter : ByteArray := prog_4_method_3_code
def yX2_letter : MethodName := ⟨RX2, "letter", "()I"⟩
abbrev cX2_number : ByteArray := prog_4_method_4_code
def yX2_number : MethodName := ⟨RX2, "number", "(I)I"⟩
abbrev cX2_spelled : ByteArray := prog_4_method_5_code
def yX2_spelled : MethodName := ⟨RX2, "spelled", "()I"⟩
abbrev cX2_bits : ByteArray := prog_4_method_6_code
def yX2_bits : MethodName := ⟨RX2, "bits", "()I"⟩
abbrev cX2_behind : ByteArray := prog_4_method_7_code
def yX2_behind : MethodName := ⟨RX2, "behind", "()I"⟩
abbrev cX2_readTold : ByteArray := prog_4_method_8_code
def yX2_readTold : MethodName := ⟨RX2, "readTold", "()Z"⟩
abbrev cX2_readJoined : ByteArray := prog_4_method_9_code
def yX2_readJoined : MethodName := ⟨RX2, "readJoined", "()Z"⟩
abbrev cX2_passes : ByteArray := prog_4_method_10_code
def yX2_passes : MethodName := ⟨RX2, "passes", "(I)Z"⟩
abbrev cX2_readNumbers : ByteArray := prog_4_method_11_code
def yX2_readNumbers : MethodName := ⟨RX2, "readNumbers", "(II)Z"⟩
abbrev cX2_readNumber : ByteArray := prog_4_method_12_code
def yX2_readNumber : MethodName := ⟨RX2, "readNumber", "(III)Z"⟩
abbrev cX2_isFigure : ByteArray := prog_4_method_13_code
def yX2_isFigure : MethodName := ⟨RX2, "isFigure", "(I)Z"⟩
abbrev cX2_readWord : ByteArray := prog_4_method_14_code
def yX2_readWord : MethodName := ⟨RX2, "readWord", "()Z"⟩
abbrev cX2_readRising : ByteArray := prog_4_method_15_code
def yX2_readRising : MethodName := ⟨RX2, "readRising", "(II)Z"⟩
def RX3 : String := "TradeWords$Measure"
def TX3 : u_T := fun k => match k with
  | _ => ("TradeWords$Measure", "row", "[I", true)
def tyX3 : Nat → FieldType := fun k => match k with
  | _ => .array .int
abbrev wsX30 : List Cond := u_ws RX3 TX3 1
theorem nmX3 : ∀ a, a < 1 → ∀ b, b < 1 → a ≠ b → (TX3 a).2.1 ≠ (TX3 b).2.1 := by decide +kernel
theorem tyX3_ok : ∀ k, k < 1 → parseFieldDescriptor (TX3 k).2.2.1 = some (tyX3 k) := by decide +kernel
abbrev cX3_init : ByteArray := prog_5_method_1_code
def yX3_init : MethodName := ⟨RX3, "<init>", "()V"⟩
abbrev cX3_apart : ByteArray := prog_5_method_2_code
def yX3_apart : MethodName := ⟨RX3, "apart", "(II)I"⟩
abbrev cX3_likeness : ByteArray := prog_5_method_3_code
def yX3_likeness : MethodName := ⟨RX3, "likeness", "(II)I"⟩
def RX4 : String := "TradeWords$Needs"
def TX4 : u_T := fun k => match k with
  | 0 => ("TradeWords$Needs", "joinedMeaning", "[I", true)
  | 1 => ("TradeWords$Needs", "joinedPair", "[I", true)
  | 2 => ("TradeWords$Needs", "joinedTold", "I", false)
  | 3 => ("TradeWords$Needs", "needsTold", "I", false)
  | _ => ("TradeWords$Needs", "needed", "I", false)
def tyX4 : Nat → FieldType := fun k => match k with
  | 0 => .array .int
  | 1 => .array .int
  | 2 => .int
  | 3 => .int
  | _ => .int
abbrev wsX40 : List Cond := u_ws RX4 TX4 5
theorem nmX4 : ∀ a, a < 5 → ∀ b, b < 5 → a ≠ b → (TX4 a).2.1 ≠ (TX4 b).2.1 := by decide +kernel
theorem tyX4_ok : ∀ k, k < 5 → parseFieldDescriptor (TX4 k).2.2.1 = some (tyX4 k) := by decide +kernel
abbrev cX4_init : ByteArray := prog_6_method_1_code
def yX4_init : MethodName := ⟨RX4, "<init>", "()V"⟩
abbrev cX4_clear : ByteArray := prog_6_method_2_code
def yX4_clear : MethodName := ⟨RX4, "clear", "()V"⟩
abbrev cX4_tellJoined : ByteArray := prog_6_method_3_code
def yX4_tellJoined : MethodName := ⟨RX4, "tellJoined", "(II)Z"⟩
abbrev cX4_tellNeed : ByteArray := prog_6_method_4_code
def yX4_tellNeed : MethodName := ⟨RX4, "tellNeed", "(I)Z"⟩
abbrev cX4_needsTold : ByteArray := prog_6_method_5_code
def yX4_needsTold : MethodName := ⟨RX4, "needsTold", "()I"⟩
abbrev cX4_joinedTold : ByteArray := prog_6_method_6_code
def yX4_joinedTold : MethodName := ⟨RX4, "joinedTold", "()I"⟩
abbrev cX4_sayableBy : ByteArray := prog_6_method_7_code
def yX4_sayableBy : MethodName := ⟨RX4, "sayableBy", "(I)I"⟩
abbrev cX4_leastSet : ByteArray := prog_6_method_8_code
def yX4_leastSet : MethodName := ⟨RX4, "leastSet", "()I"⟩
def RX5 : String := "TradeWords$Row"
def TX5 : u_T := fun k => match k with
  | _ => ("", "", "", false)
def tyX5 : Nat → FieldType := fun k => match k with
  | _ => .int
abbrev wsX50 : List Cond := u_ws RX5 TX5 0
theorem nmX5 : ∀ a, a < 0 → ∀ b, b < 0 → a ≠ b → (TX5 a).2.1 ≠ (TX5 b).2.1 := by decide +kernel
theorem tyX5_ok : ∀ k, k < 0 → parseFieldDescriptor (TX5 k).2.2.1 = some (tyX5 k) := by decide +kernel
abbrev cX5_at : ByteArray := prog_7_method_2_code
def yX5_at : MethodName := ⟨RX5, "at", "([II)I"⟩
abbrev cX5_put : ByteArray := prog_7_method_3_code
def yX5_put : MethodName := ⟨RX5, "put", "([III)V"⟩
abbrev cX5_at_ : ByteArray := prog_7_method_4_code
def yX5_at_ : MethodName := ⟨RX5, "at", "([JI)J"⟩
abbrev cX5_add : ByteArray := prog_7_method_5_code
def yX5_add : MethodName := ⟨RX5, "add", "([JIJ)V"⟩
def RX6 : String := "TradeWords$Stands"
def TX6 : u_T := fun k => match k with
  | 0 => ("TradeWords$Stands", "others", "[I", true)
  | 1 => ("TradeWords$Stands", "keptOthers", "[I", true)
  | _ => ("TradeWords$Stands", "kept", "I", false)
def tyX6 : Nat → FieldType := fun k => match k with
  | 0 => .array .int
  | 1 => .array .int
  | _ => .int
abbrev wsX60 : List Cond := u_ws RX6 TX6 3
theorem nmX6 : ∀ a, a < 3 → ∀ b, b < 3 → a ≠ b → (TX6 a).2.1 ≠ (TX6 b).2.1 := by decide +kernel
theorem tyX6_ok : ∀ k, k < 3 → parseFieldDescriptor (TX6 k).2.2.1 = some (tyX6 k) := by decide +kernel
abbrev cX6_init : ByteArray := prog_8_method_1_code
def yX6_init : MethodName := ⟨RX6, "<init>", "()V"⟩
abbrev cX6_clear : ByteArray := prog_8_method_2_code
def yX6_clear : MethodName := ⟨RX6, "clear", "()V"⟩
abbrev cX6_of : ByteArray := prog_8_method_3_code
def yX6_of : MethodName := ⟨RX6, "of", "(II)I"⟩
abbrev cX6_put : ByteArray := prog_8_method_4_code
def yX6_put : MethodName := ⟨RX6, "put", "(III)V"⟩
abbrev cX6_change : ByteArray := prog_8_method_5_code
def yX6_change : MethodName := ⟨RX6, "change", "(III)V"⟩
abbrev cX6_kept : ByteArray := prog_8_method_6_code
def yX6_kept : MethodName := ⟨RX6, "kept", "()I"⟩
abbrev cX6_push : ByteArray := prog_8_method_7_code
def yX6_push : MethodName := ⟨RX6, "push", "()Z"⟩
abbrev cX6_pop : ByteArray := prog_8_method_8_code
def yX6_pop : MethodName := ⟨RX6, "pop", "()Z"⟩
def RX7 : String := "TradeWords$Text"
def TX7 : u_T := fun k => match k with
  | 0 => ("TradeWords$Text", "bytes", "[B", true)
  | _ => ("TradeWords$Text", "length", "I", false)
def tyX7 : Nat → FieldType := fun k => match k with
  | 0 => .array .byte
  | _ => .int
abbrev wsX70 : List Cond := u_ws RX7 TX7 2
theorem nmX7 : ∀ a, a < 2 → ∀ b, b < 2 → a ≠ b → (TX7 a).2.1 ≠ (TX7 b).2.1 := by decide +kernel
theorem tyX7_ok : ∀ k, k < 2 → parseFieldDescriptor (TX7 k).2.2.1 = some (tyX7 k) := by decide +kernel
abbrev cX7_init : ByteArray := prog_9_method_1_code
def yX7_init : MethodName := ⟨RX7, "<init>", "()V"⟩
abbrev cX7_length : ByteArray := prog_9_method_2_code
def yX7_length : MethodName := ⟨RX7, "length", "()I"⟩
abbrev cX7_clear : ByteArray := prog_9_method_3_code
def yX7_clear : MethodName := ⟨RX7, "clear", "()V"⟩
abbrev cX7_append : ByteArray := prog_9_method_4_code
def yX7_append : MethodName := ⟨RX7, "append", "(I)V"⟩
abbrev cX7_at : ByteArray := prog_9_method_5_code
def yX7_at : MethodName := ⟨RX7, "at", "(I)I"⟩
def RX8 : String := "TradeWords$Word"
def TX8 : u_T := fun k => match k with
  | _ => ("", "", "", false)
def tyX8 : Nat → FieldType := fun k => match k with
  | _ => .int
abbrev wsX80 : List Cond := u_ws RX8 TX8 0
theorem nmX8 : ∀ a, a < 0 → ∀ b, b < 0 → a ≠ b → (TX8 a).2.1 ≠ (TX8 b).2.1 := by decide +kernel
theorem tyX8_ok : ∀ k, k < 0 → parseFieldDescriptor (TX8 k).2.2.1 = some (tyX8 k) := by decide +kernel
abbrev cX8_length : ByteArray := prog_10_method_2_code
def yX8_length : MethodName := ⟨RX8, "length", "(I)I"⟩
abbrev cX8_soundAt : ByteArray := prog_10_method_3_code
def yX8_soundAt : MethodName := ⟨RX8, "soundAt", "(II)I"⟩
abbrev cX8_with : ByteArray := prog_10_method_4_code
def yX8_with : MethodName := ⟨RX8, "with", "(II)I"⟩
def RX9 : String := "TradeWords"
def TX9 : u_T := fun k => match k with
  | 0 => ("TradeWords", "text", "LTradeWords$Text;", true)
  | 1 => ("TradeWords", "item", "LTradeWords$Item;", true)
  | 2 => ("TradeWords", "stands", "LTradeWords$Stands;", true)
  | 3 => ("TradeWords", "crowd", "LTradeWords$Crowd;", true)
  | 4 => ("TradeWords", "measure", "LTradeWords$Measure;", true)
  | 5 => ("TradeWords", "laid", "LTradeWords$Beach;", false)
  | _ => ("TradeWords", "tried", "LTradeWords$Beach;", false)
def tyX9 : Nat → FieldType := fun k => match k with
  | 0 => .object "TradeWords$Text"
  | 1 => .object "TradeWords$Item"
  | 2 => .object "TradeWords$Stands"
  | 3 => .object "TradeWords$Crowd"
  | 4 => .object "TradeWords$Measure"
  | 5 => .object "TradeWords$Beach"
  | _ => .object "TradeWords$Beach"
abbrev wsX90 : List Cond := u_ws RX9 TX9 7
theorem nmX9 : ∀ a, a < 7 → ∀ b, b < 7 → a ≠ b → (TX9 a).2.1 ≠ (TX9 b).2.1 := by decide +kernel
theorem tyX9_ok : ∀ k, k < 7 → parseFieldDescriptor (TX9 k).2.2.1 = some (tyX9 k) := by decide +kernel
abbrev cX9_init : ByteArray := prog_1_method_1_code
def yX9_init : MethodName := ⟨RX9, "<init>", "()V"⟩
abbrev cX9_write : ByteArray := prog_1_method_2_code
def yX9_write : MethodName := ⟨RX9, "write", "(IJ)I"⟩
abbrev cX9_wipe : ByteArray := prog_1_method_3_code
def yX9_wipe : MethodName := ⟨RX9, "wipe", "()I"⟩
abbrev cX9_fault : ByteArray := prog_1_method_4_code
def yX9_fault : MethodName := ⟨RX9, "fault", "()I"⟩
abbrev cX9_lay : ByteArray := prog_1_method_5_code
def yX9_lay : MethodName := ⟨RX9, "lay", "()I"⟩
abbrev cX9_word : ByteArray := prog_1_method_6_code
def yX9_word : MethodName := ⟨RX9, "word", "(IIII)I"⟩
abbrev cX9_far : ByteArray := prog_1_method_7_code
def yX9_far : MethodName := ⟨RX9, "far", "(IIII)I"⟩
abbrev cX9_like : ByteArray := prog_1_method_8_code
def yX9_like : MethodName := ⟨RX9, "like", "(I)I"⟩
abbrev cX9_stand : ByteArray := prog_1_method_9_code
def yX9_stand : MethodName := ⟨RX9, "stand", "(II)I"⟩
abbrev cX9_set : ByteArray := prog_1_method_10_code
def yX9_set : MethodName := ⟨RX9, "set", "(III)I"⟩
abbrev cX9_million : ByteArray := prog_1_method_11_code
def yX9_million : MethodName := ⟨RX9, "million", "(IIII)I"⟩
abbrev cX9_won : ByteArray := prog_1_method_12_code
def yX9_won : MethodName := ⟨RX9, "won", "(III)I"⟩
abbrev cX9_soon : ByteArray := prog_1_method_13_code
def yX9_soon : MethodName := ⟨RX9, "soon", "(II)I"⟩
abbrev cX9_use : ByteArray := prog_1_method_14_code
def yX9_use : MethodName := ⟨RX9, "use", "(II)I"⟩
abbrev cX9_traders : ByteArray := prog_1_method_15_code
def yX9_traders : MethodName := ⟨RX9, "traders", "(IIII)I"⟩
abbrev cX9_ready : ByteArray := prog_1_method_16_code
def yX9_ready : MethodName := ⟨RX9, "ready", "(IIII)I"⟩
abbrev cX9_summer : ByteArray := prog_1_method_17_code
def yX9_summer : MethodName := ⟨RX9, "summer", "(II)I"⟩
abbrev cX9_tongue : ByteArray := prog_1_method_18_code
def yX9_tongue : MethodName := ⟨RX9, "tongue", "(I)I"⟩
abbrev cX9_from : ByteArray := prog_1_method_19_code
def yX9_from : MethodName := ⟨RX9, "from", "(II)I"⟩
abbrev cX9_chance : ByteArray := prog_1_method_20_code
def yX9_chance : MethodName := ⟨RX9, "chance", "(III)I"⟩
abbrev cX9_joined : ByteArray := prog_1_method_21_code
def yX9_joined : MethodName := ⟨RX9, "joined", "(I)I"⟩
abbrev cX9_children : ByteArray := prog_1_method_22_code
def yX9_children : MethodName := ⟨RX9, "children", "(III)I"⟩
abbrev cX9_even : ByteArray := prog_1_method_23_code
def yX9_even : MethodName := ⟨RX9, "even", "(II)I"⟩
abbrev cX9_fewest : ByteArray := prog_1_method_24_code
def yX9_fewest : MethodName := ⟨RX9, "fewest", "(I)I"⟩
abbrev cX9_both : ByteArray := prog_1_method_25_code
def yX9_both : MethodName := ⟨RX9, "both", "()I"⟩
abbrev cX9_lost : ByteArray := prog_1_method_26_code
def yX9_lost : MethodName := ⟨RX9, "lost", "(I)I"⟩
abbrev cX9_keep : ByteArray := prog_1_method_27_code
def yX9_keep : MethodName := ⟨RX9, "keep", "()I"⟩
abbrev cX9_back : ByteArray := prog_1_method_28_code
def yX9_back : MethodName := ⟨RX9, "back", "()I"⟩
abbrev cX9_count : ByteArray := prog_1_method_29_code
def yX9_count : MethodName := ⟨RX9, "count", "(I)I"⟩
abbrev cX9_isPeople : ByteArray := prog_1_method_30_code
def yX9_isPeople : MethodName := ⟨RX9, "isPeople", "(I)Z"⟩
abbrev cX9_isMeaning : ByteArray := prog_1_method_31_code
def yX9_isMeaning : MethodName := ⟨RX9, "isMeaning", "(I)Z"⟩
abbrev cX9_isEar : ByteArray := prog_1_method_32_code
def yX9_isEar : MethodName := ⟨RX9, "isEar", "(I)Z"⟩
abbrev cX9_isMeetings : ByteArray := prog_1_method_33_code
def yX9_isMeetings : MethodName := ⟨RX9, "isMeetings", "(I)Z"⟩
abbrev cX9_isHundredths : ByteArray := prog_1_method_34_code
def yX9_isHundredths : MethodName := ⟨RX9, "isHundredths", "(I)Z"⟩
abbrev cX9_isOfThousand : ByteArray := prog_1_method_35_code
def yX9_isOfThousand : MethodName := ⟨RX9, "isOfThousand", "(I)Z"⟩
abbrev cX9_isBent : ByteArray := prog_1_method_36_code
def yX9_isBent : MethodName := ⟨RX9, "isBent", "(I)Z"⟩
abbrev cX9_isStand : ByteArray := prog_1_method_37_code
def yX9_isStand : MethodName := ⟨RX9, "isStand", "(II)Z"⟩
abbrev cX9_tryText : ByteArray := prog_1_method_38_code
def yX9_tryText : MethodName := ⟨RX9, "tryText", "()I"⟩
abbrev cX9_toldMeanings : ByteArray := prog_1_method_39_code
def yX9_toldMeanings : MethodName := ⟨RX9, "toldMeanings", "()I"⟩
abbrev cX9_likeOfMeaning : ByteArray := prog_1_method_40_code
def yX9_likeOfMeaning : MethodName := ⟨RX9, "likeOfMeaning", "(I)I"⟩
abbrev cX9_isAlike : ByteArray := prog_1_method_41_code
def yX9_isAlike : MethodName := ⟨RX9, "isAlike", "(I)Z"⟩
abbrev cX9_startCrowdAsNow : ByteArray := prog_1_method_42_code
def yX9_startCrowdAsNow : MethodName := ⟨RX9, "startCrowdAsNow", "(I)V"⟩
abbrev cX9_draw : ByteArray := prog_1_method_43_code
def yX9_draw : MethodName := ⟨RX9, "draw", "(IIII)I"⟩
abbrev cX9_meetByDraw : ByteArray := prog_1_method_44_code
def yX9_meetByDraw : MethodName := ⟨RX9, "meetByDraw", "(III)V"⟩
abbrev cX9_saysOther : ByteArray := prog_1_method_45_code
def yX9_saysOther : MethodName := ⟨RX9, "saysOther", "(III)Z"⟩
abbrev cX9_tongueBits : ByteArray := prog_1_method_46_code
def yX9_tongueBits : MethodName := ⟨RX9, "tongueBits", "(I)I"⟩
abbrev cX9_likeOfWordThere : ByteArray := prog_1_method_47_code
def yX9_likeOfWordThere : MethodName := ⟨RX9, "likeOfWordThere", "(II)I"⟩
abbrev cX9_apartFromOtherEars : ByteArray := prog_1_method_48_code
def yX9_apartFromOtherEars : MethodName := ⟨RX9, "apartFromOtherEars", "(II)I"⟩
abbrev cX9_nextGeneration : ByteArray := prog_1_method_49_code
def yX9_nextGeneration : MethodName := ⟨RX9, "nextGeneration", "(II)I"⟩
def RX10 : String := "TradeWordsModel"
def TX10 : u_T := fun k => match k with
  | 0 => ("TradeWordsModel", "text", "[I", true)
  | 1 => ("TradeWordsModel", "size", "I", false)
  | 2 => ("TradeWordsModel", "at", "I", false)
  | 3 => ("TradeWordsModel", "read", "[I", true)
  | 4 => ("TradeWordsModel", "l", "[I", true)
  | 5 => ("TradeWordsModel", "stands", "[I", true)
  | 6 => ("TradeWordsModel", "kept", "[I", true)
  | 7 => ("TradeWordsModel", "keptMany", "I", false)
  | 8 => ("TradeWordsModel", "one", "[I", true)
  | 9 => ("TradeWordsModel", "two", "[I", true)
  | 10 => ("TradeWordsModel", "ways", "[I", true)
  | 11 => ("TradeWordsModel", "now", "[J", true)
  | _ => ("TradeWordsModel", "then", "[J", true)
def tyX10 : Nat → FieldType := fun k => match k with
  | 0 => .array .int
  | 1 => .int
  | 2 => .int
  | 3 => .array .int
  | 4 => .array .int
  | 5 => .array .int
  | 6 => .array .int
  | 7 => .int
  | 8 => .array .int
  | 9 => .array .int
  | 10 => .array .int
  | 11 => .array .long
  | _ => .array .long
abbrev wsX100 : List Cond := u_ws RX10 TX10 13
theorem nmX10 : ∀ a, a < 13 → ∀ b, b < 13 → a ≠ b → (TX10 a).2.1 ≠ (TX10 b).2.1 := by decide +kernel
theorem tyX10_ok : ∀ k, k < 13 → parseFieldDescriptor (TX10 k).2.2.1 = some (tyX10 k) := by decide +kernel
abbrev cX10_in : ByteArray := prog_12_method_1_code
def yX10_in : MethodName := ⟨RX10, "in", "(JJJ)Z"⟩
abbrev cX10_has : ByteArray := prog_12_method_2_code
def yX10_has : MethodName := ⟨RX10, "has", "(II)Z"⟩
abbrev cX10_init : ByteArray := prog_12_method_3_code
def yX10_init : MethodName := ⟨RX10, "<init>", "()V"⟩
abbrev cX10_write : ByteArray := prog_12_method_4_code
def yX10_write : MethodName := ⟨RX10, "write", "(IJ)I"⟩
abbrev cX10_wipe : ByteArray := prog_12_method_5_code
def yX10_wipe : MethodName := ⟨RX10, "wipe", "()I"⟩
abbrev cX10_begin : ByteArray := prog_12_method_6_code
def yX10_begin : MethodName := ⟨RX10, "begin", "()V"⟩
abbrev cX10_layRead : ByteArray := prog_12_method_7_code
def yX10_layRead : MethodName := ⟨RX10, "layRead", "()V"⟩
abbrev cX10_byteAt : ByteArray := prog_12_method_8_code
def yX10_byteAt : MethodName := ⟨RX10, "byteAt", "()I"⟩
abbrev cX10_takes : ByteArray := prog_12_method_9_code
def yX10_takes : MethodName := ⟨RX10, "takes", "(I)Z"⟩
abbrev cX10_number : ByteArray := prog_12_method_10_code
def yX10_number : MethodName := ⟨RX10, "number", "(II)I"⟩
abbrev cX10_sound : ByteArray := prog_12_method_11_code
def yX10_sound : MethodName := ⟨RX10, "sound", "()I"⟩
abbrev cX10_word : ByteArray := prog_12_method_12_code
def yX10_word : MethodName := ⟨RX10, "word", "(I)Z"⟩
abbrev cX10_wordItem : ByteArray := prog_12_method_13_code
def yX10_wordItem : MethodName := ⟨RX10, "wordItem", "(II)Z"⟩
abbrev cX10_soundsItem : ByteArray := prog_12_method_14_code
def yX10_soundsItem : MethodName := ⟨RX10, "soundsItem", "()Z"⟩
abbrev cX10_placeItem : ByteArray := prog_12_method_15_code
def yX10_placeItem : MethodName := ⟨RX10, "placeItem", "()Z"⟩
abbrev cX10_pairItem : ByteArray := prog_12_method_16_code
def yX10_pairItem : MethodName := ⟨RX10, "pairItem", "(III)Z"⟩
abbrev cX10_oneItem : ByteArray := prog_12_method_17_code
def yX10_oneItem : MethodName := ⟨RX10, "oneItem", "(III)Z"⟩
abbrev cX10_joinItem : ByteArray := prog_12_method_18_code
def yX10_joinItem : MethodName := ⟨RX10, "joinItem", "()Z"⟩
abbrev cX10_needItem : ByteArray := prog_12_method_19_code
def yX10_needItem : MethodName := ⟨RX10, "needItem", "()Z"⟩
abbrev cX10_item : ByteArray := prog_12_method_20_code
def yX10_item : MethodName := ⟨RX10, "item", "()Z"⟩
abbrev cX10_fault : ByteArray := prog_12_method_21_code
def yX10_fault : MethodName := ⟨RX10, "fault", "()I"⟩
abbrev cX10_lay : ByteArray := prog_12_method_22_code
def yX10_lay : MethodName := ⟨RX10, "lay", "()I"⟩
abbrev cX10_ones : ByteArray := prog_12_method_23_code
def yX10_ones : MethodName := ⟨RX10, "ones", "(I)I"⟩
abbrev cX10_wordAt : ByteArray := prog_12_method_24_code
def yX10_wordAt : MethodName := ⟨RX10, "wordAt", "(II)I"⟩
abbrev cX10_earAt : ByteArray := prog_12_method_25_code
def yX10_earAt : MethodName := ⟨RX10, "earAt", "(II)I"⟩
abbrev cX10_isTold : ByteArray := prog_12_method_26_code
def yX10_isTold : MethodName := ⟨RX10, "isTold", "(I)Z"⟩
abbrev cX10_toldSet : ByteArray := prog_12_method_27_code
def yX10_toldSet : MethodName := ⟨RX10, "toldSet", "()I"⟩
abbrev cX10_isMeaning : ByteArray := prog_12_method_28_code
def yX10_isMeaning : MethodName := ⟨RX10, "isMeaning", "(I)Z"⟩
abbrev cX10_said : ByteArray := prog_12_method_29_code
def yX10_said : MethodName := ⟨RX10, "said", "(II)I"⟩
abbrev cX10_say : ByteArray := prog_12_method_30_code
def yX10_say : MethodName := ⟨RX10, "say", "(II[I)V"⟩
abbrev cX10_least : ByteArray := prog_12_method_31_code
def yX10_least : MethodName := ⟨RX10, "least", "(II)I"⟩
abbrev cX10_farOf : ByteArray := prog_12_method_32_code
def yX10_farOf : MethodName := ⟨RX10, "farOf", "()I"⟩
abbrev cX10_likeOf : ByteArray := prog_12_method_33_code
def yX10_likeOf : MethodName := ⟨RX10, "likeOf", "()I"⟩
abbrev cX10_likeFor : ByteArray := prog_12_method_34_code
def yX10_likeFor : MethodName := ⟨RX10, "likeFor", "(I)I"⟩
abbrev cX10_isAlike : ByteArray := prog_12_method_35_code
def yX10_isAlike : MethodName := ⟨RX10, "isAlike", "(I)Z"⟩
abbrev cX10_word_ : ByteArray := prog_12_method_36_code
def yX10_word_ : MethodName := ⟨RX10, "word", "(IIII)I"⟩
abbrev cX10_far : ByteArray := prog_12_method_37_code
def yX10_far : MethodName := ⟨RX10, "far", "(IIII)I"⟩
abbrev cX10_like : ByteArray := prog_12_method_38_code
def yX10_like : MethodName := ⟨RX10, "like", "(I)I"⟩
abbrev cX10_beginAt : ByteArray := prog_12_method_39_code
def yX10_beginAt : MethodName := ⟨RX10, "beginAt", "(II)V"⟩
abbrev cX10_meet : ByteArray := prog_12_method_40_code
def yX10_meet : MethodName := ⟨RX10, "meet", "(IIII)V"⟩
abbrev cX10_goOn : ByteArray := prog_12_method_41_code
def yX10_goOn : MethodName := ⟨RX10, "goOn", "(IIIIII)V"⟩
abbrev cX10_goAsTold : ByteArray := prog_12_method_42_code
def yX10_goAsTold : MethodName := ⟨RX10, "goAsTold", "(II)V"⟩
abbrev cX10_wonBy : ByteArray := prog_12_method_43_code
def yX10_wonBy : MethodName := ⟨RX10, "wonBy", "(III)J"⟩
abbrev cX10_stand : ByteArray := prog_12_method_44_code
def yX10_stand : MethodName := ⟨RX10, "stand", "(II)I"⟩
abbrev cX10_isStand : ByteArray := prog_12_method_45_code
def yX10_isStand : MethodName := ⟨RX10, "isStand", "(II)Z"⟩
abbrev cX10_set : ByteArray := prog_12_method_46_code
def yX10_set : MethodName := ⟨RX10, "set", "(III)I"⟩
abbrev cX10_million : ByteArray := prog_12_method_47_code
def yX10_million : MethodName := ⟨RX10, "million", "(IIII)I"⟩
abbrev cX10_won : ByteArray := prog_12_method_48_code
def yX10_won : MethodName := ⟨RX10, "won", "(III)I"⟩
abbrev cX10_isEnough : ByteArray := prog_12_method_49_code
def yX10_isEnough : MethodName := ⟨RX10, "isEnough", "(JI)Z"⟩
abbrev cX10_soon : ByteArray := prog_12_method_50_code
def yX10_soon : MethodName := ⟨RX10, "soon", "(II)I"⟩
abbrev cX10_use : ByteArray := prog_12_method_51_code
def yX10_use : MethodName := ⟨RX10, "use", "(II)I"⟩
abbrev cX10_traders : ByteArray := prog_12_method_52_code
def yX10_traders : MethodName := ⟨RX10, "traders", "(IIII)I"⟩
abbrev cX10_ready : ByteArray := prog_12_method_53_code
def yX10_ready : MethodName := ⟨RX10, "ready", "(IIII)I"⟩
abbrev cX10_draw : ByteArray := prog_12_method_54_code
def yX10_draw : MethodName := ⟨RX10, "draw", "(IIII)I"⟩
abbrev cX10_meetBy : ByteArray := prog_12_method_55_code
def yX10_meetBy : MethodName := ⟨RX10, "meetBy", "(III)V"⟩
abbrev cX10_tongueBy : ByteArray := prog_12_method_56_code
def yX10_tongueBy : MethodName := ⟨RX10, "tongueBy", "(I)I"⟩
abbrev cX10_summer : ByteArray := prog_12_method_57_code
def yX10_summer : MethodName := ⟨RX10, "summer", "(II)I"⟩
abbrev cX10_tongue : ByteArray := prog_12_method_58_code
def yX10_tongue : MethodName := ⟨RX10, "tongue", "(I)I"⟩
abbrev cX10_from : ByteArray := prog_12_method_59_code
def yX10_from : MethodName := ⟨RX10, "from", "(II)I"⟩
abbrev cX10_chance : ByteArray := prog_12_method_60_code
def yX10_chance : MethodName := ⟨RX10, "chance", "(III)I"⟩
abbrev cX10_joined : ByteArray := prog_12_method_61_code
def yX10_joined : MethodName := ⟨RX10, "joined", "(I)I"⟩
abbrev cX10_hear : ByteArray := prog_12_method_62_code
def yX10_hear : MethodName := ⟨RX10, "hear", "(II)I"⟩
abbrev cX10_children : ByteArray := prog_12_method_63_code
def yX10_children : MethodName := ⟨RX10, "children", "(III)I"⟩
abbrev cX10_even : ByteArray := prog_12_method_64_code
def yX10_even : MethodName := ⟨RX10, "even", "(II)I"⟩
abbrev cX10_canSay : ByteArray := prog_12_method_65_code
def yX10_canSay : MethodName := ⟨RX10, "canSay", "(II)Z"⟩
abbrev cX10_isEnoughFor : ByteArray := prog_12_method_66_code
def yX10_isEnoughFor : MethodName := ⟨RX10, "isEnoughFor", "(I)Z"⟩
abbrev cX10_fewest : ByteArray := prog_12_method_67_code
def yX10_fewest : MethodName := ⟨RX10, "fewest", "(I)I"⟩
abbrev cX10_both : ByteArray := prog_12_method_68_code
def yX10_both : MethodName := ⟨RX10, "both", "()I"⟩
abbrev cX10_lost : ByteArray := prog_12_method_69_code
def yX10_lost : MethodName := ⟨RX10, "lost", "(I)I"⟩
abbrev cX10_keep : ByteArray := prog_12_method_70_code
def yX10_keep : MethodName := ⟨RX10, "keep", "()I"⟩
abbrev cX10_back : ByteArray := prog_12_method_71_code
def yX10_back : MethodName := ⟨RX10, "back", "()I"⟩
abbrev cX10_count : ByteArray := prog_12_method_72_code
def yX10_count : MethodName := ⟨RX10, "count", "(I)I"⟩
def RJ6 : String := "java/lang/Integer"
def TJ6 : u_T := fun k => match k with
  | _ => ("", "", "", false)
def tyJ6 : Nat → FieldType := fun k => match k with
  | _ => .int
abbrev wsJ60 : List Cond := u_ws RJ6 TJ6 0
theorem nmJ6 : ∀ a, a < 0 → ∀ b, b < 0 → a ≠ b → (TJ6 a).2.1 ≠ (TJ6 b).2.1 := by decide +kernel
theorem tyJ6_ok : ∀ k, k < 0 → parseFieldDescriptor (TJ6 k).2.2.1 = some (tyJ6 k) := by decide +kernel
abbrev cJ6_bitCount_0f7a4 : ByteArray := prog_13_method_49_code
def yJ6_bitCount_0f7a4 : MethodName := ⟨RJ6, "bitCount", "(I)I"⟩
def RJ9 : String := "java/lang/Math"
def TJ9 : u_T := fun k => match k with
  | _ => ("", "", "", false)
def tyJ9 : Nat → FieldType := fun k => match k with
  | _ => .int
abbrev wsJ90 : List Cond := u_ws RJ9 TJ9 0
theorem nmJ9 : ∀ a, a < 0 → ∀ b, b < 0 → a ≠ b → (TJ9 a).2.1 ≠ (TJ9 b).2.1 := by decide +kernel
theorem tyJ9_ok : ∀ k, k < 0 → parseFieldDescriptor (TJ9 k).2.2.1 = some (tyJ9 k) := by decide +kernel
abbrev cJ9_max_7cf53 : ByteArray := prog_14_method_65_code
def yJ9_max_7cf53 : MethodName := ⟨RJ9, "max", "(II)I"⟩
abbrev cJ9_min_7cf53 : ByteArray := prog_14_method_69_code
def yJ9_min_7cf53 : MethodName := ⟨RJ9, "min", "(II)I"⟩
def RJ10 : String := "java/lang/System"
def TJ10 : u_T := fun k => match k with
  | _ => ("", "", "", false)
def tyJ10 : Nat → FieldType := fun k => match k with
  | _ => .int
abbrev wsJ100 : List Cond := u_ws RJ10 TJ10 0
theorem nmJ10 : ∀ a, a < 0 → ∀ b, b < 0 → a ≠ b → (TJ10 a).2.1 ≠ (TJ10 b).2.1 := by decide +kernel
theorem tyJ10_ok : ∀ k, k < 0 → parseFieldDescriptor (TJ10 k).2.2.1 = some (tyJ10 k) := by decide +kernel
def RJ7 : String := "java/util/Arrays"
def TJ7 : u_T := fun k => match k with
  | _ => ("", "", "", false)
def tyJ7 : Nat → FieldType := fun k => match k with
  | _ => .int
abbrev wsJ70 : List Cond := u_ws RJ7 TJ7 0
theorem nmJ7 : ∀ a, a < 0 → ∀ b, b < 0 → a ≠ b → (TJ7 a).2.1 ≠ (TJ7 b).2.1 := by decide +kernel
theorem tyJ7_ok : ∀ k, k < 0 → parseFieldDescriptor (TJ7 k).2.2.1 = some (tyJ7 k) := by decide +kernel
abbrev cJ7_fill_d0a16 : ByteArray := prog_16_method_101_code
def yJ7_fill_d0a16 : MethodName := ⟨RJ7, "fill", "([JJ)V"⟩
abbrev cJ7_fill_53178 : ByteArray := prog_16_method_103_code
def yJ7_fill_53178 : MethodName := ⟨RJ7, "fill", "([II)V"⟩
def RL : String := "TradeWordsLaw"
abbrev cL_law : ByteArray := code
def yL_law : MethodName := ⟨RL, "law", "([I)Z"⟩
def wsX4_init : List Cond := .code yX4_init cX4_init 1 none :: ([.methodLink RX4 3 objectInit, .instanceMethod objectInit, .code objectInit ⟨#[0xb1]⟩ 1 none, .arrayClass .int, .fieldLink RX4 9 "TradeWords$Needs" "joinedMeaning" "[I", .fieldLink RX4 15 "TradeWords$Needs" "joinedPair" "[I"] ++ wsX40)
def wsJ7_fill_53178 : List Cond := .code yJ7_fill_53178 cJ7_fill_53178 4 none :: ([])
def wsX4_clear : List Cond := .code yX4_clear cX4_clear 1 none :: ([.fieldLink RX4 18 "TradeWords$Needs" "joinedTold" "I", .fieldLink RX4 22 "TradeWords$Needs" "needsTold" "I", .fieldLink RX4 25 "TradeWords$Needs" "needed" "I"] ++ wsX40)
def wsX0_clear : List Cond := .code yX0_clear cX0_clear 1 none :: ([.fieldLink RX0 9 "TradeWords$Beach" "words" "[I", .fieldLink RX0 15 "TradeWords$Beach" "heard" "[I", .fieldLink RX0 18 "TradeWords$Beach" "canSay" "[I", .constant RX0 48 (65535), .fieldLink RX0 21 "TradeWords$Beach" "instead" "[I", .fieldLink RX0 24 "TradeWords$Beach" "traders" "[I", .fieldLink RX0 27 "TradeWords$Beach" "takes" "[I", .fieldLink RX0 33 "TradeWords$Beach" "needs" "LTradeWords$Needs;", .fieldLink RX0 50 "TradeWords$Beach" "speaks" "I", .fieldLink RX0 54 "TradeWords$Beach" "alikeFrom" "I", .methodLink RX0 42 yJ7_fill_53178, .static yJ7_fill_53178, .initialized RJ7, .code yJ7_fill_53178 cJ7_fill_53178 4 none, .methodLink RX0 49 yX4_clear, .instanceMethod yX4_clear, .selects RX4 yX4_clear yX4_clear, .initialized RX4, .code yX4_clear cX4_clear 1 none, .fieldLink RX4 18 "TradeWords$Needs" "joinedTold" "I", .fieldLink RX4 22 "TradeWords$Needs" "needsTold" "I", .fieldLink RX4 25 "TradeWords$Needs" "needed" "I"] ++ wsX00 ++ wsX40)
def wsX0_init_r1 : List Cond := [Cond.methodLink RX0 3 objectInit, Cond.instanceMethod objectInit, Cond.code objectInit ⟨#[0xb1]⟩ 1 none, Cond.arrayClass .int, Cond.fieldLink RX0 9 "TradeWords$Beach" "words" "[I", Cond.fieldLink RX0 15 "TradeWords$Beach" "heard" "[I", Cond.fieldLink RX0 18 "TradeWords$Beach" "canSay" "[I", Cond.fieldLink RX0 21 "TradeWords$Beach" "instead" "[I", Cond.fieldLink RX0 24 "TradeWords$Beach" "traders" "[I", Cond.fieldLink RX0 27 "TradeWords$Beach" "takes" "[I", Cond.classLink RX0 30 RX4, Cond.instantiable RX4 5, Cond.initialized RX4, Cond.fieldLink RX0 33 "TradeWords$Beach" "needs" "LTradeWords$Needs;", Cond.instanceMethod yX4_init, Cond.code yX4_init cX4_init 1 none, Cond.methodLink RX4 3 objectInit, Cond.fieldLink RX4 9 "TradeWords$Needs" "joinedMeaning" "[I", Cond.fieldLink RX4 15 "TradeWords$Needs" "joinedPair" "[I", Cond.methodLink RX0 37 yX0_clear, Cond.instanceMethod yX0_clear, Cond.selects RX0 yX0_clear yX0_clear, Cond.initialized RX0, Cond.code yX0_clear cX0_clear 1 none]
def wsX0_init_r2 : List Cond := [Cond.constant RX0 48 (65535), Cond.fieldLink RX0 50 "TradeWords$Beach" "speaks" "I", Cond.fieldLink RX0 54 "TradeWords$Beach" "alikeFrom" "I", Cond.methodLink RX0 42 yJ7_fill_53178, Cond.static yJ7_fill_53178, Cond.initialized RJ7, Cond.code yJ7_fill_53178 cJ7_fill_53178 4 none, Cond.methodLink RX0 49 yX4_clear, Cond.instanceMethod yX4_clear, Cond.selects RX4 yX4_clear yX4_clear, Cond.code yX4_clear cX4_clear 1 none, Cond.fieldLink RX4 18 "TradeWords$Needs" "joinedTold" "I", Cond.fieldLink RX4 22 "TradeWords$Needs" "needsTold" "I", Cond.fieldLink RX4 25 "TradeWords$Needs" "needed" "I"]
def wsX0_init : List Cond := .code yX0_init cX0_init 1 none :: ((wsX0_init_r1 ++ wsX0_init_r2) ++ wsX00 ++ wsX40)
def wsX5_at : List Cond := .code yX5_at cX5_at 2 (some .int) :: ([])
def wsX2_number : List Cond := .code yX2_number cX2_number 2 (some .int) :: ([.fieldLink RX2 9 "TradeWords$Item" "numbers" "[I", .methodLink RX2 40 yX5_at, .static yX5_at, .initialized RX5, .code yX5_at cX5_at 2 (some .int)] ++ wsX20)
def wsX2_letter : List Cond := .code yX2_letter cX2_letter 1 (some .int) :: ([.fieldLink RX2 29 "TradeWords$Item" "letter" "I"] ++ wsX20)
def wsX0_wordPlace : List Cond := .code yX0_wordPlace cX0_wordPlace 2 (some .int) :: ([])
def wsX2_spelled : List Cond := .code yX2_spelled cX2_spelled 1 (some .int) :: ([.fieldLink RX2 45 "TradeWords$Item" "word" "I"] ++ wsX20)
def wsX5_put : List Cond := .code yX5_put cX5_put 3 none :: ([])
def wsX0_heardPlace : List Cond := .code yX0_heardPlace cX0_heardPlace 2 (some .int) :: ([])
def wsX2_bits : List Cond := .code yX2_bits cX2_bits 1 (some .int) :: ([.fieldLink RX2 48 "TradeWords$Item" "bits" "I"] ++ wsX20)
def wsX8_soundAt : List Cond := .code yX8_soundAt cX8_soundAt 2 (some .int) :: ([])
def wsX0_tellExchange : List Cond := .code yX0_tellExchange cX0_tellExchange 2 none :: ([.fieldLink RX0 21 "TradeWords$Beach" "instead" "[I", .methodLink RX0 101 yX8_soundAt, .static yX8_soundAt, .initialized RX8, .code yX8_soundAt cX8_soundAt 2 (some .int), .methodLink RX0 74 yX5_put, .static yX5_put, .initialized RX5, .code yX5_put cX5_put 3 none] ++ wsX00)
def wsX0_tellPair : List Cond := .code yX0_tellPair cX0_tellPair 3 none :: ([.methodLink RX0 74 yX5_put, .static yX5_put, .initialized RX5, .code yX5_put cX5_put 3 none])
def wsX4_tellJoined : List Cond := .code yX4_tellJoined cX4_tellJoined 3 (some .boolean) :: ([.fieldLink RX4 18 "TradeWords$Needs" "joinedTold" "I", .fieldLink RX4 9 "TradeWords$Needs" "joinedMeaning" "[I", .fieldLink RX4 15 "TradeWords$Needs" "joinedPair" "[I", .methodLink RX4 28 yX5_put, .static yX5_put, .initialized RX5, .code yX5_put cX5_put 3 none] ++ wsX40)
def wsX4_tellNeed : List Cond := .code yX4_tellNeed cX4_tellNeed 2 (some .boolean) :: ([.fieldLink RX4 22 "TradeWords$Needs" "needsTold" "I", .fieldLink RX4 25 "TradeWords$Needs" "needed" "I"] ++ wsX40)
def wsX0_accepts_r1 : List Cond := [Cond.fieldLink RX0 9 "TradeWords$Beach" "words" "[I", Cond.fieldLink RX0 15 "TradeWords$Beach" "heard" "[I", Cond.fieldLink RX0 18 "TradeWords$Beach" "canSay" "[I", Cond.fieldLink RX0 24 "TradeWords$Beach" "traders" "[I", Cond.fieldLink RX0 27 "TradeWords$Beach" "takes" "[I", Cond.fieldLink RX0 50 "TradeWords$Beach" "speaks" "I", Cond.fieldLink RX0 54 "TradeWords$Beach" "alikeFrom" "I", Cond.fieldLink RX0 33 "TradeWords$Beach" "needs" "LTradeWords$Needs;", Cond.methodLink RX0 57 yX2_number, Cond.instanceMethod yX2_number, Cond.selects RX2 yX2_number yX2_number, Cond.initialized RX2, Cond.code yX2_number cX2_number 2 (some .int), Cond.fieldLink RX2 9 "TradeWords$Item" "numbers" "[I", Cond.methodLink RX2 40 yX5_at, Cond.static yX5_at, Cond.initialized RX5, Cond.code yX5_at cX5_at 2 (some .int), Cond.methodLink RX0 63 yX2_letter, Cond.instanceMethod yX2_letter, Cond.selects RX2 yX2_letter yX2_letter, Cond.code yX2_letter cX2_letter 1 (some .int), Cond.fieldLink RX2 29 "TradeWords$Item" "letter" "I", Cond.methodLink RX0 67 yX0_wordPlace]
def wsX0_accepts_r2 : List Cond := [Cond.static yX0_wordPlace, Cond.initialized RX0, Cond.code yX0_wordPlace cX0_wordPlace 2 (some .int), Cond.methodLink RX0 71 yX2_spelled, Cond.instanceMethod yX2_spelled, Cond.selects RX2 yX2_spelled yX2_spelled, Cond.code yX2_spelled cX2_spelled 1 (some .int), Cond.fieldLink RX2 45 "TradeWords$Item" "word" "I", Cond.methodLink RX0 74 yX5_put, Cond.static yX5_put, Cond.code yX5_put cX5_put 3 none, Cond.methodLink RX0 80 yX0_heardPlace, Cond.static yX0_heardPlace, Cond.code yX0_heardPlace cX0_heardPlace 2 (some .int), Cond.methodLink RX0 83 yX2_bits, Cond.instanceMethod yX2_bits, Cond.selects RX2 yX2_bits yX2_bits, Cond.code yX2_bits cX2_bits 1 (some .int), Cond.fieldLink RX2 48 "TradeWords$Item" "bits" "I", Cond.methodLink RX0 86 yX0_tellExchange, Cond.instanceMethod yX0_tellExchange, Cond.selects RX0 yX0_tellExchange yX0_tellExchange, Cond.code yX0_tellExchange cX0_tellExchange 2 none, Cond.fieldLink RX0 21 "TradeWords$Beach" "instead" "[I"]
def wsX0_accepts_r3 : List Cond := [Cond.methodLink RX0 101 yX8_soundAt, Cond.static yX8_soundAt, Cond.initialized RX8, Cond.code yX8_soundAt cX8_soundAt 2 (some .int), Cond.methodLink RX0 90 yX0_tellPair, Cond.static yX0_tellPair, Cond.code yX0_tellPair cX0_tellPair 3 none, Cond.methodLink RX0 93 yX4_tellJoined, Cond.instanceMethod yX4_tellJoined, Cond.selects RX4 yX4_tellJoined yX4_tellJoined, Cond.initialized RX4, Cond.code yX4_tellJoined cX4_tellJoined 3 (some .boolean), Cond.fieldLink RX4 18 "TradeWords$Needs" "joinedTold" "I", Cond.fieldLink RX4 9 "TradeWords$Needs" "joinedMeaning" "[I", Cond.fieldLink RX4 15 "TradeWords$Needs" "joinedPair" "[I", Cond.methodLink RX4 28 yX5_put, Cond.methodLink RX0 97 yX4_tellNeed, Cond.instanceMethod yX4_tellNeed, Cond.selects RX4 yX4_tellNeed yX4_tellNeed, Cond.code yX4_tellNeed cX4_tellNeed 2 (some .boolean), Cond.fieldLink RX4 22 "TradeWords$Needs" "needsTold" "I", Cond.fieldLink RX4 25 "TradeWords$Needs" "needed" "I"]
def wsX0_accepts : List Cond := .code yX0_accepts cX0_accepts 4 (some .boolean) :: ((wsX0_accepts_r1 ++ (wsX0_accepts_r2 ++ wsX0_accepts_r3)) ++ wsX00 ++ wsX20 ++ wsX40)
def wsX0_wordOf : List Cond := .code yX0_wordOf cX0_wordOf 3 (some .int) :: ([.fieldLink RX0 9 "TradeWords$Beach" "words" "[I", .methodLink RX0 67 yX0_wordPlace, .static yX0_wordPlace, .initialized RX0, .code yX0_wordPlace cX0_wordPlace 2 (some .int), .methodLink RX0 104 yX5_at, .static yX5_at, .initialized RX5, .code yX5_at cX5_at 2 (some .int)] ++ wsX00)
def wsX0_heardBy : List Cond := .code yX0_heardBy cX0_heardBy 3 (some .int) :: ([.fieldLink RX0 15 "TradeWords$Beach" "heard" "[I", .methodLink RX0 80 yX0_heardPlace, .static yX0_heardPlace, .initialized RX0, .code yX0_heardPlace cX0_heardPlace 2 (some .int), .methodLink RX0 104 yX5_at, .static yX5_at, .initialized RX5, .code yX5_at cX5_at 2 (some .int)] ++ wsX00)
def wsX0_isTold : List Cond := .code yX0_isTold cX0_isTold 2 (some .boolean) :: ([.methodLink RX0 108 yX0_wordOf, .instanceMethod yX0_wordOf, .selects RX0 yX0_wordOf yX0_wordOf, .initialized RX0, .code yX0_wordOf cX0_wordOf 3 (some .int), .fieldLink RX0 9 "TradeWords$Beach" "words" "[I", .methodLink RX0 67 yX0_wordPlace, .static yX0_wordPlace, .code yX0_wordPlace cX0_wordPlace 2 (some .int), .methodLink RX0 104 yX5_at, .static yX5_at, .initialized RX5, .code yX5_at cX5_at 2 (some .int)] ++ wsX00)
def wsX0_soundsOf : List Cond := .code yX0_soundsOf cX0_soundsOf 2 (some .int) :: ([.fieldLink RX0 18 "TradeWords$Beach" "canSay" "[I", .methodLink RX0 104 yX5_at, .static yX5_at, .initialized RX5, .code yX5_at cX5_at 2 (some .int)] ++ wsX00)
def wsX0_tradersOf : List Cond := .code yX0_tradersOf cX0_tradersOf 2 (some .int) :: ([.fieldLink RX0 24 "TradeWords$Beach" "traders" "[I", .methodLink RX0 104 yX5_at, .static yX5_at, .initialized RX5, .code yX5_at cX5_at 2 (some .int)] ++ wsX00)
def wsX0_takesOfTen : List Cond := .code yX0_takesOfTen cX0_takesOfTen 2 (some .int) :: ([.fieldLink RX0 27 "TradeWords$Beach" "takes" "[I", .methodLink RX0 104 yX5_at, .static yX5_at, .initialized RX5, .code yX5_at cX5_at 2 (some .int)] ++ wsX00)
def wsX0_speaksOfTen : List Cond := .code yX0_speaksOfTen cX0_speaksOfTen 1 (some .int) :: ([.fieldLink RX0 50 "TradeWords$Beach" "speaks" "I"] ++ wsX00)
def wsX0_alikeFrom : List Cond := .code yX0_alikeFrom cX0_alikeFrom 1 (some .int) :: ([.fieldLink RX0 54 "TradeWords$Beach" "alikeFrom" "I"] ++ wsX00)
def wsX0_needs : List Cond := .code yX0_needs cX0_needs 1 (some (.object "TradeWords$Needs")) :: ([.fieldLink RX0 33 "TradeWords$Beach" "needs" "LTradeWords$Needs;"] ++ wsX00)
def wsX0_soundSaidBy : List Cond := .code yX0_soundSaidBy cX0_soundSaidBy 5 (some .int) :: ([.fieldLink RX0 18 "TradeWords$Beach" "canSay" "[I", .fieldLink RX0 21 "TradeWords$Beach" "instead" "[I", .methodLink RX0 104 yX5_at, .static yX5_at, .initialized RX5, .code yX5_at cX5_at 2 (some .int)] ++ wsX00)
def wsX8_length : List Cond := .code yX8_length cX8_length 1 (some .int) :: ([])
def wsX8_with : List Cond := .code yX8_with cX8_with 3 (some .int) :: ([.methodLink RX8 9 yX8_length, .static yX8_length, .initialized RX8, .code yX8_length cX8_length 1 (some .int)])
def wsX0_saidBy : List Cond := .code yX0_saidBy cX0_saidBy 6 (some .int) :: ([.methodLink RX0 111 yX8_length, .static yX8_length, .initialized RX8, .code yX8_length cX8_length 1 (some .int), .methodLink RX0 101 yX8_soundAt, .static yX8_soundAt, .code yX8_soundAt cX8_soundAt 2 (some .int), .methodLink RX0 114 yX0_soundSaidBy, .instanceMethod yX0_soundSaidBy, .selects RX0 yX0_soundSaidBy yX0_soundSaidBy, .initialized RX0, .code yX0_soundSaidBy cX0_soundSaidBy 5 (some .int), .fieldLink RX0 18 "TradeWords$Beach" "canSay" "[I", .fieldLink RX0 21 "TradeWords$Beach" "instead" "[I", .methodLink RX0 104 yX5_at, .static yX5_at, .initialized RX5, .code yX5_at cX5_at 2 (some .int), .methodLink RX0 117 yX8_with, .static yX8_with, .code yX8_with cX8_with 3 (some .int), .methodLink RX8 9 yX8_length] ++ wsX00)
def wsX1_init : List Cond := .code yX1_init cX1_init 1 none :: ([.methodLink RX1 3 objectInit, .instanceMethod objectInit, .code objectInit ⟨#[0xb1]⟩ 1 none, .arrayClass .long, .fieldLink RX1 11 "TradeWords$Crowd" "now" "[J", .fieldLink RX1 15 "TradeWords$Crowd" "next" "[J", .fieldLink RX1 18 "TradeWords$Crowd" "a" "I", .fieldLink RX1 22 "TradeWords$Crowd" "b" "I"] ++ wsX10)
def wsX1_gather : List Cond := .code yX1_gather cX1_gather 3 none :: ([.methodLink RX1 25 Lib.Math.min.name, .static Lib.Math.min.name, .initialized "java/lang/Math", .code Lib.Math.min.name Lib.Math.min.code 2 (some .int), .methodLink RX1 31 Lib.Math.max.name, .static Lib.Math.max.name, .code Lib.Math.max.name Lib.Math.max.code 2 (some .int), .fieldLink RX1 18 "TradeWords$Crowd" "a" "I", .fieldLink RX1 22 "TradeWords$Crowd" "b" "I"] ++ wsX10)
def wsX1_habits : List Cond := .code yX1_habits cX1_habits 5 none :: ([.fieldLink RX1 34 "TradeWords$Crowd" "zeroHears" "I", .fieldLink RX1 37 "TradeWords$Crowd" "oneHears" "I"] ++ wsX10)
def wsJ7_fill_d0a16 : List Cond := .code yJ7_fill_d0a16 cJ7_fill_d0a16 5 none :: ([])
def wsX1_place : List Cond := .code yX1_place cX1_place 2 (some .int) :: ([])
def wsX5_add : List Cond := .code yX5_add cX5_add 4 none :: ([])
def wsX1_begin : List Cond := .code yX1_begin cX1_begin 3 none :: ([.fieldLink RX1 11 "TradeWords$Crowd" "now" "[J", .constantLong RX1 49 (1000000), .methodLink RX1 40 yJ7_fill_d0a16, .static yJ7_fill_d0a16, .initialized RJ7, .code yJ7_fill_d0a16 cJ7_fill_d0a16 5 none, .methodLink RX1 46 yX1_place, .static yX1_place, .initialized RX1, .code yX1_place cX1_place 2 (some .int), .methodLink RX1 51 yX5_add, .static yX5_add, .initialized RX5, .code yX5_add cX5_add 4 none] ++ wsX10)
def wsX5_at_ : List Cond := .code yX5_at_ cX5_at_ 2 (some .long) :: ([])
def wsX1_go : List Cond := .code yX1_go cX1_go 9 none :: ([.constantLong RX1 87 (100), .fieldLink RX1 18 "TradeWords$Crowd" "a" "I", .fieldLink RX1 22 "TradeWords$Crowd" "b" "I", .fieldLink RX1 15 "TradeWords$Crowd" "next" "[J", .fieldLink RX1 61 "TradeWords$Crowd" "moved" "Z", .methodLink RX1 51 yX5_add, .static yX5_add, .initialized RX5, .code yX5_add cX5_add 4 none] ++ wsX10)
def wsX1_part : List Cond := .code yX1_part cX1_part 10 none :: ([.fieldLink RX1 11 "TradeWords$Crowd" "now" "[J", .fieldLink RX1 18 "TradeWords$Crowd" "a" "I", .fieldLink RX1 22 "TradeWords$Crowd" "b" "I", .fieldLink RX1 34 "TradeWords$Crowd" "zeroHears" "I", .fieldLink RX1 37 "TradeWords$Crowd" "oneHears" "I", .methodLink RX1 46 yX1_place, .static yX1_place, .initialized RX1, .code yX1_place cX1_place 2 (some .int), .methodLink RX1 75 yX5_at_, .static yX5_at_, .initialized RX5, .code yX5_at_ cX5_at_ 2 (some .long), .methodLink RX1 83 yX1_go, .instanceMethod yX1_go, .selects RX1 yX1_go yX1_go, .code yX1_go cX1_go 9 none, .constantLong RX1 87 (100), .fieldLink RX1 15 "TradeWords$Crowd" "next" "[J", .fieldLink RX1 61 "TradeWords$Crowd" "moved" "Z", .methodLink RX1 51 yX5_add, .static yX5_add, .code yX5_add cX5_add 4 none] ++ wsX10)
def wsX1_meetOnce_r1 : List Cond := [Cond.fieldLink RX1 61 "TradeWords$Crowd" "moved" "Z", Cond.fieldLink RX1 11 "TradeWords$Crowd" "now" "[J", Cond.fieldLink RX1 15 "TradeWords$Crowd" "next" "[J", Cond.methodLink RX1 65 arraycopyName, Cond.native arraycopyName, Cond.static arraycopyName, Cond.initialized "java/lang/System", Cond.fieldLink RX1 18 "TradeWords$Crowd" "a" "I", Cond.fieldLink RX1 22 "TradeWords$Crowd" "b" "I", Cond.methodLink RX1 71 yX1_part, Cond.instanceMethod yX1_part, Cond.selects RX1 yX1_part yX1_part, Cond.initialized RX1, Cond.code yX1_part cX1_part 10 none, Cond.fieldLink RX1 34 "TradeWords$Crowd" "zeroHears" "I", Cond.fieldLink RX1 37 "TradeWords$Crowd" "oneHears" "I", Cond.methodLink RX1 46 yX1_place, Cond.static yX1_place, Cond.code yX1_place cX1_place 2 (some .int), Cond.methodLink RX1 75 yX5_at_, Cond.static yX5_at_, Cond.initialized RX5, Cond.code yX5_at_ cX5_at_ 2 (some .long), Cond.methodLink RX1 83 yX1_go]
def wsX1_meetOnce_r2 : List Cond := [Cond.instanceMethod yX1_go, Cond.selects RX1 yX1_go yX1_go, Cond.code yX1_go cX1_go 9 none, Cond.constantLong RX1 87 (100), Cond.methodLink RX1 51 yX5_add, Cond.static yX5_add, Cond.code yX5_add cX5_add 4 none]
def wsX1_meetOnce : List Cond := .code yX1_meetOnce cX1_meetOnce 3 (some .boolean) :: ((wsX1_meetOnce_r1 ++ wsX1_meetOnce_r2) ++ wsX10)
def wsX1_meet_r1 : List Cond := [Cond.methodLink RX1 57 yX1_meetOnce, Cond.instanceMethod yX1_meetOnce, Cond.selects RX1 yX1_meetOnce yX1_meetOnce, Cond.initialized RX1, Cond.code yX1_meetOnce cX1_meetOnce 3 (some .boolean), Cond.fieldLink RX1 61 "TradeWords$Crowd" "moved" "Z", Cond.fieldLink RX1 11 "TradeWords$Crowd" "now" "[J", Cond.fieldLink RX1 15 "TradeWords$Crowd" "next" "[J", Cond.methodLink RX1 65 arraycopyName, Cond.native arraycopyName, Cond.static arraycopyName, Cond.initialized "java/lang/System", Cond.fieldLink RX1 18 "TradeWords$Crowd" "a" "I", Cond.fieldLink RX1 22 "TradeWords$Crowd" "b" "I", Cond.methodLink RX1 71 yX1_part, Cond.instanceMethod yX1_part, Cond.selects RX1 yX1_part yX1_part, Cond.code yX1_part cX1_part 10 none, Cond.fieldLink RX1 34 "TradeWords$Crowd" "zeroHears" "I", Cond.fieldLink RX1 37 "TradeWords$Crowd" "oneHears" "I", Cond.methodLink RX1 46 yX1_place, Cond.static yX1_place, Cond.code yX1_place cX1_place 2 (some .int), Cond.methodLink RX1 75 yX5_at_]
def wsX1_meet_r2 : List Cond := [Cond.static yX5_at_, Cond.initialized RX5, Cond.code yX5_at_ cX5_at_ 2 (some .long), Cond.methodLink RX1 83 yX1_go, Cond.instanceMethod yX1_go, Cond.selects RX1 yX1_go yX1_go, Cond.code yX1_go cX1_go 9 none, Cond.constantLong RX1 87 (100), Cond.methodLink RX1 51 yX5_add, Cond.static yX5_add, Cond.code yX5_add cX5_add 4 none]
def wsX1_meet : List Cond := .code yX1_meet cX1_meet 4 none :: ((wsX1_meet_r1 ++ wsX1_meet_r2) ++ wsX10)
def wsX1_inStand : List Cond := .code yX1_inStand cX1_inStand 3 (some .long) :: ([.fieldLink RX1 11 "TradeWords$Crowd" "now" "[J", .methodLink RX1 46 yX1_place, .static yX1_place, .initialized RX1, .code yX1_place cX1_place 2 (some .int), .methodLink RX1 75 yX5_at_, .static yX5_at_, .initialized RX5, .code yX5_at_ cX5_at_ 2 (some .long)] ++ wsX10)
def wsX1_allSaying : List Cond := .code yX1_allSaying cX1_allSaying 2 (some .long) :: ([.fieldLink RX1 22 "TradeWords$Crowd" "b" "I", .fieldLink RX1 18 "TradeWords$Crowd" "a" "I", .methodLink RX1 79 yX1_inStand, .instanceMethod yX1_inStand, .selects RX1 yX1_inStand yX1_inStand, .initialized RX1, .code yX1_inStand cX1_inStand 3 (some .long), .fieldLink RX1 11 "TradeWords$Crowd" "now" "[J", .methodLink RX1 46 yX1_place, .static yX1_place, .code yX1_place cX1_place 2 (some .int), .methodLink RX1 75 yX5_at_, .static yX5_at_, .initialized RX5, .code yX5_at_ cX5_at_ 2 (some .long)] ++ wsX10)
def wsX1_sayingWordZero : List Cond := .code yX1_sayingWordZero cX1_sayingWordZero 5 (some .long) :: ([.fieldLink RX1 18 "TradeWords$Crowd" "a" "I", .fieldLink RX1 22 "TradeWords$Crowd" "b" "I", .methodLink RX1 79 yX1_inStand, .instanceMethod yX1_inStand, .selects RX1 yX1_inStand yX1_inStand, .initialized RX1, .code yX1_inStand cX1_inStand 3 (some .long), .fieldLink RX1 11 "TradeWords$Crowd" "now" "[J", .methodLink RX1 46 yX1_place, .static yX1_place, .code yX1_place cX1_place 2 (some .int), .methodLink RX1 75 yX5_at_, .static yX5_at_, .initialized RX5, .code yX5_at_ cX5_at_ 2 (some .long)] ++ wsX10)
def wsX2_init : List Cond := .code yX2_init cX2_init 2 none :: ([.methodLink RX2 3 objectInit, .instanceMethod objectInit, .code objectInit ⟨#[0xb1]⟩ 1 none, .arrayClass .int, .fieldLink RX2 9 "TradeWords$Item" "numbers" "[I", .fieldLink RX2 15 "TradeWords$Item" "text" "LTradeWords$Text;"] ++ wsX20)
def wsX7_at : List Cond := .code yX7_at cX7_at 2 (some .int) :: ([.fieldLink RX7 15 "TradeWords$Text" "length" "I", .fieldLink RX7 9 "TradeWords$Text" "bytes" "[B"] ++ wsX70)
def wsX2_isFigure : List Cond := .code yX2_isFigure cX2_isFigure 1 (some .boolean) :: ([])
def wsX2_readNumber : List Cond := .code yX2_readNumber cX2_readNumber 5 (some .boolean) :: ([.fieldLink RX2 15 "TradeWords$Item" "text" "LTradeWords$Text;", .fieldLink RX2 19 "TradeWords$Item" "place" "I", .fieldLink RX2 9 "TradeWords$Item" "numbers" "[I", .methodLink RX2 23 yX7_at, .instanceMethod yX7_at, .selects RX7 yX7_at yX7_at, .initialized RX7, .code yX7_at cX7_at 2 (some .int), .fieldLink RX7 15 "TradeWords$Text" "length" "I", .fieldLink RX7 9 "TradeWords$Text" "bytes" "[B", .methodLink RX2 80 yX2_isFigure, .static yX2_isFigure, .initialized RX2, .code yX2_isFigure cX2_isFigure 1 (some .boolean), .methodLink RX2 83 yX5_put, .static yX5_put, .initialized RX5, .code yX5_put cX5_put 3 none] ++ wsX20 ++ wsX70)
def wsX2_passes : List Cond := .code yX2_passes cX2_passes 2 (some .boolean) :: ([.fieldLink RX2 15 "TradeWords$Item" "text" "LTradeWords$Text;", .fieldLink RX2 19 "TradeWords$Item" "place" "I", .methodLink RX2 23 yX7_at, .instanceMethod yX7_at, .selects RX7 yX7_at yX7_at, .initialized RX7, .code yX7_at cX7_at 2 (some .int), .fieldLink RX7 15 "TradeWords$Text" "length" "I", .fieldLink RX7 9 "TradeWords$Text" "bytes" "[B"] ++ wsX20 ++ wsX70)
def wsX2_readNumbers_r1 : List Cond := [Cond.methodLink RX2 58 yX2_readNumber, Cond.instanceMethod yX2_readNumber, Cond.selects RX2 yX2_readNumber yX2_readNumber, Cond.initialized RX2, Cond.code yX2_readNumber cX2_readNumber 5 (some .boolean), Cond.fieldLink RX2 15 "TradeWords$Item" "text" "LTradeWords$Text;", Cond.fieldLink RX2 19 "TradeWords$Item" "place" "I", Cond.fieldLink RX2 9 "TradeWords$Item" "numbers" "[I", Cond.methodLink RX2 23 yX7_at, Cond.instanceMethod yX7_at, Cond.selects RX7 yX7_at yX7_at, Cond.initialized RX7, Cond.code yX7_at cX7_at 2 (some .int), Cond.fieldLink RX7 15 "TradeWords$Text" "length" "I", Cond.fieldLink RX7 9 "TradeWords$Text" "bytes" "[B", Cond.methodLink RX2 80 yX2_isFigure, Cond.static yX2_isFigure, Cond.code yX2_isFigure cX2_isFigure 1 (some .boolean), Cond.methodLink RX2 83 yX5_put, Cond.static yX5_put, Cond.initialized RX5, Cond.code yX5_put cX5_put 3 none, Cond.methodLink RX2 36 yX2_passes, Cond.instanceMethod yX2_passes]
def wsX2_readNumbers_r2 : List Cond := [Cond.selects RX2 yX2_passes yX2_passes, Cond.code yX2_passes cX2_passes 2 (some .boolean)]
def wsX2_readNumbers : List Cond := .code yX2_readNumbers cX2_readNumbers 3 (some .boolean) :: ((wsX2_readNumbers_r1 ++ wsX2_readNumbers_r2) ++ wsX20 ++ wsX70)
def wsX2_readWord : List Cond := .code yX2_readWord cX2_readWord 3 (some .boolean) :: ([.fieldLink RX2 45 "TradeWords$Item" "word" "I", .fieldLink RX2 15 "TradeWords$Item" "text" "LTradeWords$Text;", .fieldLink RX2 19 "TradeWords$Item" "place" "I", .methodLink RX2 23 yX7_at, .instanceMethod yX7_at, .selects RX7 yX7_at yX7_at, .initialized RX7, .code yX7_at cX7_at 2 (some .int), .fieldLink RX7 15 "TradeWords$Text" "length" "I", .fieldLink RX7 9 "TradeWords$Text" "bytes" "[B", .methodLink RX2 87 yX8_with, .static yX8_with, .initialized RX8, .code yX8_with cX8_with 3 (some .int), .methodLink RX8 9 yX8_length, .static yX8_length, .code yX8_length cX8_length 1 (some .int)] ++ wsX20 ++ wsX70)
def wsX2_readRising : List Cond := .code yX2_readRising cX2_readRising 6 (some .boolean) :: ([.fieldLink RX2 48 "TradeWords$Item" "bits" "I", .fieldLink RX2 15 "TradeWords$Item" "text" "LTradeWords$Text;", .fieldLink RX2 19 "TradeWords$Item" "place" "I", .methodLink RX2 23 yX7_at, .instanceMethod yX7_at, .selects RX7 yX7_at yX7_at, .initialized RX7, .code yX7_at cX7_at 2 (some .int), .fieldLink RX7 15 "TradeWords$Text" "length" "I", .fieldLink RX7 9 "TradeWords$Text" "bytes" "[B"] ++ wsX20 ++ wsX70)
def wsX2_readJoined_r1 : List Cond := [Cond.methodLink RX2 58 yX2_readNumber, Cond.instanceMethod yX2_readNumber, Cond.selects RX2 yX2_readNumber yX2_readNumber, Cond.initialized RX2, Cond.code yX2_readNumber cX2_readNumber 5 (some .boolean), Cond.fieldLink RX2 15 "TradeWords$Item" "text" "LTradeWords$Text;", Cond.fieldLink RX2 19 "TradeWords$Item" "place" "I", Cond.fieldLink RX2 9 "TradeWords$Item" "numbers" "[I", Cond.methodLink RX2 23 yX7_at, Cond.instanceMethod yX7_at, Cond.selects RX7 yX7_at yX7_at, Cond.initialized RX7, Cond.code yX7_at cX7_at 2 (some .int), Cond.fieldLink RX7 15 "TradeWords$Text" "length" "I", Cond.fieldLink RX7 9 "TradeWords$Text" "bytes" "[B", Cond.methodLink RX2 80 yX2_isFigure, Cond.static yX2_isFigure, Cond.code yX2_isFigure cX2_isFigure 1 (some .boolean), Cond.methodLink RX2 83 yX5_put, Cond.static yX5_put, Cond.initialized RX5, Cond.code yX5_put cX5_put 3 none, Cond.methodLink RX2 36 yX2_passes, Cond.instanceMethod yX2_passes]
def wsX2_readJoined_r2 : List Cond := [Cond.selects RX2 yX2_passes yX2_passes, Cond.code yX2_passes cX2_passes 2 (some .boolean), Cond.methodLink RX2 77 yX2_number, Cond.instanceMethod yX2_number, Cond.selects RX2 yX2_number yX2_number, Cond.code yX2_number cX2_number 2 (some .int), Cond.methodLink RX2 40 yX5_at, Cond.static yX5_at, Cond.code yX5_at cX5_at 2 (some .int)]
def wsX2_readJoined : List Cond := .code yX2_readJoined cX2_readJoined 1 (some .boolean) :: ((wsX2_readJoined_r1 ++ wsX2_readJoined_r2) ++ wsX20 ++ wsX70)
def wsX2_readTold_r1 : List Cond := [Cond.fieldLink RX2 29 "TradeWords$Item" "letter" "I", Cond.fieldLink RX2 45 "TradeWords$Item" "word" "I", Cond.methodLink RX2 51 yX2_readNumbers, Cond.instanceMethod yX2_readNumbers, Cond.selects RX2 yX2_readNumbers yX2_readNumbers, Cond.initialized RX2, Cond.code yX2_readNumbers cX2_readNumbers 3 (some .boolean), Cond.methodLink RX2 58 yX2_readNumber, Cond.instanceMethod yX2_readNumber, Cond.selects RX2 yX2_readNumber yX2_readNumber, Cond.code yX2_readNumber cX2_readNumber 5 (some .boolean), Cond.fieldLink RX2 15 "TradeWords$Item" "text" "LTradeWords$Text;", Cond.fieldLink RX2 19 "TradeWords$Item" "place" "I", Cond.fieldLink RX2 9 "TradeWords$Item" "numbers" "[I", Cond.methodLink RX2 23 yX7_at, Cond.instanceMethod yX7_at, Cond.selects RX7 yX7_at yX7_at, Cond.initialized RX7, Cond.code yX7_at cX7_at 2 (some .int), Cond.fieldLink RX7 15 "TradeWords$Text" "length" "I", Cond.fieldLink RX7 9 "TradeWords$Text" "bytes" "[B", Cond.methodLink RX2 80 yX2_isFigure, Cond.static yX2_isFigure, Cond.code yX2_isFigure cX2_isFigure 1 (some .boolean)]
def wsX2_readTold_r2 : List Cond := [Cond.methodLink RX2 83 yX5_put, Cond.static yX5_put, Cond.initialized RX5, Cond.code yX5_put cX5_put 3 none, Cond.methodLink RX2 36 yX2_passes, Cond.instanceMethod yX2_passes, Cond.selects RX2 yX2_passes yX2_passes, Cond.code yX2_passes cX2_passes 2 (some .boolean), Cond.methodLink RX2 55 yX2_readWord, Cond.instanceMethod yX2_readWord, Cond.selects RX2 yX2_readWord yX2_readWord, Cond.code yX2_readWord cX2_readWord 3 (some .boolean), Cond.methodLink RX2 87 yX8_with, Cond.static yX8_with, Cond.initialized RX8, Cond.code yX8_with cX8_with 3 (some .int), Cond.methodLink RX8 9 yX8_length, Cond.static yX8_length, Cond.code yX8_length cX8_length 1 (some .int), Cond.methodLink RX2 62 yX2_readRising, Cond.instanceMethod yX2_readRising, Cond.selects RX2 yX2_readRising yX2_readRising, Cond.code yX2_readRising cX2_readRising 6 (some .boolean), Cond.fieldLink RX2 48 "TradeWords$Item" "bits" "I"]
def wsX2_readTold_r3 : List Cond := [Cond.methodLink RX2 65 yX8_length, Cond.methodLink RX2 70 yX8_soundAt, Cond.static yX8_soundAt, Cond.code yX8_soundAt cX8_soundAt 2 (some .int), Cond.methodLink RX2 74 yX2_readJoined, Cond.instanceMethod yX2_readJoined, Cond.selects RX2 yX2_readJoined yX2_readJoined, Cond.code yX2_readJoined cX2_readJoined 1 (some .boolean), Cond.methodLink RX2 77 yX2_number, Cond.instanceMethod yX2_number, Cond.selects RX2 yX2_number yX2_number, Cond.code yX2_number cX2_number 2 (some .int), Cond.methodLink RX2 40 yX5_at, Cond.static yX5_at, Cond.code yX5_at cX5_at 2 (some .int)]
def wsX2_readTold : List Cond := .code yX2_readTold cX2_readTold 1 (some .boolean) :: ((wsX2_readTold_r1 ++ (wsX2_readTold_r2 ++ wsX2_readTold_r3)) ++ wsX20 ++ wsX70)
def wsX2_readAt_r1 : List Cond := [Cond.fieldLink RX2 19 "TradeWords$Item" "place" "I", Cond.fieldLink RX2 15 "TradeWords$Item" "text" "LTradeWords$Text;", Cond.fieldLink RX2 29 "TradeWords$Item" "letter" "I", Cond.methodLink RX2 23 yX7_at, Cond.instanceMethod yX7_at, Cond.selects RX7 yX7_at yX7_at, Cond.initialized RX7, Cond.code yX7_at cX7_at 2 (some .int), Cond.fieldLink RX7 15 "TradeWords$Text" "length" "I", Cond.fieldLink RX7 9 "TradeWords$Text" "bytes" "[B", Cond.methodLink RX2 32 yX2_readTold, Cond.instanceMethod yX2_readTold, Cond.selects RX2 yX2_readTold yX2_readTold, Cond.initialized RX2, Cond.code yX2_readTold cX2_readTold 1 (some .boolean), Cond.fieldLink RX2 45 "TradeWords$Item" "word" "I", Cond.methodLink RX2 51 yX2_readNumbers, Cond.instanceMethod yX2_readNumbers, Cond.selects RX2 yX2_readNumbers yX2_readNumbers, Cond.code yX2_readNumbers cX2_readNumbers 3 (some .boolean), Cond.methodLink RX2 58 yX2_readNumber, Cond.instanceMethod yX2_readNumber, Cond.selects RX2 yX2_readNumber yX2_readNumber, Cond.code yX2_readNumber cX2_readNumber 5 (some .boolean)]
def wsX2_readAt_r2 : List Cond := [Cond.fieldLink RX2 9 "TradeWords$Item" "numbers" "[I", Cond.methodLink RX2 80 yX2_isFigure, Cond.static yX2_isFigure, Cond.code yX2_isFigure cX2_isFigure 1 (some .boolean), Cond.methodLink RX2 83 yX5_put, Cond.static yX5_put, Cond.initialized RX5, Cond.code yX5_put cX5_put 3 none, Cond.methodLink RX2 36 yX2_passes, Cond.instanceMethod yX2_passes, Cond.selects RX2 yX2_passes yX2_passes, Cond.code yX2_passes cX2_passes 2 (some .boolean), Cond.methodLink RX2 55 yX2_readWord, Cond.instanceMethod yX2_readWord, Cond.selects RX2 yX2_readWord yX2_readWord, Cond.code yX2_readWord cX2_readWord 3 (some .boolean), Cond.methodLink RX2 87 yX8_with, Cond.static yX8_with, Cond.initialized RX8, Cond.code yX8_with cX8_with 3 (some .int), Cond.methodLink RX8 9 yX8_length, Cond.static yX8_length, Cond.code yX8_length cX8_length 1 (some .int), Cond.methodLink RX2 62 yX2_readRising]
def wsX2_readAt_r3 : List Cond := [Cond.instanceMethod yX2_readRising, Cond.selects RX2 yX2_readRising yX2_readRising, Cond.code yX2_readRising cX2_readRising 6 (some .boolean), Cond.fieldLink RX2 48 "TradeWords$Item" "bits" "I", Cond.methodLink RX2 65 yX8_length, Cond.methodLink RX2 70 yX8_soundAt, Cond.static yX8_soundAt, Cond.code yX8_soundAt cX8_soundAt 2 (some .int), Cond.methodLink RX2 74 yX2_readJoined, Cond.instanceMethod yX2_readJoined, Cond.selects RX2 yX2_readJoined yX2_readJoined, Cond.code yX2_readJoined cX2_readJoined 1 (some .boolean), Cond.methodLink RX2 77 yX2_number, Cond.instanceMethod yX2_number, Cond.selects RX2 yX2_number yX2_number, Cond.code yX2_number cX2_number 2 (some .int), Cond.methodLink RX2 40 yX5_at, Cond.static yX5_at, Cond.code yX5_at cX5_at 2 (some .int)]
def wsX2_readAt : List Cond := .code yX2_readAt cX2_readAt 2 (some .boolean) :: ((wsX2_readAt_r1 ++ (wsX2_readAt_r2 ++ wsX2_readAt_r3)) ++ wsX20 ++ wsX70)
def wsX2_behind : List Cond := .code yX2_behind cX2_behind 1 (some .int) :: ([.fieldLink RX2 19 "TradeWords$Item" "place" "I"] ++ wsX20)
def wsX3_init : List Cond := .code yX3_init cX3_init 1 none :: ([.methodLink RX3 3 objectInit, .instanceMethod objectInit, .code objectInit ⟨#[0xb1]⟩ 1 none, .arrayClass .int, .fieldLink RX3 9 "TradeWords$Measure" "row" "[I"] ++ wsX30)
def wsX3_apart : List Cond := .code yX3_apart cX3_apart 8 (some .int) :: ([.methodLink RX3 21 Lib.Math.min.name, .static Lib.Math.min.name, .initialized "java/lang/Math", .code Lib.Math.min.name Lib.Math.min.code 2 (some .int), .fieldLink RX3 9 "TradeWords$Measure" "row" "[I", .methodLink RX3 15 yX8_length, .static yX8_length, .initialized RX8, .code yX8_length cX8_length 1 (some .int), .methodLink RX3 27 yX8_soundAt, .static yX8_soundAt, .code yX8_soundAt cX8_soundAt 2 (some .int)] ++ wsX30)
def wsX3_likeness : List Cond := .code yX3_likeness cX3_likeness 4 (some .int) :: ([.methodLink RX3 30 Lib.Math.max.name, .static Lib.Math.max.name, .initialized "java/lang/Math", .code Lib.Math.max.name Lib.Math.max.code 2 (some .int), .methodLink RX3 15 yX8_length, .static yX8_length, .initialized RX8, .code yX8_length cX8_length 1 (some .int), .methodLink RX3 33 yX3_apart, .instanceMethod yX3_apart, .selects RX3 yX3_apart yX3_apart, .initialized RX3, .code yX3_apart cX3_apart 8 (some .int), .methodLink RX3 21 Lib.Math.min.name, .static Lib.Math.min.name, .code Lib.Math.min.name Lib.Math.min.code 2 (some .int), .fieldLink RX3 9 "TradeWords$Measure" "row" "[I", .methodLink RX3 27 yX8_soundAt, .static yX8_soundAt, .code yX8_soundAt cX8_soundAt 2 (some .int)] ++ wsX30)
def wsX4_needsTold : List Cond := .code yX4_needsTold cX4_needsTold 1 (some .int) :: ([.fieldLink RX4 22 "TradeWords$Needs" "needsTold" "I"] ++ wsX40)
def wsX4_joinedTold : List Cond := .code yX4_joinedTold cX4_joinedTold 1 (some .int) :: ([.fieldLink RX4 18 "TradeWords$Needs" "joinedTold" "I"] ++ wsX40)
def wsX4_sayableBy : List Cond := .code yX4_sayableBy cX4_sayableBy 4 (some .int) :: ([.fieldLink RX4 18 "TradeWords$Needs" "joinedTold" "I", .fieldLink RX4 15 "TradeWords$Needs" "joinedPair" "[I", .fieldLink RX4 9 "TradeWords$Needs" "joinedMeaning" "[I", .methodLink RX4 34 yX5_at, .static yX5_at, .initialized RX5, .code yX5_at cX5_at 2 (some .int)] ++ wsX40)
def wsJ6_bitCount_0f7a4 : List Cond := .code yJ6_bitCount_0f7a4 cJ6_bitCount_0f7a4 1 (some .int) :: ([.constant RJ6 265 (1431655765), .constant RJ6 266 (858993459), .constant RJ6 267 (252645135)])
def wsX4_leastSet : List Cond := .code yX4_leastSet cX4_leastSet 4 (some .int) :: ([.fieldLink RX4 25 "TradeWords$Needs" "needed" "I", .methodLink RX4 38 yJ6_bitCount_0f7a4, .static yJ6_bitCount_0f7a4, .initialized RJ6, .code yJ6_bitCount_0f7a4 cJ6_bitCount_0f7a4 1 (some .int), .constant RJ6 265 (1431655765), .constant RJ6 266 (858993459), .constant RJ6 267 (252645135), .methodLink RX4 44 yX4_sayableBy, .instanceMethod yX4_sayableBy, .selects RX4 yX4_sayableBy yX4_sayableBy, .initialized RX4, .code yX4_sayableBy cX4_sayableBy 4 (some .int), .fieldLink RX4 18 "TradeWords$Needs" "joinedTold" "I", .fieldLink RX4 15 "TradeWords$Needs" "joinedPair" "[I", .fieldLink RX4 9 "TradeWords$Needs" "joinedMeaning" "[I", .methodLink RX4 34 yX5_at, .static yX5_at, .initialized RX5, .code yX5_at cX5_at 2 (some .int)] ++ wsX40)
def wsX6_init : List Cond := .code yX6_init cX6_init 1 none :: ([.methodLink RX6 3 objectInit, .instanceMethod objectInit, .code objectInit ⟨#[0xb1]⟩ 1 none, .arrayClass .int, .fieldLink RX6 11 "TradeWords$Stands" "others" "[I", .fieldLink RX6 15 "TradeWords$Stands" "keptOthers" "[I"] ++ wsX60)
def wsX6_clear : List Cond := .code yX6_clear cX6_clear 1 none :: ([.fieldLink RX6 11 "TradeWords$Stands" "others" "[I", .fieldLink RX6 24 "TradeWords$Stands" "kept" "I", .methodLink RX6 18 yJ7_fill_53178, .static yJ7_fill_53178, .initialized RJ7, .code yJ7_fill_53178 cJ7_fill_53178 4 none] ++ wsX60)
def wsX6_of : List Cond := .code yX6_of cX6_of 3 (some .int) :: ([.fieldLink RX6 11 "TradeWords$Stands" "others" "[I", .methodLink RX6 28 yX5_at, .static yX5_at, .initialized RX5, .code yX5_at cX5_at 2 (some .int)] ++ wsX60)
def wsX6_put : List Cond := .code yX6_put cX6_put 4 none :: ([.fieldLink RX6 11 "TradeWords$Stands" "others" "[I", .methodLink RX6 34 yX5_put, .static yX5_put, .initialized RX5, .code yX5_put cX5_put 3 none] ++ wsX60)
def wsX6_change : List Cond := .code yX6_change cX6_change 4 none :: ([.fieldLink RX6 11 "TradeWords$Stands" "others" "[I", .methodLink RX6 38 yX6_of, .instanceMethod yX6_of, .selects RX6 yX6_of yX6_of, .initialized RX6, .code yX6_of cX6_of 3 (some .int), .methodLink RX6 28 yX5_at, .static yX5_at, .initialized RX5, .code yX5_at cX5_at 2 (some .int), .methodLink RX6 34 yX5_put, .static yX5_put, .code yX5_put cX5_put 3 none] ++ wsX60)
def wsX6_kept : List Cond := .code yX6_kept cX6_kept 1 (some .int) :: ([.fieldLink RX6 24 "TradeWords$Stands" "kept" "I"] ++ wsX60)
def wsX6_push : List Cond := .code yX6_push cX6_push 1 (some .boolean) :: ([.fieldLink RX6 24 "TradeWords$Stands" "kept" "I", .fieldLink RX6 11 "TradeWords$Stands" "others" "[I", .fieldLink RX6 15 "TradeWords$Stands" "keptOthers" "[I", .methodLink RX6 42 arraycopyName, .native arraycopyName, .static arraycopyName, .initialized "java/lang/System"] ++ wsX60)
def wsX6_pop : List Cond := .code yX6_pop cX6_pop 1 (some .boolean) :: ([.fieldLink RX6 24 "TradeWords$Stands" "kept" "I", .fieldLink RX6 15 "TradeWords$Stands" "keptOthers" "[I", .fieldLink RX6 11 "TradeWords$Stands" "others" "[I", .methodLink RX6 42 arraycopyName, .native arraycopyName, .static arraycopyName, .initialized "java/lang/System"] ++ wsX60)
def wsX7_init : List Cond := .code yX7_init cX7_init 1 none :: ([.methodLink RX7 3 objectInit, .instanceMethod objectInit, .code objectInit ⟨#[0xb1]⟩ 1 none, .arrayClass .byte, .fieldLink RX7 9 "TradeWords$Text" "bytes" "[B"] ++ wsX70)
def wsX7_length : List Cond := .code yX7_length cX7_length 1 (some .int) :: ([.fieldLink RX7 15 "TradeWords$Text" "length" "I"] ++ wsX70)
def wsX7_clear : List Cond := .code yX7_clear cX7_clear 1 none :: ([.fieldLink RX7 15 "TradeWords$Text" "length" "I"] ++ wsX70)
def wsX7_append : List Cond := .code yX7_append cX7_append 2 none :: ([.fieldLink RX7 15 "TradeWords$Text" "length" "I", .fieldLink RX7 9 "TradeWords$Text" "bytes" "[B"] ++ wsX70)
def wsX9_init_r1 : List Cond := [Cond.methodLink RX9 1 objectInit, Cond.instanceMethod objectInit, Cond.code objectInit ⟨#[0xb1]⟩ 1 none, Cond.classLink RX9 7 RX7, Cond.instantiable RX7 2, Cond.initialized RX7, Cond.fieldLink RX9 10 "TradeWords" "text" "LTradeWords$Text;", Cond.classLink RX9 16 RX2, Cond.instantiable RX2 6, Cond.initialized RX2, Cond.fieldLink RX9 21 "TradeWords" "item" "LTradeWords$Item;", Cond.classLink RX9 25 RX6, Cond.instantiable RX6 3, Cond.initialized RX6, Cond.fieldLink RX9 28 "TradeWords" "stands" "LTradeWords$Stands;", Cond.classLink RX9 32 RX1, Cond.instantiable RX1 7, Cond.initialized RX1, Cond.fieldLink RX9 35 "TradeWords" "crowd" "LTradeWords$Crowd;", Cond.classLink RX9 39 RX3, Cond.instantiable RX3 1, Cond.initialized RX3, Cond.fieldLink RX9 42 "TradeWords" "measure" "LTradeWords$Measure;", Cond.classLink RX9 46 RX0]
def wsX9_init_r2 : List Cond := [Cond.instantiable RX0 9, Cond.initialized RX0, Cond.fieldLink RX9 49 "TradeWords" "laid" "LTradeWords$Beach;", Cond.fieldLink RX9 53 "TradeWords" "tried" "LTradeWords$Beach;", Cond.instanceMethod yX7_init, Cond.code yX7_init cX7_init 1 none, Cond.methodLink RX7 3 objectInit, Cond.arrayClass .byte, Cond.fieldLink RX7 9 "TradeWords$Text" "bytes" "[B", Cond.methodLink RX9 18 yX2_init, Cond.instanceMethod yX2_init, Cond.code yX2_init cX2_init 2 none, Cond.methodLink RX2 3 objectInit, Cond.arrayClass .int, Cond.fieldLink RX2 9 "TradeWords$Item" "numbers" "[I", Cond.fieldLink RX2 15 "TradeWords$Item" "text" "LTradeWords$Text;", Cond.instanceMethod yX6_init, Cond.code yX6_init cX6_init 1 none, Cond.methodLink RX6 3 objectInit, Cond.fieldLink RX6 11 "TradeWords$Stands" "others" "[I", Cond.fieldLink RX6 15 "TradeWords$Stands" "keptOthers" "[I", Cond.instanceMethod yX1_init, Cond.code yX1_init cX1_init 1 none, Cond.methodLink RX1 3 objectInit]
def wsX9_init_r3 : List Cond := [Cond.arrayClass .long, Cond.fieldLink RX1 11 "TradeWords$Crowd" "now" "[J", Cond.fieldLink RX1 15 "TradeWords$Crowd" "next" "[J", Cond.fieldLink RX1 18 "TradeWords$Crowd" "a" "I", Cond.fieldLink RX1 22 "TradeWords$Crowd" "b" "I", Cond.instanceMethod yX3_init, Cond.code yX3_init cX3_init 1 none, Cond.methodLink RX3 3 objectInit, Cond.fieldLink RX3 9 "TradeWords$Measure" "row" "[I", Cond.methodLink RX9 48 yX0_init, Cond.instanceMethod yX0_init, Cond.code yX0_init cX0_init 1 none, Cond.methodLink RX0 3 objectInit, Cond.fieldLink RX0 9 "TradeWords$Beach" "words" "[I", Cond.fieldLink RX0 15 "TradeWords$Beach" "heard" "[I", Cond.fieldLink RX0 18 "TradeWords$Beach" "canSay" "[I", Cond.fieldLink RX0 21 "TradeWords$Beach" "instead" "[I", Cond.fieldLink RX0 24 "TradeWords$Beach" "traders" "[I", Cond.fieldLink RX0 27 "TradeWords$Beach" "takes" "[I", Cond.classLink RX0 30 RX4, Cond.instantiable RX4 5, Cond.initialized RX4, Cond.fieldLink RX0 33 "TradeWords$Beach" "needs" "LTradeWords$Needs;", Cond.instanceMethod yX4_init]
def wsX9_init_r4 : List Cond := [Cond.code yX4_init cX4_init 1 none, Cond.methodLink RX4 3 objectInit, Cond.fieldLink RX4 9 "TradeWords$Needs" "joinedMeaning" "[I", Cond.fieldLink RX4 15 "TradeWords$Needs" "joinedPair" "[I", Cond.methodLink RX0 37 yX0_clear, Cond.instanceMethod yX0_clear, Cond.selects RX0 yX0_clear yX0_clear, Cond.code yX0_clear cX0_clear 1 none, Cond.constant RX0 48 (65535), Cond.fieldLink RX0 50 "TradeWords$Beach" "speaks" "I", Cond.fieldLink RX0 54 "TradeWords$Beach" "alikeFrom" "I", Cond.methodLink RX0 42 yJ7_fill_53178, Cond.static yJ7_fill_53178, Cond.initialized RJ7, Cond.code yJ7_fill_53178 cJ7_fill_53178 4 none, Cond.methodLink RX0 49 yX4_clear, Cond.instanceMethod yX4_clear, Cond.selects RX4 yX4_clear yX4_clear, Cond.code yX4_clear cX4_clear 1 none, Cond.fieldLink RX4 18 "TradeWords$Needs" "joinedTold" "I", Cond.fieldLink RX4 22 "TradeWords$Needs" "needsTold" "I", Cond.fieldLink RX4 25 "TradeWords$Needs" "needed" "I"]
def wsX9_init : List Cond := .code yX9_init cX9_init 1 none :: ((wsX9_init_r1 ++ (wsX9_init_r2 ++ (wsX9_init_r3 ++ wsX9_init_r4))) ++ wsX70 ++ wsX90 ++ wsX20 ++ wsX60 ++ wsX10 ++ wsX30 ++ wsX00 ++ wsX40)
def wsX9_write : List Cond := .code yX9_write cX9_write 5 (some .int) :: ([.fieldLink RX9 10 "TradeWords" "text" "LTradeWords$Text;", .methodLink RX9 56 yX7_length, .instanceMethod yX7_length, .selects RX7 yX7_length yX7_length, .initialized RX7, .code yX7_length cX7_length 1 (some .int), .fieldLink RX7 15 "TradeWords$Text" "length" "I", .methodLink RX9 60 yX7_append, .instanceMethod yX7_append, .selects RX7 yX7_append yX7_append, .code yX7_append cX7_append 2 none, .fieldLink RX7 9 "TradeWords$Text" "bytes" "[B"] ++ wsX90 ++ wsX70)
def wsX9_wipe : List Cond := .code yX9_wipe cX9_wipe 2 (some .int) :: ([.fieldLink RX9 10 "TradeWords" "text" "LTradeWords$Text;", .methodLink RX9 56 yX7_length, .instanceMethod yX7_length, .selects RX7 yX7_length yX7_length, .initialized RX7, .code yX7_length cX7_length 1 (some .int), .fieldLink RX7 15 "TradeWords$Text" "length" "I", .methodLink RX9 64 yX7_clear, .instanceMethod yX7_clear, .selects RX7 yX7_clear yX7_clear, .code yX7_clear cX7_clear 1 none] ++ wsX90 ++ wsX70)
def wsX9_tryText_r1 : List Cond := [Cond.fieldLink RX9 53 "TradeWords" "tried" "LTradeWords$Beach;", Cond.fieldLink RX9 10 "TradeWords" "text" "LTradeWords$Text;", Cond.fieldLink RX9 21 "TradeWords" "item" "LTradeWords$Item;", Cond.methodLink RX9 244 yX0_clear, Cond.instanceMethod yX0_clear, Cond.selects RX0 yX0_clear yX0_clear, Cond.initialized RX0, Cond.code yX0_clear cX0_clear 1 none, Cond.fieldLink RX0 9 "TradeWords$Beach" "words" "[I", Cond.fieldLink RX0 15 "TradeWords$Beach" "heard" "[I", Cond.fieldLink RX0 18 "TradeWords$Beach" "canSay" "[I", Cond.constant RX0 48 (65535), Cond.fieldLink RX0 21 "TradeWords$Beach" "instead" "[I", Cond.fieldLink RX0 24 "TradeWords$Beach" "traders" "[I", Cond.fieldLink RX0 27 "TradeWords$Beach" "takes" "[I", Cond.fieldLink RX0 33 "TradeWords$Beach" "needs" "LTradeWords$Needs;", Cond.fieldLink RX0 50 "TradeWords$Beach" "speaks" "I", Cond.fieldLink RX0 54 "TradeWords$Beach" "alikeFrom" "I", Cond.methodLink RX0 42 yJ7_fill_53178, Cond.static yJ7_fill_53178, Cond.initialized RJ7, Cond.code yJ7_fill_53178 cJ7_fill_53178 4 none, Cond.methodLink RX0 49 yX4_clear, Cond.instanceMethod yX4_clear]
def wsX9_tryText_r2 : List Cond := [Cond.selects RX4 yX4_clear yX4_clear, Cond.initialized RX4, Cond.code yX4_clear cX4_clear 1 none, Cond.fieldLink RX4 18 "TradeWords$Needs" "joinedTold" "I", Cond.fieldLink RX4 22 "TradeWords$Needs" "needsTold" "I", Cond.fieldLink RX4 25 "TradeWords$Needs" "needed" "I", Cond.methodLink RX9 56 yX7_length, Cond.instanceMethod yX7_length, Cond.selects RX7 yX7_length yX7_length, Cond.initialized RX7, Cond.code yX7_length cX7_length 1 (some .int), Cond.fieldLink RX7 15 "TradeWords$Text" "length" "I", Cond.methodLink RX9 245 yX2_readAt, Cond.instanceMethod yX2_readAt, Cond.selects RX2 yX2_readAt yX2_readAt, Cond.initialized RX2, Cond.code yX2_readAt cX2_readAt 2 (some .boolean), Cond.fieldLink RX2 19 "TradeWords$Item" "place" "I", Cond.fieldLink RX2 15 "TradeWords$Item" "text" "LTradeWords$Text;", Cond.fieldLink RX2 29 "TradeWords$Item" "letter" "I", Cond.methodLink RX2 23 yX7_at, Cond.instanceMethod yX7_at, Cond.selects RX7 yX7_at yX7_at, Cond.code yX7_at cX7_at 2 (some .int)]
def wsX9_tryText_r3 : List Cond := [Cond.fieldLink RX7 9 "TradeWords$Text" "bytes" "[B", Cond.methodLink RX2 32 yX2_readTold, Cond.instanceMethod yX2_readTold, Cond.selects RX2 yX2_readTold yX2_readTold, Cond.code yX2_readTold cX2_readTold 1 (some .boolean), Cond.fieldLink RX2 45 "TradeWords$Item" "word" "I", Cond.methodLink RX2 51 yX2_readNumbers, Cond.instanceMethod yX2_readNumbers, Cond.selects RX2 yX2_readNumbers yX2_readNumbers, Cond.code yX2_readNumbers cX2_readNumbers 3 (some .boolean), Cond.methodLink RX2 58 yX2_readNumber, Cond.instanceMethod yX2_readNumber, Cond.selects RX2 yX2_readNumber yX2_readNumber, Cond.code yX2_readNumber cX2_readNumber 5 (some .boolean), Cond.fieldLink RX2 9 "TradeWords$Item" "numbers" "[I", Cond.methodLink RX2 80 yX2_isFigure, Cond.static yX2_isFigure, Cond.code yX2_isFigure cX2_isFigure 1 (some .boolean), Cond.methodLink RX2 83 yX5_put, Cond.static yX5_put, Cond.initialized RX5, Cond.code yX5_put cX5_put 3 none, Cond.methodLink RX2 36 yX2_passes, Cond.instanceMethod yX2_passes]
def wsX9_tryText_r4 : List Cond := [Cond.selects RX2 yX2_passes yX2_passes, Cond.code yX2_passes cX2_passes 2 (some .boolean), Cond.methodLink RX2 55 yX2_readWord, Cond.instanceMethod yX2_readWord, Cond.selects RX2 yX2_readWord yX2_readWord, Cond.code yX2_readWord cX2_readWord 3 (some .boolean), Cond.methodLink RX2 87 yX8_with, Cond.static yX8_with, Cond.initialized RX8, Cond.code yX8_with cX8_with 3 (some .int), Cond.methodLink RX8 9 yX8_length, Cond.static yX8_length, Cond.code yX8_length cX8_length 1 (some .int), Cond.methodLink RX2 62 yX2_readRising, Cond.instanceMethod yX2_readRising, Cond.selects RX2 yX2_readRising yX2_readRising, Cond.code yX2_readRising cX2_readRising 6 (some .boolean), Cond.fieldLink RX2 48 "TradeWords$Item" "bits" "I", Cond.methodLink RX2 65 yX8_length, Cond.methodLink RX2 70 yX8_soundAt, Cond.static yX8_soundAt, Cond.code yX8_soundAt cX8_soundAt 2 (some .int), Cond.methodLink RX2 74 yX2_readJoined, Cond.instanceMethod yX2_readJoined]
def wsX9_tryText_r5 : List Cond := [Cond.selects RX2 yX2_readJoined yX2_readJoined, Cond.code yX2_readJoined cX2_readJoined 1 (some .boolean), Cond.methodLink RX2 77 yX2_number, Cond.instanceMethod yX2_number, Cond.selects RX2 yX2_number yX2_number, Cond.code yX2_number cX2_number 2 (some .int), Cond.methodLink RX2 40 yX5_at, Cond.static yX5_at, Cond.code yX5_at cX5_at 2 (some .int), Cond.methodLink RX9 248 yX0_accepts, Cond.instanceMethod yX0_accepts, Cond.selects RX0 yX0_accepts yX0_accepts, Cond.code yX0_accepts cX0_accepts 4 (some .boolean), Cond.methodLink RX0 57 yX2_number, Cond.methodLink RX0 63 yX2_letter, Cond.instanceMethod yX2_letter, Cond.selects RX2 yX2_letter yX2_letter, Cond.code yX2_letter cX2_letter 1 (some .int), Cond.methodLink RX0 67 yX0_wordPlace, Cond.static yX0_wordPlace, Cond.code yX0_wordPlace cX0_wordPlace 2 (some .int), Cond.methodLink RX0 71 yX2_spelled, Cond.instanceMethod yX2_spelled, Cond.selects RX2 yX2_spelled yX2_spelled]
def wsX9_tryText_r6 : List Cond := [Cond.code yX2_spelled cX2_spelled 1 (some .int), Cond.methodLink RX0 74 yX5_put, Cond.methodLink RX0 80 yX0_heardPlace, Cond.static yX0_heardPlace, Cond.code yX0_heardPlace cX0_heardPlace 2 (some .int), Cond.methodLink RX0 83 yX2_bits, Cond.instanceMethod yX2_bits, Cond.selects RX2 yX2_bits yX2_bits, Cond.code yX2_bits cX2_bits 1 (some .int), Cond.methodLink RX0 86 yX0_tellExchange, Cond.instanceMethod yX0_tellExchange, Cond.selects RX0 yX0_tellExchange yX0_tellExchange, Cond.code yX0_tellExchange cX0_tellExchange 2 none, Cond.methodLink RX0 101 yX8_soundAt, Cond.methodLink RX0 90 yX0_tellPair, Cond.static yX0_tellPair, Cond.code yX0_tellPair cX0_tellPair 3 none, Cond.methodLink RX0 93 yX4_tellJoined, Cond.instanceMethod yX4_tellJoined, Cond.selects RX4 yX4_tellJoined yX4_tellJoined, Cond.code yX4_tellJoined cX4_tellJoined 3 (some .boolean), Cond.fieldLink RX4 9 "TradeWords$Needs" "joinedMeaning" "[I", Cond.fieldLink RX4 15 "TradeWords$Needs" "joinedPair" "[I", Cond.methodLink RX4 28 yX5_put]
def wsX9_tryText_r7 : List Cond := [Cond.methodLink RX0 97 yX4_tellNeed, Cond.instanceMethod yX4_tellNeed, Cond.selects RX4 yX4_tellNeed yX4_tellNeed, Cond.code yX4_tellNeed cX4_tellNeed 2 (some .boolean), Cond.methodLink RX9 252 yX2_behind, Cond.instanceMethod yX2_behind, Cond.selects RX2 yX2_behind yX2_behind, Cond.code yX2_behind cX2_behind 1 (some .int)]
def wsX9_tryText : List Cond := .code yX9_tryText cX9_tryText 3 (some .int) :: ((wsX9_tryText_r1 ++ (wsX9_tryText_r2 ++ (wsX9_tryText_r3 ++ (wsX9_tryText_r4 ++ (wsX9_tryText_r5 ++ (wsX9_tryText_r6 ++ wsX9_tryText_r7)))))) ++ wsX90 ++ wsX00 ++ wsX40 ++ wsX70 ++ wsX20)
def wsX9_fault_r1 : List Cond := [Cond.methodLink RX9 67 yX9_tryText, Cond.instanceMethod yX9_tryText, Cond.selects RX9 yX9_tryText yX9_tryText, Cond.initialized RX9, Cond.code yX9_tryText cX9_tryText 3 (some .int), Cond.fieldLink RX9 53 "TradeWords" "tried" "LTradeWords$Beach;", Cond.fieldLink RX9 10 "TradeWords" "text" "LTradeWords$Text;", Cond.fieldLink RX9 21 "TradeWords" "item" "LTradeWords$Item;", Cond.methodLink RX9 244 yX0_clear, Cond.instanceMethod yX0_clear, Cond.selects RX0 yX0_clear yX0_clear, Cond.initialized RX0, Cond.code yX0_clear cX0_clear 1 none, Cond.fieldLink RX0 9 "TradeWords$Beach" "words" "[I", Cond.fieldLink RX0 15 "TradeWords$Beach" "heard" "[I", Cond.fieldLink RX0 18 "TradeWords$Beach" "canSay" "[I", Cond.constant RX0 48 (65535), Cond.fieldLink RX0 21 "TradeWords$Beach" "instead" "[I", Cond.fieldLink RX0 24 "TradeWords$Beach" "traders" "[I", Cond.fieldLink RX0 27 "TradeWords$Beach" "takes" "[I", Cond.fieldLink RX0 33 "TradeWords$Beach" "needs" "LTradeWords$Needs;", Cond.fieldLink RX0 50 "TradeWords$Beach" "speaks" "I", Cond.fieldLink RX0 54 "TradeWords$Beach" "alikeFrom" "I", Cond.methodLink RX0 42 yJ7_fill_53178]
def wsX9_fault_r2 : List Cond := [Cond.static yJ7_fill_53178, Cond.initialized RJ7, Cond.code yJ7_fill_53178 cJ7_fill_53178 4 none, Cond.methodLink RX0 49 yX4_clear, Cond.instanceMethod yX4_clear, Cond.selects RX4 yX4_clear yX4_clear, Cond.initialized RX4, Cond.code yX4_clear cX4_clear 1 none, Cond.fieldLink RX4 18 "TradeWords$Needs" "joinedTold" "I", Cond.fieldLink RX4 22 "TradeWords$Needs" "needsTold" "I", Cond.fieldLink RX4 25 "TradeWords$Needs" "needed" "I", Cond.methodLink RX9 56 yX7_length, Cond.instanceMethod yX7_length, Cond.selects RX7 yX7_length yX7_length, Cond.initialized RX7, Cond.code yX7_length cX7_length 1 (some .int), Cond.fieldLink RX7 15 "TradeWords$Text" "length" "I", Cond.methodLink RX9 245 yX2_readAt, Cond.instanceMethod yX2_readAt, Cond.selects RX2 yX2_readAt yX2_readAt, Cond.initialized RX2, Cond.code yX2_readAt cX2_readAt 2 (some .boolean), Cond.fieldLink RX2 19 "TradeWords$Item" "place" "I", Cond.fieldLink RX2 15 "TradeWords$Item" "text" "LTradeWords$Text;"]
def wsX9_fault_r3 : List Cond := [Cond.fieldLink RX2 29 "TradeWords$Item" "letter" "I", Cond.methodLink RX2 23 yX7_at, Cond.instanceMethod yX7_at, Cond.selects RX7 yX7_at yX7_at, Cond.code yX7_at cX7_at 2 (some .int), Cond.fieldLink RX7 9 "TradeWords$Text" "bytes" "[B", Cond.methodLink RX2 32 yX2_readTold, Cond.instanceMethod yX2_readTold, Cond.selects RX2 yX2_readTold yX2_readTold, Cond.code yX2_readTold cX2_readTold 1 (some .boolean), Cond.fieldLink RX2 45 "TradeWords$Item" "word" "I", Cond.methodLink RX2 51 yX2_readNumbers, Cond.instanceMethod yX2_readNumbers, Cond.selects RX2 yX2_readNumbers yX2_readNumbers, Cond.code yX2_readNumbers cX2_readNumbers 3 (some .boolean), Cond.methodLink RX2 58 yX2_readNumber, Cond.instanceMethod yX2_readNumber, Cond.selects RX2 yX2_readNumber yX2_readNumber, Cond.code yX2_readNumber cX2_readNumber 5 (some .boolean), Cond.fieldLink RX2 9 "TradeWords$Item" "numbers" "[I", Cond.methodLink RX2 80 yX2_isFigure, Cond.static yX2_isFigure, Cond.code yX2_isFigure cX2_isFigure 1 (some .boolean), Cond.methodLink RX2 83 yX5_put]
def wsX9_fault_r4 : List Cond := [Cond.static yX5_put, Cond.initialized RX5, Cond.code yX5_put cX5_put 3 none, Cond.methodLink RX2 36 yX2_passes, Cond.instanceMethod yX2_passes, Cond.selects RX2 yX2_passes yX2_passes, Cond.code yX2_passes cX2_passes 2 (some .boolean), Cond.methodLink RX2 55 yX2_readWord, Cond.instanceMethod yX2_readWord, Cond.selects RX2 yX2_readWord yX2_readWord, Cond.code yX2_readWord cX2_readWord 3 (some .boolean), Cond.methodLink RX2 87 yX8_with, Cond.static yX8_with, Cond.initialized RX8, Cond.code yX8_with cX8_with 3 (some .int), Cond.methodLink RX8 9 yX8_length, Cond.static yX8_length, Cond.code yX8_length cX8_length 1 (some .int), Cond.methodLink RX2 62 yX2_readRising, Cond.instanceMethod yX2_readRising, Cond.selects RX2 yX2_readRising yX2_readRising, Cond.code yX2_readRising cX2_readRising 6 (some .boolean), Cond.fieldLink RX2 48 "TradeWords$Item" "bits" "I", Cond.methodLink RX2 65 yX8_length]
def wsX9_fault_r5 : List Cond := [Cond.methodLink RX2 70 yX8_soundAt, Cond.static yX8_soundAt, Cond.code yX8_soundAt cX8_soundAt 2 (some .int), Cond.methodLink RX2 74 yX2_readJoined, Cond.instanceMethod yX2_readJoined, Cond.selects RX2 yX2_readJoined yX2_readJoined, Cond.code yX2_readJoined cX2_readJoined 1 (some .boolean), Cond.methodLink RX2 77 yX2_number, Cond.instanceMethod yX2_number, Cond.selects RX2 yX2_number yX2_number, Cond.code yX2_number cX2_number 2 (some .int), Cond.methodLink RX2 40 yX5_at, Cond.static yX5_at, Cond.code yX5_at cX5_at 2 (some .int), Cond.methodLink RX9 248 yX0_accepts, Cond.instanceMethod yX0_accepts, Cond.selects RX0 yX0_accepts yX0_accepts, Cond.code yX0_accepts cX0_accepts 4 (some .boolean), Cond.methodLink RX0 57 yX2_number, Cond.methodLink RX0 63 yX2_letter, Cond.instanceMethod yX2_letter, Cond.selects RX2 yX2_letter yX2_letter, Cond.code yX2_letter cX2_letter 1 (some .int), Cond.methodLink RX0 67 yX0_wordPlace]
def wsX9_fault_r6 : List Cond := [Cond.static yX0_wordPlace, Cond.code yX0_wordPlace cX0_wordPlace 2 (some .int), Cond.methodLink RX0 71 yX2_spelled, Cond.instanceMethod yX2_spelled, Cond.selects RX2 yX2_spelled yX2_spelled, Cond.code yX2_spelled cX2_spelled 1 (some .int), Cond.methodLink RX0 74 yX5_put, Cond.methodLink RX0 80 yX0_heardPlace, Cond.static yX0_heardPlace, Cond.code yX0_heardPlace cX0_heardPlace 2 (some .int), Cond.methodLink RX0 83 yX2_bits, Cond.instanceMethod yX2_bits, Cond.selects RX2 yX2_bits yX2_bits, Cond.code yX2_bits cX2_bits 1 (some .int), Cond.methodLink RX0 86 yX0_tellExchange, Cond.instanceMethod yX0_tellExchange, Cond.selects RX0 yX0_tellExchange yX0_tellExchange, Cond.code yX0_tellExchange cX0_tellExchange 2 none, Cond.methodLink RX0 101 yX8_soundAt, Cond.methodLink RX0 90 yX0_tellPair, Cond.static yX0_tellPair, Cond.code yX0_tellPair cX0_tellPair 3 none, Cond.methodLink RX0 93 yX4_tellJoined, Cond.instanceMethod yX4_tellJoined]
def wsX9_fault_r7 : List Cond := [Cond.selects RX4 yX4_tellJoined yX4_tellJoined, Cond.code yX4_tellJoined cX4_tellJoined 3 (some .boolean), Cond.fieldLink RX4 9 "TradeWords$Needs" "joinedMeaning" "[I", Cond.fieldLink RX4 15 "TradeWords$Needs" "joinedPair" "[I", Cond.methodLink RX4 28 yX5_put, Cond.methodLink RX0 97 yX4_tellNeed, Cond.instanceMethod yX4_tellNeed, Cond.selects RX4 yX4_tellNeed yX4_tellNeed, Cond.code yX4_tellNeed cX4_tellNeed 2 (some .boolean), Cond.methodLink RX9 252 yX2_behind, Cond.instanceMethod yX2_behind, Cond.selects RX2 yX2_behind yX2_behind, Cond.code yX2_behind cX2_behind 1 (some .int)]
def wsX9_fault : List Cond := .code yX9_fault cX9_fault 1 (some .int) :: ((wsX9_fault_r1 ++ (wsX9_fault_r2 ++ (wsX9_fault_r3 ++ (wsX9_fault_r4 ++ (wsX9_fault_r5 ++ (wsX9_fault_r6 ++ wsX9_fault_r7)))))) ++ wsX90 ++ wsX00 ++ wsX40 ++ wsX70 ++ wsX20)
def wsX9_toldMeanings : List Cond := .code yX9_toldMeanings cX9_toldMeanings 3 (some .int) :: ([.fieldLink RX9 49 "TradeWords" "laid" "LTradeWords$Beach;", .methodLink RX9 99 yX0_isTold, .instanceMethod yX0_isTold, .selects RX0 yX0_isTold yX0_isTold, .initialized RX0, .code yX0_isTold cX0_isTold 2 (some .boolean), .methodLink RX0 108 yX0_wordOf, .instanceMethod yX0_wordOf, .selects RX0 yX0_wordOf yX0_wordOf, .code yX0_wordOf cX0_wordOf 3 (some .int), .fieldLink RX0 9 "TradeWords$Beach" "words" "[I", .methodLink RX0 67 yX0_wordPlace, .static yX0_wordPlace, .code yX0_wordPlace cX0_wordPlace 2 (some .int), .methodLink RX0 104 yX5_at, .static yX5_at, .initialized RX5, .code yX5_at cX5_at 2 (some .int)] ++ wsX90 ++ wsX00)
def wsX9_lay_r1 : List Cond := [Cond.fieldLink RX9 49 "TradeWords" "laid" "LTradeWords$Beach;", Cond.fieldLink RX9 53 "TradeWords" "tried" "LTradeWords$Beach;", Cond.fieldLink RX9 28 "TradeWords" "stands" "LTradeWords$Stands;", Cond.methodLink RX9 67 yX9_tryText, Cond.instanceMethod yX9_tryText, Cond.selects RX9 yX9_tryText yX9_tryText, Cond.initialized RX9, Cond.code yX9_tryText cX9_tryText 3 (some .int), Cond.fieldLink RX9 10 "TradeWords" "text" "LTradeWords$Text;", Cond.fieldLink RX9 21 "TradeWords" "item" "LTradeWords$Item;", Cond.methodLink RX9 244 yX0_clear, Cond.instanceMethod yX0_clear, Cond.selects RX0 yX0_clear yX0_clear, Cond.initialized RX0, Cond.code yX0_clear cX0_clear 1 none, Cond.fieldLink RX0 9 "TradeWords$Beach" "words" "[I", Cond.fieldLink RX0 15 "TradeWords$Beach" "heard" "[I", Cond.fieldLink RX0 18 "TradeWords$Beach" "canSay" "[I", Cond.constant RX0 48 (65535), Cond.fieldLink RX0 21 "TradeWords$Beach" "instead" "[I", Cond.fieldLink RX0 24 "TradeWords$Beach" "traders" "[I", Cond.fieldLink RX0 27 "TradeWords$Beach" "takes" "[I", Cond.fieldLink RX0 33 "TradeWords$Beach" "needs" "LTradeWords$Needs;", Cond.fieldLink RX0 50 "TradeWords$Beach" "speaks" "I"]
def wsX9_lay_r2 : List Cond := [Cond.fieldLink RX0 54 "TradeWords$Beach" "alikeFrom" "I", Cond.methodLink RX0 42 yJ7_fill_53178, Cond.static yJ7_fill_53178, Cond.initialized RJ7, Cond.code yJ7_fill_53178 cJ7_fill_53178 4 none, Cond.methodLink RX0 49 yX4_clear, Cond.instanceMethod yX4_clear, Cond.selects RX4 yX4_clear yX4_clear, Cond.initialized RX4, Cond.code yX4_clear cX4_clear 1 none, Cond.fieldLink RX4 18 "TradeWords$Needs" "joinedTold" "I", Cond.fieldLink RX4 22 "TradeWords$Needs" "needsTold" "I", Cond.fieldLink RX4 25 "TradeWords$Needs" "needed" "I", Cond.methodLink RX9 56 yX7_length, Cond.instanceMethod yX7_length, Cond.selects RX7 yX7_length yX7_length, Cond.initialized RX7, Cond.code yX7_length cX7_length 1 (some .int), Cond.fieldLink RX7 15 "TradeWords$Text" "length" "I", Cond.methodLink RX9 245 yX2_readAt, Cond.instanceMethod yX2_readAt, Cond.selects RX2 yX2_readAt yX2_readAt, Cond.initialized RX2, Cond.code yX2_readAt cX2_readAt 2 (some .boolean)]
def wsX9_lay_r3 : List Cond := [Cond.fieldLink RX2 19 "TradeWords$Item" "place" "I", Cond.fieldLink RX2 15 "TradeWords$Item" "text" "LTradeWords$Text;", Cond.fieldLink RX2 29 "TradeWords$Item" "letter" "I", Cond.methodLink RX2 23 yX7_at, Cond.instanceMethod yX7_at, Cond.selects RX7 yX7_at yX7_at, Cond.code yX7_at cX7_at 2 (some .int), Cond.fieldLink RX7 9 "TradeWords$Text" "bytes" "[B", Cond.methodLink RX2 32 yX2_readTold, Cond.instanceMethod yX2_readTold, Cond.selects RX2 yX2_readTold yX2_readTold, Cond.code yX2_readTold cX2_readTold 1 (some .boolean), Cond.fieldLink RX2 45 "TradeWords$Item" "word" "I", Cond.methodLink RX2 51 yX2_readNumbers, Cond.instanceMethod yX2_readNumbers, Cond.selects RX2 yX2_readNumbers yX2_readNumbers, Cond.code yX2_readNumbers cX2_readNumbers 3 (some .boolean), Cond.methodLink RX2 58 yX2_readNumber, Cond.instanceMethod yX2_readNumber, Cond.selects RX2 yX2_readNumber yX2_readNumber, Cond.code yX2_readNumber cX2_readNumber 5 (some .boolean), Cond.fieldLink RX2 9 "TradeWords$Item" "numbers" "[I", Cond.methodLink RX2 80 yX2_isFigure, Cond.static yX2_isFigure]
def wsX9_lay_r4 : List Cond := [Cond.code yX2_isFigure cX2_isFigure 1 (some .boolean), Cond.methodLink RX2 83 yX5_put, Cond.static yX5_put, Cond.initialized RX5, Cond.code yX5_put cX5_put 3 none, Cond.methodLink RX2 36 yX2_passes, Cond.instanceMethod yX2_passes, Cond.selects RX2 yX2_passes yX2_passes, Cond.code yX2_passes cX2_passes 2 (some .boolean), Cond.methodLink RX2 55 yX2_readWord, Cond.instanceMethod yX2_readWord, Cond.selects RX2 yX2_readWord yX2_readWord, Cond.code yX2_readWord cX2_readWord 3 (some .boolean), Cond.methodLink RX2 87 yX8_with, Cond.static yX8_with, Cond.initialized RX8, Cond.code yX8_with cX8_with 3 (some .int), Cond.methodLink RX8 9 yX8_length, Cond.static yX8_length, Cond.code yX8_length cX8_length 1 (some .int), Cond.methodLink RX2 62 yX2_readRising, Cond.instanceMethod yX2_readRising, Cond.selects RX2 yX2_readRising yX2_readRising, Cond.code yX2_readRising cX2_readRising 6 (some .boolean)]
def wsX9_lay_r5 : List Cond := [Cond.fieldLink RX2 48 "TradeWords$Item" "bits" "I", Cond.methodLink RX2 65 yX8_length, Cond.methodLink RX2 70 yX8_soundAt, Cond.static yX8_soundAt, Cond.code yX8_soundAt cX8_soundAt 2 (some .int), Cond.methodLink RX2 74 yX2_readJoined, Cond.instanceMethod yX2_readJoined, Cond.selects RX2 yX2_readJoined yX2_readJoined, Cond.code yX2_readJoined cX2_readJoined 1 (some .boolean), Cond.methodLink RX2 77 yX2_number, Cond.instanceMethod yX2_number, Cond.selects RX2 yX2_number yX2_number, Cond.code yX2_number cX2_number 2 (some .int), Cond.methodLink RX2 40 yX5_at, Cond.static yX5_at, Cond.code yX5_at cX5_at 2 (some .int), Cond.methodLink RX9 248 yX0_accepts, Cond.instanceMethod yX0_accepts, Cond.selects RX0 yX0_accepts yX0_accepts, Cond.code yX0_accepts cX0_accepts 4 (some .boolean), Cond.methodLink RX0 57 yX2_number, Cond.methodLink RX0 63 yX2_letter, Cond.instanceMethod yX2_letter, Cond.selects RX2 yX2_letter yX2_letter]
def wsX9_lay_r6 : List Cond := [Cond.code yX2_letter cX2_letter 1 (some .int), Cond.methodLink RX0 67 yX0_wordPlace, Cond.static yX0_wordPlace, Cond.code yX0_wordPlace cX0_wordPlace 2 (some .int), Cond.methodLink RX0 71 yX2_spelled, Cond.instanceMethod yX2_spelled, Cond.selects RX2 yX2_spelled yX2_spelled, Cond.code yX2_spelled cX2_spelled 1 (some .int), Cond.methodLink RX0 74 yX5_put, Cond.methodLink RX0 80 yX0_heardPlace, Cond.static yX0_heardPlace, Cond.code yX0_heardPlace cX0_heardPlace 2 (some .int), Cond.methodLink RX0 83 yX2_bits, Cond.instanceMethod yX2_bits, Cond.selects RX2 yX2_bits yX2_bits, Cond.code yX2_bits cX2_bits 1 (some .int), Cond.methodLink RX0 86 yX0_tellExchange, Cond.instanceMethod yX0_tellExchange, Cond.selects RX0 yX0_tellExchange yX0_tellExchange, Cond.code yX0_tellExchange cX0_tellExchange 2 none, Cond.methodLink RX0 101 yX8_soundAt, Cond.methodLink RX0 90 yX0_tellPair, Cond.static yX0_tellPair, Cond.code yX0_tellPair cX0_tellPair 3 none]
def wsX9_lay_r7 : List Cond := [Cond.methodLink RX0 93 yX4_tellJoined, Cond.instanceMethod yX4_tellJoined, Cond.selects RX4 yX4_tellJoined yX4_tellJoined, Cond.code yX4_tellJoined cX4_tellJoined 3 (some .boolean), Cond.fieldLink RX4 9 "TradeWords$Needs" "joinedMeaning" "[I", Cond.fieldLink RX4 15 "TradeWords$Needs" "joinedPair" "[I", Cond.methodLink RX4 28 yX5_put, Cond.methodLink RX0 97 yX4_tellNeed, Cond.instanceMethod yX4_tellNeed, Cond.selects RX4 yX4_tellNeed yX4_tellNeed, Cond.code yX4_tellNeed cX4_tellNeed 2 (some .boolean), Cond.methodLink RX9 252 yX2_behind, Cond.instanceMethod yX2_behind, Cond.selects RX2 yX2_behind yX2_behind, Cond.code yX2_behind cX2_behind 1 (some .int), Cond.methodLink RX9 70 yX6_clear, Cond.instanceMethod yX6_clear, Cond.selects RX6 yX6_clear yX6_clear, Cond.initialized RX6, Cond.code yX6_clear cX6_clear 1 none, Cond.fieldLink RX6 11 "TradeWords$Stands" "others" "[I", Cond.fieldLink RX6 24 "TradeWords$Stands" "kept" "I", Cond.methodLink RX6 18 yJ7_fill_53178, Cond.methodLink RX9 71 yX9_toldMeanings]
def wsX9_lay_r8 : List Cond := [Cond.instanceMethod yX9_toldMeanings, Cond.selects RX9 yX9_toldMeanings yX9_toldMeanings, Cond.code yX9_toldMeanings cX9_toldMeanings 3 (some .int), Cond.methodLink RX9 99 yX0_isTold, Cond.instanceMethod yX0_isTold, Cond.selects RX0 yX0_isTold yX0_isTold, Cond.code yX0_isTold cX0_isTold 2 (some .boolean), Cond.methodLink RX0 108 yX0_wordOf, Cond.instanceMethod yX0_wordOf, Cond.selects RX0 yX0_wordOf yX0_wordOf, Cond.code yX0_wordOf cX0_wordOf 3 (some .int), Cond.methodLink RX0 104 yX5_at]
def wsX9_lay : List Cond := .code yX9_lay cX9_lay 2 (some .int) :: ((wsX9_lay_r1 ++ (wsX9_lay_r2 ++ (wsX9_lay_r3 ++ (wsX9_lay_r4 ++ (wsX9_lay_r5 ++ (wsX9_lay_r6 ++ (wsX9_lay_r7 ++ wsX9_lay_r8))))))) ++ wsX90 ++ wsX00 ++ wsX40 ++ wsX70 ++ wsX20 ++ wsX60)
def wsX9_isPeople : List Cond := .code yX9_isPeople cX9_isPeople 1 (some .boolean) :: ([])
def wsX9_isMeaning : List Cond := .code yX9_isMeaning cX9_isMeaning 1 (some .boolean) :: ([])
def wsX9_word_r1 : List Cond := [Cond.fieldLink RX9 49 "TradeWords" "laid" "LTradeWords$Beach;", Cond.methodLink RX9 74 yX9_isPeople, Cond.static yX9_isPeople, Cond.initialized RX9, Cond.code yX9_isPeople cX9_isPeople 1 (some .boolean), Cond.methodLink RX9 78 yX9_isMeaning, Cond.static yX9_isMeaning, Cond.code yX9_isMeaning cX9_isMeaning 1 (some .boolean), Cond.methodLink RX9 81 yX0_wordOf, Cond.instanceMethod yX0_wordOf, Cond.selects RX0 yX0_wordOf yX0_wordOf, Cond.initialized RX0, Cond.code yX0_wordOf cX0_wordOf 3 (some .int), Cond.fieldLink RX0 9 "TradeWords$Beach" "words" "[I", Cond.methodLink RX0 67 yX0_wordPlace, Cond.static yX0_wordPlace, Cond.code yX0_wordPlace cX0_wordPlace 2 (some .int), Cond.methodLink RX0 104 yX5_at, Cond.static yX5_at, Cond.initialized RX5, Cond.code yX5_at cX5_at 2 (some .int), Cond.methodLink RX9 85 yX0_saidBy, Cond.instanceMethod yX0_saidBy, Cond.selects RX0 yX0_saidBy yX0_saidBy]
def wsX9_word_r2 : List Cond := [Cond.code yX0_saidBy cX0_saidBy 6 (some .int), Cond.methodLink RX0 111 yX8_length, Cond.static yX8_length, Cond.initialized RX8, Cond.code yX8_length cX8_length 1 (some .int), Cond.methodLink RX0 101 yX8_soundAt, Cond.static yX8_soundAt, Cond.code yX8_soundAt cX8_soundAt 2 (some .int), Cond.methodLink RX0 114 yX0_soundSaidBy, Cond.instanceMethod yX0_soundSaidBy, Cond.selects RX0 yX0_soundSaidBy yX0_soundSaidBy, Cond.code yX0_soundSaidBy cX0_soundSaidBy 5 (some .int), Cond.fieldLink RX0 18 "TradeWords$Beach" "canSay" "[I", Cond.fieldLink RX0 21 "TradeWords$Beach" "instead" "[I", Cond.methodLink RX0 117 yX8_with, Cond.static yX8_with, Cond.code yX8_with cX8_with 3 (some .int), Cond.methodLink RX8 9 yX8_length, Cond.methodLink RX9 88 yX8_length, Cond.methodLink RX9 93 yX8_soundAt]
def wsX9_word : List Cond := .code yX9_word cX9_word 6 (some .int) :: ((wsX9_word_r1 ++ wsX9_word_r2) ++ wsX90 ++ wsX00)
def wsX9_far_r1 : List Cond := [Cond.fieldLink RX9 49 "TradeWords" "laid" "LTradeWords$Beach;", Cond.fieldLink RX9 42 "TradeWords" "measure" "LTradeWords$Measure;", Cond.methodLink RX9 74 yX9_isPeople, Cond.static yX9_isPeople, Cond.initialized RX9, Cond.code yX9_isPeople cX9_isPeople 1 (some .boolean), Cond.methodLink RX9 78 yX9_isMeaning, Cond.static yX9_isMeaning, Cond.code yX9_isMeaning cX9_isMeaning 1 (some .boolean), Cond.methodLink RX9 81 yX0_wordOf, Cond.instanceMethod yX0_wordOf, Cond.selects RX0 yX0_wordOf yX0_wordOf, Cond.initialized RX0, Cond.code yX0_wordOf cX0_wordOf 3 (some .int), Cond.fieldLink RX0 9 "TradeWords$Beach" "words" "[I", Cond.methodLink RX0 67 yX0_wordPlace, Cond.static yX0_wordPlace, Cond.code yX0_wordPlace cX0_wordPlace 2 (some .int), Cond.methodLink RX0 104 yX5_at, Cond.static yX5_at, Cond.initialized RX5, Cond.code yX5_at cX5_at 2 (some .int), Cond.methodLink RX9 96 yX3_apart, Cond.instanceMethod yX3_apart]
def wsX9_far_r2 : List Cond := [Cond.selects RX3 yX3_apart yX3_apart, Cond.initialized RX3, Cond.code yX3_apart cX3_apart 8 (some .int), Cond.methodLink RX3 21 Lib.Math.min.name, Cond.static Lib.Math.min.name, Cond.initialized "java/lang/Math", Cond.code Lib.Math.min.name Lib.Math.min.code 2 (some .int), Cond.fieldLink RX3 9 "TradeWords$Measure" "row" "[I", Cond.methodLink RX3 15 yX8_length, Cond.static yX8_length, Cond.initialized RX8, Cond.code yX8_length cX8_length 1 (some .int), Cond.methodLink RX3 27 yX8_soundAt, Cond.static yX8_soundAt, Cond.code yX8_soundAt cX8_soundAt 2 (some .int)]
def wsX9_far : List Cond := .code yX9_far cX9_far 7 (some .int) :: ((wsX9_far_r1 ++ wsX9_far_r2) ++ wsX90 ++ wsX00 ++ wsX30)
def wsX9_likeOfMeaning_r1 : List Cond := [Cond.fieldLink RX9 42 "TradeWords" "measure" "LTradeWords$Measure;", Cond.fieldLink RX9 49 "TradeWords" "laid" "LTradeWords$Beach;", Cond.methodLink RX9 81 yX0_wordOf, Cond.instanceMethod yX0_wordOf, Cond.selects RX0 yX0_wordOf yX0_wordOf, Cond.initialized RX0, Cond.code yX0_wordOf cX0_wordOf 3 (some .int), Cond.fieldLink RX0 9 "TradeWords$Beach" "words" "[I", Cond.methodLink RX0 67 yX0_wordPlace, Cond.static yX0_wordPlace, Cond.code yX0_wordPlace cX0_wordPlace 2 (some .int), Cond.methodLink RX0 104 yX5_at, Cond.static yX5_at, Cond.initialized RX5, Cond.code yX5_at cX5_at 2 (some .int), Cond.methodLink RX9 85 yX0_saidBy, Cond.instanceMethod yX0_saidBy, Cond.selects RX0 yX0_saidBy yX0_saidBy, Cond.code yX0_saidBy cX0_saidBy 6 (some .int), Cond.methodLink RX0 111 yX8_length, Cond.static yX8_length, Cond.initialized RX8, Cond.code yX8_length cX8_length 1 (some .int), Cond.methodLink RX0 101 yX8_soundAt]
def wsX9_likeOfMeaning_r2 : List Cond := [Cond.static yX8_soundAt, Cond.code yX8_soundAt cX8_soundAt 2 (some .int), Cond.methodLink RX0 114 yX0_soundSaidBy, Cond.instanceMethod yX0_soundSaidBy, Cond.selects RX0 yX0_soundSaidBy yX0_soundSaidBy, Cond.code yX0_soundSaidBy cX0_soundSaidBy 5 (some .int), Cond.fieldLink RX0 18 "TradeWords$Beach" "canSay" "[I", Cond.fieldLink RX0 21 "TradeWords$Beach" "instead" "[I", Cond.methodLink RX0 117 yX8_with, Cond.static yX8_with, Cond.code yX8_with cX8_with 3 (some .int), Cond.methodLink RX8 9 yX8_length, Cond.methodLink RX9 199 yX3_likeness, Cond.instanceMethod yX3_likeness, Cond.selects RX3 yX3_likeness yX3_likeness, Cond.initialized RX3, Cond.code yX3_likeness cX3_likeness 4 (some .int), Cond.methodLink RX3 30 Lib.Math.max.name, Cond.static Lib.Math.max.name, Cond.initialized "java/lang/Math", Cond.code Lib.Math.max.name Lib.Math.max.code 2 (some .int), Cond.methodLink RX3 15 yX8_length, Cond.methodLink RX3 33 yX3_apart, Cond.instanceMethod yX3_apart]
def wsX9_likeOfMeaning_r3 : List Cond := [Cond.selects RX3 yX3_apart yX3_apart, Cond.code yX3_apart cX3_apart 8 (some .int), Cond.methodLink RX3 21 Lib.Math.min.name, Cond.static Lib.Math.min.name, Cond.code Lib.Math.min.name Lib.Math.min.code 2 (some .int), Cond.fieldLink RX3 9 "TradeWords$Measure" "row" "[I", Cond.methodLink RX3 27 yX8_soundAt]
def wsX9_likeOfMeaning : List Cond := .code yX9_likeOfMeaning cX9_likeOfMeaning 2 (some .int) :: ((wsX9_likeOfMeaning_r1 ++ (wsX9_likeOfMeaning_r2 ++ wsX9_likeOfMeaning_r3)) ++ wsX90 ++ wsX00 ++ wsX30)
def wsX9_like_r1 : List Cond := [Cond.fieldLink RX9 49 "TradeWords" "laid" "LTradeWords$Beach;", Cond.methodLink RX9 78 yX9_isMeaning, Cond.static yX9_isMeaning, Cond.initialized RX9, Cond.code yX9_isMeaning cX9_isMeaning 1 (some .boolean), Cond.methodLink RX9 99 yX0_isTold, Cond.instanceMethod yX0_isTold, Cond.selects RX0 yX0_isTold yX0_isTold, Cond.initialized RX0, Cond.code yX0_isTold cX0_isTold 2 (some .boolean), Cond.methodLink RX0 108 yX0_wordOf, Cond.instanceMethod yX0_wordOf, Cond.selects RX0 yX0_wordOf yX0_wordOf, Cond.code yX0_wordOf cX0_wordOf 3 (some .int), Cond.fieldLink RX0 9 "TradeWords$Beach" "words" "[I", Cond.methodLink RX0 67 yX0_wordPlace, Cond.static yX0_wordPlace, Cond.code yX0_wordPlace cX0_wordPlace 2 (some .int), Cond.methodLink RX0 104 yX5_at, Cond.static yX5_at, Cond.initialized RX5, Cond.code yX5_at cX5_at 2 (some .int), Cond.methodLink RX9 102 yX9_likeOfMeaning, Cond.instanceMethod yX9_likeOfMeaning]
def wsX9_like_r2 : List Cond := [Cond.selects RX9 yX9_likeOfMeaning yX9_likeOfMeaning, Cond.code yX9_likeOfMeaning cX9_likeOfMeaning 2 (some .int), Cond.fieldLink RX9 42 "TradeWords" "measure" "LTradeWords$Measure;", Cond.methodLink RX9 81 yX0_wordOf, Cond.methodLink RX9 85 yX0_saidBy, Cond.instanceMethod yX0_saidBy, Cond.selects RX0 yX0_saidBy yX0_saidBy, Cond.code yX0_saidBy cX0_saidBy 6 (some .int), Cond.methodLink RX0 111 yX8_length, Cond.static yX8_length, Cond.initialized RX8, Cond.code yX8_length cX8_length 1 (some .int), Cond.methodLink RX0 101 yX8_soundAt, Cond.static yX8_soundAt, Cond.code yX8_soundAt cX8_soundAt 2 (some .int), Cond.methodLink RX0 114 yX0_soundSaidBy, Cond.instanceMethod yX0_soundSaidBy, Cond.selects RX0 yX0_soundSaidBy yX0_soundSaidBy, Cond.code yX0_soundSaidBy cX0_soundSaidBy 5 (some .int), Cond.fieldLink RX0 18 "TradeWords$Beach" "canSay" "[I", Cond.fieldLink RX0 21 "TradeWords$Beach" "instead" "[I", Cond.methodLink RX0 117 yX8_with, Cond.static yX8_with, Cond.code yX8_with cX8_with 3 (some .int)]
def wsX9_like_r3 : List Cond := [Cond.methodLink RX8 9 yX8_length, Cond.methodLink RX9 199 yX3_likeness, Cond.instanceMethod yX3_likeness, Cond.selects RX3 yX3_likeness yX3_likeness, Cond.initialized RX3, Cond.code yX3_likeness cX3_likeness 4 (some .int), Cond.methodLink RX3 30 Lib.Math.max.name, Cond.static Lib.Math.max.name, Cond.initialized "java/lang/Math", Cond.code Lib.Math.max.name Lib.Math.max.code 2 (some .int), Cond.methodLink RX3 15 yX8_length, Cond.methodLink RX3 33 yX3_apart, Cond.instanceMethod yX3_apart, Cond.selects RX3 yX3_apart yX3_apart, Cond.code yX3_apart cX3_apart 8 (some .int), Cond.methodLink RX3 21 Lib.Math.min.name, Cond.static Lib.Math.min.name, Cond.code Lib.Math.min.name Lib.Math.min.code 2 (some .int), Cond.fieldLink RX3 9 "TradeWords$Measure" "row" "[I", Cond.methodLink RX3 27 yX8_soundAt]
def wsX9_like : List Cond := .code yX9_like cX9_like 2 (some .int) :: ((wsX9_like_r1 ++ (wsX9_like_r2 ++ wsX9_like_r3)) ++ wsX90 ++ wsX00 ++ wsX30)
def wsX9_stand_r1 : List Cond := [Cond.fieldLink RX9 49 "TradeWords" "laid" "LTradeWords$Beach;", Cond.fieldLink RX9 28 "TradeWords" "stands" "LTradeWords$Stands;", Cond.methodLink RX9 78 yX9_isMeaning, Cond.static yX9_isMeaning, Cond.initialized RX9, Cond.code yX9_isMeaning cX9_isMeaning 1 (some .boolean), Cond.methodLink RX9 74 yX9_isPeople, Cond.static yX9_isPeople, Cond.code yX9_isPeople cX9_isPeople 1 (some .boolean), Cond.methodLink RX9 99 yX0_isTold, Cond.instanceMethod yX0_isTold, Cond.selects RX0 yX0_isTold yX0_isTold, Cond.initialized RX0, Cond.code yX0_isTold cX0_isTold 2 (some .boolean), Cond.methodLink RX0 108 yX0_wordOf, Cond.instanceMethod yX0_wordOf, Cond.selects RX0 yX0_wordOf yX0_wordOf, Cond.code yX0_wordOf cX0_wordOf 3 (some .int), Cond.fieldLink RX0 9 "TradeWords$Beach" "words" "[I", Cond.methodLink RX0 67 yX0_wordPlace, Cond.static yX0_wordPlace, Cond.code yX0_wordPlace cX0_wordPlace 2 (some .int), Cond.methodLink RX0 104 yX5_at, Cond.static yX5_at]
def wsX9_stand_r2 : List Cond := [Cond.initialized RX5, Cond.code yX5_at cX5_at 2 (some .int), Cond.methodLink RX9 105 yX6_of, Cond.instanceMethod yX6_of, Cond.selects RX6 yX6_of yX6_of, Cond.initialized RX6, Cond.code yX6_of cX6_of 3 (some .int), Cond.fieldLink RX6 11 "TradeWords$Stands" "others" "[I", Cond.methodLink RX6 28 yX5_at]
def wsX9_stand : List Cond := .code yX9_stand cX9_stand 3 (some .int) :: ((wsX9_stand_r1 ++ wsX9_stand_r2) ++ wsX90 ++ wsX00 ++ wsX60)
def wsX9_isStand : List Cond := .code yX9_isStand cX9_isStand 3 (some .boolean) :: ([.fieldLink RX9 49 "TradeWords" "laid" "LTradeWords$Beach;", .methodLink RX9 168 yX0_tradersOf, .instanceMethod yX0_tradersOf, .selects RX0 yX0_tradersOf yX0_tradersOf, .initialized RX0, .code yX0_tradersOf cX0_tradersOf 2 (some .int), .fieldLink RX0 24 "TradeWords$Beach" "traders" "[I", .methodLink RX0 104 yX5_at, .static yX5_at, .initialized RX5, .code yX5_at cX5_at 2 (some .int)] ++ wsX90 ++ wsX00)
def wsX9_set_r1 : List Cond := [Cond.fieldLink RX9 49 "TradeWords" "laid" "LTradeWords$Beach;", Cond.fieldLink RX9 28 "TradeWords" "stands" "LTradeWords$Stands;", Cond.methodLink RX9 78 yX9_isMeaning, Cond.static yX9_isMeaning, Cond.initialized RX9, Cond.code yX9_isMeaning cX9_isMeaning 1 (some .boolean), Cond.methodLink RX9 108 yX9_isStand, Cond.instanceMethod yX9_isStand, Cond.selects RX9 yX9_isStand yX9_isStand, Cond.code yX9_isStand cX9_isStand 3 (some .boolean), Cond.methodLink RX9 168 yX0_tradersOf, Cond.instanceMethod yX0_tradersOf, Cond.selects RX0 yX0_tradersOf yX0_tradersOf, Cond.initialized RX0, Cond.code yX0_tradersOf cX0_tradersOf 2 (some .int), Cond.fieldLink RX0 24 "TradeWords$Beach" "traders" "[I", Cond.methodLink RX0 104 yX5_at, Cond.static yX5_at, Cond.initialized RX5, Cond.code yX5_at cX5_at 2 (some .int), Cond.methodLink RX9 99 yX0_isTold, Cond.instanceMethod yX0_isTold, Cond.selects RX0 yX0_isTold yX0_isTold, Cond.code yX0_isTold cX0_isTold 2 (some .boolean)]
def wsX9_set_r2 : List Cond := [Cond.methodLink RX0 108 yX0_wordOf, Cond.instanceMethod yX0_wordOf, Cond.selects RX0 yX0_wordOf yX0_wordOf, Cond.code yX0_wordOf cX0_wordOf 3 (some .int), Cond.fieldLink RX0 9 "TradeWords$Beach" "words" "[I", Cond.methodLink RX0 67 yX0_wordPlace, Cond.static yX0_wordPlace, Cond.code yX0_wordPlace cX0_wordPlace 2 (some .int), Cond.methodLink RX9 112 yX6_put, Cond.instanceMethod yX6_put, Cond.selects RX6 yX6_put yX6_put, Cond.initialized RX6, Cond.code yX6_put cX6_put 4 none, Cond.fieldLink RX6 11 "TradeWords$Stands" "others" "[I", Cond.methodLink RX6 34 yX5_put, Cond.static yX5_put, Cond.code yX5_put cX5_put 3 none]
def wsX9_set : List Cond := .code yX9_set cX9_set 4 (some .int) :: ((wsX9_set_r1 ++ wsX9_set_r2) ++ wsX90 ++ wsX00 ++ wsX60)
def wsX9_isMeetings : List Cond := .code yX9_isMeetings cX9_isMeetings 1 (some .boolean) :: ([])
def wsX9_isAlike_r1 : List Cond := [Cond.fieldLink RX9 49 "TradeWords" "laid" "LTradeWords$Beach;", Cond.methodLink RX9 102 yX9_likeOfMeaning, Cond.instanceMethod yX9_likeOfMeaning, Cond.selects RX9 yX9_likeOfMeaning yX9_likeOfMeaning, Cond.initialized RX9, Cond.code yX9_likeOfMeaning cX9_likeOfMeaning 2 (some .int), Cond.fieldLink RX9 42 "TradeWords" "measure" "LTradeWords$Measure;", Cond.methodLink RX9 81 yX0_wordOf, Cond.instanceMethod yX0_wordOf, Cond.selects RX0 yX0_wordOf yX0_wordOf, Cond.initialized RX0, Cond.code yX0_wordOf cX0_wordOf 3 (some .int), Cond.fieldLink RX0 9 "TradeWords$Beach" "words" "[I", Cond.methodLink RX0 67 yX0_wordPlace, Cond.static yX0_wordPlace, Cond.code yX0_wordPlace cX0_wordPlace 2 (some .int), Cond.methodLink RX0 104 yX5_at, Cond.static yX5_at, Cond.initialized RX5, Cond.code yX5_at cX5_at 2 (some .int), Cond.methodLink RX9 85 yX0_saidBy, Cond.instanceMethod yX0_saidBy, Cond.selects RX0 yX0_saidBy yX0_saidBy, Cond.code yX0_saidBy cX0_saidBy 6 (some .int)]
def wsX9_isAlike_r2 : List Cond := [Cond.methodLink RX0 111 yX8_length, Cond.static yX8_length, Cond.initialized RX8, Cond.code yX8_length cX8_length 1 (some .int), Cond.methodLink RX0 101 yX8_soundAt, Cond.static yX8_soundAt, Cond.code yX8_soundAt cX8_soundAt 2 (some .int), Cond.methodLink RX0 114 yX0_soundSaidBy, Cond.instanceMethod yX0_soundSaidBy, Cond.selects RX0 yX0_soundSaidBy yX0_soundSaidBy, Cond.code yX0_soundSaidBy cX0_soundSaidBy 5 (some .int), Cond.fieldLink RX0 18 "TradeWords$Beach" "canSay" "[I", Cond.fieldLink RX0 21 "TradeWords$Beach" "instead" "[I", Cond.methodLink RX0 117 yX8_with, Cond.static yX8_with, Cond.code yX8_with cX8_with 3 (some .int), Cond.methodLink RX8 9 yX8_length, Cond.methodLink RX9 199 yX3_likeness, Cond.instanceMethod yX3_likeness, Cond.selects RX3 yX3_likeness yX3_likeness, Cond.initialized RX3, Cond.code yX3_likeness cX3_likeness 4 (some .int), Cond.methodLink RX3 30 Lib.Math.max.name, Cond.static Lib.Math.max.name]
def wsX9_isAlike_r3 : List Cond := [Cond.initialized "java/lang/Math", Cond.code Lib.Math.max.name Lib.Math.max.code 2 (some .int), Cond.methodLink RX3 15 yX8_length, Cond.methodLink RX3 33 yX3_apart, Cond.instanceMethod yX3_apart, Cond.selects RX3 yX3_apart yX3_apart, Cond.code yX3_apart cX3_apart 8 (some .int), Cond.methodLink RX3 21 Lib.Math.min.name, Cond.static Lib.Math.min.name, Cond.code Lib.Math.min.name Lib.Math.min.code 2 (some .int), Cond.fieldLink RX3 9 "TradeWords$Measure" "row" "[I", Cond.methodLink RX3 27 yX8_soundAt, Cond.methodLink RX9 196 yX0_alikeFrom, Cond.instanceMethod yX0_alikeFrom, Cond.selects RX0 yX0_alikeFrom yX0_alikeFrom, Cond.code yX0_alikeFrom cX0_alikeFrom 1 (some .int), Cond.fieldLink RX0 54 "TradeWords$Beach" "alikeFrom" "I"]
def wsX9_isAlike : List Cond := .code yX9_isAlike cX9_isAlike 2 (some .boolean) :: ((wsX9_isAlike_r1 ++ (wsX9_isAlike_r2 ++ wsX9_isAlike_r3)) ++ wsX90 ++ wsX00 ++ wsX30)
def wsX9_startCrowdAsNow_r1 : List Cond := [Cond.fieldLink RX9 35 "TradeWords" "crowd" "LTradeWords$Crowd;", Cond.fieldLink RX9 49 "TradeWords" "laid" "LTradeWords$Beach;", Cond.fieldLink RX9 28 "TradeWords" "stands" "LTradeWords$Stands;", Cond.methodLink RX9 148 yX9_isAlike, Cond.instanceMethod yX9_isAlike, Cond.selects RX9 yX9_isAlike yX9_isAlike, Cond.initialized RX9, Cond.code yX9_isAlike cX9_isAlike 2 (some .boolean), Cond.methodLink RX9 102 yX9_likeOfMeaning, Cond.instanceMethod yX9_likeOfMeaning, Cond.selects RX9 yX9_likeOfMeaning yX9_likeOfMeaning, Cond.code yX9_likeOfMeaning cX9_likeOfMeaning 2 (some .int), Cond.fieldLink RX9 42 "TradeWords" "measure" "LTradeWords$Measure;", Cond.methodLink RX9 81 yX0_wordOf, Cond.instanceMethod yX0_wordOf, Cond.selects RX0 yX0_wordOf yX0_wordOf, Cond.initialized RX0, Cond.code yX0_wordOf cX0_wordOf 3 (some .int), Cond.fieldLink RX0 9 "TradeWords$Beach" "words" "[I", Cond.methodLink RX0 67 yX0_wordPlace, Cond.static yX0_wordPlace, Cond.code yX0_wordPlace cX0_wordPlace 2 (some .int), Cond.methodLink RX0 104 yX5_at, Cond.static yX5_at]
def wsX9_startCrowdAsNow_r2 : List Cond := [Cond.initialized RX5, Cond.code yX5_at cX5_at 2 (some .int), Cond.methodLink RX9 85 yX0_saidBy, Cond.instanceMethod yX0_saidBy, Cond.selects RX0 yX0_saidBy yX0_saidBy, Cond.code yX0_saidBy cX0_saidBy 6 (some .int), Cond.methodLink RX0 111 yX8_length, Cond.static yX8_length, Cond.initialized RX8, Cond.code yX8_length cX8_length 1 (some .int), Cond.methodLink RX0 101 yX8_soundAt, Cond.static yX8_soundAt, Cond.code yX8_soundAt cX8_soundAt 2 (some .int), Cond.methodLink RX0 114 yX0_soundSaidBy, Cond.instanceMethod yX0_soundSaidBy, Cond.selects RX0 yX0_soundSaidBy yX0_soundSaidBy, Cond.code yX0_soundSaidBy cX0_soundSaidBy 5 (some .int), Cond.fieldLink RX0 18 "TradeWords$Beach" "canSay" "[I", Cond.fieldLink RX0 21 "TradeWords$Beach" "instead" "[I", Cond.methodLink RX0 117 yX8_with, Cond.static yX8_with, Cond.code yX8_with cX8_with 3 (some .int), Cond.methodLink RX8 9 yX8_length, Cond.methodLink RX9 199 yX3_likeness]
def wsX9_startCrowdAsNow_r3 : List Cond := [Cond.instanceMethod yX3_likeness, Cond.selects RX3 yX3_likeness yX3_likeness, Cond.initialized RX3, Cond.code yX3_likeness cX3_likeness 4 (some .int), Cond.methodLink RX3 30 Lib.Math.max.name, Cond.static Lib.Math.max.name, Cond.initialized "java/lang/Math", Cond.code Lib.Math.max.name Lib.Math.max.code 2 (some .int), Cond.methodLink RX3 15 yX8_length, Cond.methodLink RX3 33 yX3_apart, Cond.instanceMethod yX3_apart, Cond.selects RX3 yX3_apart yX3_apart, Cond.code yX3_apart cX3_apart 8 (some .int), Cond.methodLink RX3 21 Lib.Math.min.name, Cond.static Lib.Math.min.name, Cond.code Lib.Math.min.name Lib.Math.min.code 2 (some .int), Cond.fieldLink RX3 9 "TradeWords$Measure" "row" "[I", Cond.methodLink RX3 27 yX8_soundAt, Cond.methodLink RX9 196 yX0_alikeFrom, Cond.instanceMethod yX0_alikeFrom, Cond.selects RX0 yX0_alikeFrom yX0_alikeFrom, Cond.code yX0_alikeFrom cX0_alikeFrom 1 (some .int), Cond.fieldLink RX0 54 "TradeWords$Beach" "alikeFrom" "I", Cond.methodLink RX9 151 yX0_speaksOfTen]
def wsX9_startCrowdAsNow_r4 : List Cond := [Cond.instanceMethod yX0_speaksOfTen, Cond.selects RX0 yX0_speaksOfTen yX0_speaksOfTen, Cond.code yX0_speaksOfTen cX0_speaksOfTen 1 (some .int), Cond.fieldLink RX0 50 "TradeWords$Beach" "speaks" "I", Cond.methodLink RX9 154 yX0_takesOfTen, Cond.instanceMethod yX0_takesOfTen, Cond.selects RX0 yX0_takesOfTen yX0_takesOfTen, Cond.code yX0_takesOfTen cX0_takesOfTen 2 (some .int), Cond.fieldLink RX0 27 "TradeWords$Beach" "takes" "[I", Cond.methodLink RX9 157 yX1_habits, Cond.instanceMethod yX1_habits, Cond.selects RX1 yX1_habits yX1_habits, Cond.initialized RX1, Cond.code yX1_habits cX1_habits 5 none, Cond.fieldLink RX1 34 "TradeWords$Crowd" "zeroHears" "I", Cond.fieldLink RX1 37 "TradeWords$Crowd" "oneHears" "I", Cond.methodLink RX9 168 yX0_tradersOf, Cond.instanceMethod yX0_tradersOf, Cond.selects RX0 yX0_tradersOf yX0_tradersOf, Cond.code yX0_tradersOf cX0_tradersOf 2 (some .int), Cond.fieldLink RX0 24 "TradeWords$Beach" "traders" "[I", Cond.methodLink RX9 161 yX1_gather, Cond.instanceMethod yX1_gather, Cond.selects RX1 yX1_gather yX1_gather]
def wsX9_startCrowdAsNow_r5 : List Cond := [Cond.code yX1_gather cX1_gather 3 none, Cond.methodLink RX1 25 Lib.Math.min.name, Cond.methodLink RX1 31 Lib.Math.max.name, Cond.fieldLink RX1 18 "TradeWords$Crowd" "a" "I", Cond.fieldLink RX1 22 "TradeWords$Crowd" "b" "I", Cond.methodLink RX9 105 yX6_of, Cond.instanceMethod yX6_of, Cond.selects RX6 yX6_of yX6_of, Cond.initialized RX6, Cond.code yX6_of cX6_of 3 (some .int), Cond.fieldLink RX6 11 "TradeWords$Stands" "others" "[I", Cond.methodLink RX6 28 yX5_at, Cond.methodLink RX9 165 yX1_begin, Cond.instanceMethod yX1_begin, Cond.selects RX1 yX1_begin yX1_begin, Cond.code yX1_begin cX1_begin 3 none, Cond.fieldLink RX1 11 "TradeWords$Crowd" "now" "[J", Cond.constantLong RX1 49 (1000000), Cond.methodLink RX1 40 yJ7_fill_d0a16, Cond.static yJ7_fill_d0a16, Cond.initialized RJ7, Cond.code yJ7_fill_d0a16 cJ7_fill_d0a16 5 none, Cond.methodLink RX1 46 yX1_place, Cond.static yX1_place]
def wsX9_startCrowdAsNow_r6 : List Cond := [Cond.code yX1_place cX1_place 2 (some .int), Cond.methodLink RX1 51 yX5_add, Cond.static yX5_add, Cond.code yX5_add cX5_add 4 none]
def wsX9_startCrowdAsNow : List Cond := .code yX9_startCrowdAsNow cX9_startCrowdAsNow 2 none :: ((wsX9_startCrowdAsNow_r1 ++ (wsX9_startCrowdAsNow_r2 ++ (wsX9_startCrowdAsNow_r3 ++ (wsX9_startCrowdAsNow_r4 ++ (wsX9_startCrowdAsNow_r5 ++ wsX9_startCrowdAsNow_r6))))) ++ wsX90 ++ wsX00 ++ wsX30 ++ wsX10 ++ wsX60)
def wsX9_million_r1 : List Cond := [Cond.fieldLink RX9 49 "TradeWords" "laid" "LTradeWords$Beach;", Cond.fieldLink RX9 35 "TradeWords" "crowd" "LTradeWords$Crowd;", Cond.methodLink RX9 78 yX9_isMeaning, Cond.static yX9_isMeaning, Cond.initialized RX9, Cond.code yX9_isMeaning cX9_isMeaning 1 (some .boolean), Cond.methodLink RX9 116 yX9_isMeetings, Cond.static yX9_isMeetings, Cond.code yX9_isMeetings cX9_isMeetings 1 (some .boolean), Cond.methodLink RX9 108 yX9_isStand, Cond.instanceMethod yX9_isStand, Cond.selects RX9 yX9_isStand yX9_isStand, Cond.code yX9_isStand cX9_isStand 3 (some .boolean), Cond.methodLink RX9 168 yX0_tradersOf, Cond.instanceMethod yX0_tradersOf, Cond.selects RX0 yX0_tradersOf yX0_tradersOf, Cond.initialized RX0, Cond.code yX0_tradersOf cX0_tradersOf 2 (some .int), Cond.fieldLink RX0 24 "TradeWords$Beach" "traders" "[I", Cond.methodLink RX0 104 yX5_at, Cond.static yX5_at, Cond.initialized RX5, Cond.code yX5_at cX5_at 2 (some .int), Cond.methodLink RX9 99 yX0_isTold]
def wsX9_million_r2 : List Cond := [Cond.instanceMethod yX0_isTold, Cond.selects RX0 yX0_isTold yX0_isTold, Cond.code yX0_isTold cX0_isTold 2 (some .boolean), Cond.methodLink RX0 108 yX0_wordOf, Cond.instanceMethod yX0_wordOf, Cond.selects RX0 yX0_wordOf yX0_wordOf, Cond.code yX0_wordOf cX0_wordOf 3 (some .int), Cond.fieldLink RX0 9 "TradeWords$Beach" "words" "[I", Cond.methodLink RX0 67 yX0_wordPlace, Cond.static yX0_wordPlace, Cond.code yX0_wordPlace cX0_wordPlace 2 (some .int), Cond.methodLink RX9 119 yX9_startCrowdAsNow, Cond.instanceMethod yX9_startCrowdAsNow, Cond.selects RX9 yX9_startCrowdAsNow yX9_startCrowdAsNow, Cond.code yX9_startCrowdAsNow cX9_startCrowdAsNow 2 none, Cond.fieldLink RX9 28 "TradeWords" "stands" "LTradeWords$Stands;", Cond.methodLink RX9 148 yX9_isAlike, Cond.instanceMethod yX9_isAlike, Cond.selects RX9 yX9_isAlike yX9_isAlike, Cond.code yX9_isAlike cX9_isAlike 2 (some .boolean), Cond.methodLink RX9 102 yX9_likeOfMeaning, Cond.instanceMethod yX9_likeOfMeaning, Cond.selects RX9 yX9_likeOfMeaning yX9_likeOfMeaning, Cond.code yX9_likeOfMeaning cX9_likeOfMeaning 2 (some .int)]
def wsX9_million_r3 : List Cond := [Cond.fieldLink RX9 42 "TradeWords" "measure" "LTradeWords$Measure;", Cond.methodLink RX9 81 yX0_wordOf, Cond.methodLink RX9 85 yX0_saidBy, Cond.instanceMethod yX0_saidBy, Cond.selects RX0 yX0_saidBy yX0_saidBy, Cond.code yX0_saidBy cX0_saidBy 6 (some .int), Cond.methodLink RX0 111 yX8_length, Cond.static yX8_length, Cond.initialized RX8, Cond.code yX8_length cX8_length 1 (some .int), Cond.methodLink RX0 101 yX8_soundAt, Cond.static yX8_soundAt, Cond.code yX8_soundAt cX8_soundAt 2 (some .int), Cond.methodLink RX0 114 yX0_soundSaidBy, Cond.instanceMethod yX0_soundSaidBy, Cond.selects RX0 yX0_soundSaidBy yX0_soundSaidBy, Cond.code yX0_soundSaidBy cX0_soundSaidBy 5 (some .int), Cond.fieldLink RX0 18 "TradeWords$Beach" "canSay" "[I", Cond.fieldLink RX0 21 "TradeWords$Beach" "instead" "[I", Cond.methodLink RX0 117 yX8_with, Cond.static yX8_with, Cond.code yX8_with cX8_with 3 (some .int), Cond.methodLink RX8 9 yX8_length, Cond.methodLink RX9 199 yX3_likeness]
def wsX9_million_r4 : List Cond := [Cond.instanceMethod yX3_likeness, Cond.selects RX3 yX3_likeness yX3_likeness, Cond.initialized RX3, Cond.code yX3_likeness cX3_likeness 4 (some .int), Cond.methodLink RX3 30 Lib.Math.max.name, Cond.static Lib.Math.max.name, Cond.initialized "java/lang/Math", Cond.code Lib.Math.max.name Lib.Math.max.code 2 (some .int), Cond.methodLink RX3 15 yX8_length, Cond.methodLink RX3 33 yX3_apart, Cond.instanceMethod yX3_apart, Cond.selects RX3 yX3_apart yX3_apart, Cond.code yX3_apart cX3_apart 8 (some .int), Cond.methodLink RX3 21 Lib.Math.min.name, Cond.static Lib.Math.min.name, Cond.code Lib.Math.min.name Lib.Math.min.code 2 (some .int), Cond.fieldLink RX3 9 "TradeWords$Measure" "row" "[I", Cond.methodLink RX3 27 yX8_soundAt, Cond.methodLink RX9 196 yX0_alikeFrom, Cond.instanceMethod yX0_alikeFrom, Cond.selects RX0 yX0_alikeFrom yX0_alikeFrom, Cond.code yX0_alikeFrom cX0_alikeFrom 1 (some .int), Cond.fieldLink RX0 54 "TradeWords$Beach" "alikeFrom" "I", Cond.methodLink RX9 151 yX0_speaksOfTen]
def wsX9_million_r5 : List Cond := [Cond.instanceMethod yX0_speaksOfTen, Cond.selects RX0 yX0_speaksOfTen yX0_speaksOfTen, Cond.code yX0_speaksOfTen cX0_speaksOfTen 1 (some .int), Cond.fieldLink RX0 50 "TradeWords$Beach" "speaks" "I", Cond.methodLink RX9 154 yX0_takesOfTen, Cond.instanceMethod yX0_takesOfTen, Cond.selects RX0 yX0_takesOfTen yX0_takesOfTen, Cond.code yX0_takesOfTen cX0_takesOfTen 2 (some .int), Cond.fieldLink RX0 27 "TradeWords$Beach" "takes" "[I", Cond.methodLink RX9 157 yX1_habits, Cond.instanceMethod yX1_habits, Cond.selects RX1 yX1_habits yX1_habits, Cond.initialized RX1, Cond.code yX1_habits cX1_habits 5 none, Cond.fieldLink RX1 34 "TradeWords$Crowd" "zeroHears" "I", Cond.fieldLink RX1 37 "TradeWords$Crowd" "oneHears" "I", Cond.methodLink RX9 161 yX1_gather, Cond.instanceMethod yX1_gather, Cond.selects RX1 yX1_gather yX1_gather, Cond.code yX1_gather cX1_gather 3 none, Cond.methodLink RX1 25 Lib.Math.min.name, Cond.methodLink RX1 31 Lib.Math.max.name, Cond.fieldLink RX1 18 "TradeWords$Crowd" "a" "I", Cond.fieldLink RX1 22 "TradeWords$Crowd" "b" "I"]
def wsX9_million_r6 : List Cond := [Cond.methodLink RX9 105 yX6_of, Cond.instanceMethod yX6_of, Cond.selects RX6 yX6_of yX6_of, Cond.initialized RX6, Cond.code yX6_of cX6_of 3 (some .int), Cond.fieldLink RX6 11 "TradeWords$Stands" "others" "[I", Cond.methodLink RX6 28 yX5_at, Cond.methodLink RX9 165 yX1_begin, Cond.instanceMethod yX1_begin, Cond.selects RX1 yX1_begin yX1_begin, Cond.code yX1_begin cX1_begin 3 none, Cond.fieldLink RX1 11 "TradeWords$Crowd" "now" "[J", Cond.constantLong RX1 49 (1000000), Cond.methodLink RX1 40 yJ7_fill_d0a16, Cond.static yJ7_fill_d0a16, Cond.initialized RJ7, Cond.code yJ7_fill_d0a16 cJ7_fill_d0a16 5 none, Cond.methodLink RX1 46 yX1_place, Cond.static yX1_place, Cond.code yX1_place cX1_place 2 (some .int), Cond.methodLink RX1 51 yX5_add, Cond.static yX5_add, Cond.code yX5_add cX5_add 4 none, Cond.methodLink RX9 122 yX1_meet]
def wsX9_million_r7 : List Cond := [Cond.instanceMethod yX1_meet, Cond.selects RX1 yX1_meet yX1_meet, Cond.code yX1_meet cX1_meet 4 none, Cond.methodLink RX1 57 yX1_meetOnce, Cond.instanceMethod yX1_meetOnce, Cond.selects RX1 yX1_meetOnce yX1_meetOnce, Cond.code yX1_meetOnce cX1_meetOnce 3 (some .boolean), Cond.fieldLink RX1 61 "TradeWords$Crowd" "moved" "Z", Cond.fieldLink RX1 15 "TradeWords$Crowd" "next" "[J", Cond.methodLink RX1 65 arraycopyName, Cond.native arraycopyName, Cond.static arraycopyName, Cond.initialized "java/lang/System", Cond.methodLink RX1 71 yX1_part, Cond.instanceMethod yX1_part, Cond.selects RX1 yX1_part yX1_part, Cond.code yX1_part cX1_part 10 none, Cond.methodLink RX1 75 yX5_at_, Cond.static yX5_at_, Cond.code yX5_at_ cX5_at_ 2 (some .long), Cond.methodLink RX1 83 yX1_go, Cond.instanceMethod yX1_go, Cond.selects RX1 yX1_go yX1_go, Cond.code yX1_go cX1_go 9 none]
def wsX9_million_r8 : List Cond := [Cond.constantLong RX1 87 (100), Cond.methodLink RX9 125 yX1_inStand, Cond.instanceMethod yX1_inStand, Cond.selects RX1 yX1_inStand yX1_inStand, Cond.code yX1_inStand cX1_inStand 3 (some .long)]
def wsX9_million : List Cond := .code yX9_million cX9_million 5 (some .int) :: ((wsX9_million_r1 ++ (wsX9_million_r2 ++ (wsX9_million_r3 ++ (wsX9_million_r4 ++ (wsX9_million_r5 ++ (wsX9_million_r6 ++ (wsX9_million_r7 ++ wsX9_million_r8))))))) ++ wsX90 ++ wsX00 ++ wsX30 ++ wsX10 ++ wsX60)
def wsX9_won_r1 : List Cond := [Cond.fieldLink RX9 49 "TradeWords" "laid" "LTradeWords$Beach;", Cond.fieldLink RX9 35 "TradeWords" "crowd" "LTradeWords$Crowd;", Cond.methodLink RX9 78 yX9_isMeaning, Cond.static yX9_isMeaning, Cond.initialized RX9, Cond.code yX9_isMeaning cX9_isMeaning 1 (some .boolean), Cond.methodLink RX9 116 yX9_isMeetings, Cond.static yX9_isMeetings, Cond.code yX9_isMeetings cX9_isMeetings 1 (some .boolean), Cond.methodLink RX9 74 yX9_isPeople, Cond.static yX9_isPeople, Cond.code yX9_isPeople cX9_isPeople 1 (some .boolean), Cond.methodLink RX9 99 yX0_isTold, Cond.instanceMethod yX0_isTold, Cond.selects RX0 yX0_isTold yX0_isTold, Cond.initialized RX0, Cond.code yX0_isTold cX0_isTold 2 (some .boolean), Cond.methodLink RX0 108 yX0_wordOf, Cond.instanceMethod yX0_wordOf, Cond.selects RX0 yX0_wordOf yX0_wordOf, Cond.code yX0_wordOf cX0_wordOf 3 (some .int), Cond.fieldLink RX0 9 "TradeWords$Beach" "words" "[I", Cond.methodLink RX0 67 yX0_wordPlace, Cond.static yX0_wordPlace]
def wsX9_won_r2 : List Cond := [Cond.code yX0_wordPlace cX0_wordPlace 2 (some .int), Cond.methodLink RX0 104 yX5_at, Cond.static yX5_at, Cond.initialized RX5, Cond.code yX5_at cX5_at 2 (some .int), Cond.methodLink RX9 119 yX9_startCrowdAsNow, Cond.instanceMethod yX9_startCrowdAsNow, Cond.selects RX9 yX9_startCrowdAsNow yX9_startCrowdAsNow, Cond.code yX9_startCrowdAsNow cX9_startCrowdAsNow 2 none, Cond.fieldLink RX9 28 "TradeWords" "stands" "LTradeWords$Stands;", Cond.methodLink RX9 148 yX9_isAlike, Cond.instanceMethod yX9_isAlike, Cond.selects RX9 yX9_isAlike yX9_isAlike, Cond.code yX9_isAlike cX9_isAlike 2 (some .boolean), Cond.methodLink RX9 102 yX9_likeOfMeaning, Cond.instanceMethod yX9_likeOfMeaning, Cond.selects RX9 yX9_likeOfMeaning yX9_likeOfMeaning, Cond.code yX9_likeOfMeaning cX9_likeOfMeaning 2 (some .int), Cond.fieldLink RX9 42 "TradeWords" "measure" "LTradeWords$Measure;", Cond.methodLink RX9 81 yX0_wordOf, Cond.methodLink RX9 85 yX0_saidBy, Cond.instanceMethod yX0_saidBy, Cond.selects RX0 yX0_saidBy yX0_saidBy, Cond.code yX0_saidBy cX0_saidBy 6 (some .int)]
def wsX9_won_r3 : List Cond := [Cond.methodLink RX0 111 yX8_length, Cond.static yX8_length, Cond.initialized RX8, Cond.code yX8_length cX8_length 1 (some .int), Cond.methodLink RX0 101 yX8_soundAt, Cond.static yX8_soundAt, Cond.code yX8_soundAt cX8_soundAt 2 (some .int), Cond.methodLink RX0 114 yX0_soundSaidBy, Cond.instanceMethod yX0_soundSaidBy, Cond.selects RX0 yX0_soundSaidBy yX0_soundSaidBy, Cond.code yX0_soundSaidBy cX0_soundSaidBy 5 (some .int), Cond.fieldLink RX0 18 "TradeWords$Beach" "canSay" "[I", Cond.fieldLink RX0 21 "TradeWords$Beach" "instead" "[I", Cond.methodLink RX0 117 yX8_with, Cond.static yX8_with, Cond.code yX8_with cX8_with 3 (some .int), Cond.methodLink RX8 9 yX8_length, Cond.methodLink RX9 199 yX3_likeness, Cond.instanceMethod yX3_likeness, Cond.selects RX3 yX3_likeness yX3_likeness, Cond.initialized RX3, Cond.code yX3_likeness cX3_likeness 4 (some .int), Cond.methodLink RX3 30 Lib.Math.max.name, Cond.static Lib.Math.max.name]
def wsX9_won_r4 : List Cond := [Cond.initialized "java/lang/Math", Cond.code Lib.Math.max.name Lib.Math.max.code 2 (some .int), Cond.methodLink RX3 15 yX8_length, Cond.methodLink RX3 33 yX3_apart, Cond.instanceMethod yX3_apart, Cond.selects RX3 yX3_apart yX3_apart, Cond.code yX3_apart cX3_apart 8 (some .int), Cond.methodLink RX3 21 Lib.Math.min.name, Cond.static Lib.Math.min.name, Cond.code Lib.Math.min.name Lib.Math.min.code 2 (some .int), Cond.fieldLink RX3 9 "TradeWords$Measure" "row" "[I", Cond.methodLink RX3 27 yX8_soundAt, Cond.methodLink RX9 196 yX0_alikeFrom, Cond.instanceMethod yX0_alikeFrom, Cond.selects RX0 yX0_alikeFrom yX0_alikeFrom, Cond.code yX0_alikeFrom cX0_alikeFrom 1 (some .int), Cond.fieldLink RX0 54 "TradeWords$Beach" "alikeFrom" "I", Cond.methodLink RX9 151 yX0_speaksOfTen, Cond.instanceMethod yX0_speaksOfTen, Cond.selects RX0 yX0_speaksOfTen yX0_speaksOfTen, Cond.code yX0_speaksOfTen cX0_speaksOfTen 1 (some .int), Cond.fieldLink RX0 50 "TradeWords$Beach" "speaks" "I", Cond.methodLink RX9 154 yX0_takesOfTen, Cond.instanceMethod yX0_takesOfTen]
def wsX9_won_r5 : List Cond := [Cond.selects RX0 yX0_takesOfTen yX0_takesOfTen, Cond.code yX0_takesOfTen cX0_takesOfTen 2 (some .int), Cond.fieldLink RX0 27 "TradeWords$Beach" "takes" "[I", Cond.methodLink RX9 157 yX1_habits, Cond.instanceMethod yX1_habits, Cond.selects RX1 yX1_habits yX1_habits, Cond.initialized RX1, Cond.code yX1_habits cX1_habits 5 none, Cond.fieldLink RX1 34 "TradeWords$Crowd" "zeroHears" "I", Cond.fieldLink RX1 37 "TradeWords$Crowd" "oneHears" "I", Cond.methodLink RX9 168 yX0_tradersOf, Cond.instanceMethod yX0_tradersOf, Cond.selects RX0 yX0_tradersOf yX0_tradersOf, Cond.code yX0_tradersOf cX0_tradersOf 2 (some .int), Cond.fieldLink RX0 24 "TradeWords$Beach" "traders" "[I", Cond.methodLink RX9 161 yX1_gather, Cond.instanceMethod yX1_gather, Cond.selects RX1 yX1_gather yX1_gather, Cond.code yX1_gather cX1_gather 3 none, Cond.methodLink RX1 25 Lib.Math.min.name, Cond.methodLink RX1 31 Lib.Math.max.name, Cond.fieldLink RX1 18 "TradeWords$Crowd" "a" "I", Cond.fieldLink RX1 22 "TradeWords$Crowd" "b" "I", Cond.methodLink RX9 105 yX6_of]
def wsX9_won_r6 : List Cond := [Cond.instanceMethod yX6_of, Cond.selects RX6 yX6_of yX6_of, Cond.initialized RX6, Cond.code yX6_of cX6_of 3 (some .int), Cond.fieldLink RX6 11 "TradeWords$Stands" "others" "[I", Cond.methodLink RX6 28 yX5_at, Cond.methodLink RX9 165 yX1_begin, Cond.instanceMethod yX1_begin, Cond.selects RX1 yX1_begin yX1_begin, Cond.code yX1_begin cX1_begin 3 none, Cond.fieldLink RX1 11 "TradeWords$Crowd" "now" "[J", Cond.constantLong RX1 49 (1000000), Cond.methodLink RX1 40 yJ7_fill_d0a16, Cond.static yJ7_fill_d0a16, Cond.initialized RJ7, Cond.code yJ7_fill_d0a16 cJ7_fill_d0a16 5 none, Cond.methodLink RX1 46 yX1_place, Cond.static yX1_place, Cond.code yX1_place cX1_place 2 (some .int), Cond.methodLink RX1 51 yX5_add, Cond.static yX5_add, Cond.code yX5_add cX5_add 4 none, Cond.methodLink RX9 122 yX1_meet, Cond.instanceMethod yX1_meet]
def wsX9_won_r7 : List Cond := [Cond.selects RX1 yX1_meet yX1_meet, Cond.code yX1_meet cX1_meet 4 none, Cond.methodLink RX1 57 yX1_meetOnce, Cond.instanceMethod yX1_meetOnce, Cond.selects RX1 yX1_meetOnce yX1_meetOnce, Cond.code yX1_meetOnce cX1_meetOnce 3 (some .boolean), Cond.fieldLink RX1 61 "TradeWords$Crowd" "moved" "Z", Cond.fieldLink RX1 15 "TradeWords$Crowd" "next" "[J", Cond.methodLink RX1 65 arraycopyName, Cond.native arraycopyName, Cond.static arraycopyName, Cond.initialized "java/lang/System", Cond.methodLink RX1 71 yX1_part, Cond.instanceMethod yX1_part, Cond.selects RX1 yX1_part yX1_part, Cond.code yX1_part cX1_part 10 none, Cond.methodLink RX1 75 yX5_at_, Cond.static yX5_at_, Cond.code yX5_at_ cX5_at_ 2 (some .long), Cond.methodLink RX1 83 yX1_go, Cond.instanceMethod yX1_go, Cond.selects RX1 yX1_go yX1_go, Cond.code yX1_go cX1_go 9 none, Cond.constantLong RX1 87 (100)]
def wsX9_won_r8 : List Cond := [Cond.methodLink RX9 129 yX1_allSaying, Cond.instanceMethod yX1_allSaying, Cond.selects RX1 yX1_allSaying yX1_allSaying, Cond.code yX1_allSaying cX1_allSaying 2 (some .long), Cond.methodLink RX1 79 yX1_inStand, Cond.instanceMethod yX1_inStand, Cond.selects RX1 yX1_inStand yX1_inStand, Cond.code yX1_inStand cX1_inStand 3 (some .long)]
def wsX9_won : List Cond := .code yX9_won cX9_won 4 (some .int) :: ((wsX9_won_r1 ++ (wsX9_won_r2 ++ (wsX9_won_r3 ++ (wsX9_won_r4 ++ (wsX9_won_r5 ++ (wsX9_won_r6 ++ (wsX9_won_r7 ++ wsX9_won_r8))))))) ++ wsX90 ++ wsX00 ++ wsX30 ++ wsX10 ++ wsX60)
def wsX9_isHundredths : List Cond := .code yX9_isHundredths cX9_isHundredths 1 (some .boolean) :: ([])
def wsX9_soon_r1 : List Cond := [Cond.fieldLink RX9 49 "TradeWords" "laid" "LTradeWords$Beach;", Cond.fieldLink RX9 35 "TradeWords" "crowd" "LTradeWords$Crowd;", Cond.constantLong RX9 136 (10000), Cond.methodLink RX9 78 yX9_isMeaning, Cond.static yX9_isMeaning, Cond.initialized RX9, Cond.code yX9_isMeaning cX9_isMeaning 1 (some .boolean), Cond.methodLink RX9 133 yX9_isHundredths, Cond.static yX9_isHundredths, Cond.code yX9_isHundredths cX9_isHundredths 1 (some .boolean), Cond.methodLink RX9 99 yX0_isTold, Cond.instanceMethod yX0_isTold, Cond.selects RX0 yX0_isTold yX0_isTold, Cond.initialized RX0, Cond.code yX0_isTold cX0_isTold 2 (some .boolean), Cond.methodLink RX0 108 yX0_wordOf, Cond.instanceMethod yX0_wordOf, Cond.selects RX0 yX0_wordOf yX0_wordOf, Cond.code yX0_wordOf cX0_wordOf 3 (some .int), Cond.fieldLink RX0 9 "TradeWords$Beach" "words" "[I", Cond.methodLink RX0 67 yX0_wordPlace, Cond.static yX0_wordPlace, Cond.code yX0_wordPlace cX0_wordPlace 2 (some .int), Cond.methodLink RX0 104 yX5_at]
def wsX9_soon_r2 : List Cond := [Cond.static yX5_at, Cond.initialized RX5, Cond.code yX5_at cX5_at 2 (some .int), Cond.methodLink RX9 119 yX9_startCrowdAsNow, Cond.instanceMethod yX9_startCrowdAsNow, Cond.selects RX9 yX9_startCrowdAsNow yX9_startCrowdAsNow, Cond.code yX9_startCrowdAsNow cX9_startCrowdAsNow 2 none, Cond.fieldLink RX9 28 "TradeWords" "stands" "LTradeWords$Stands;", Cond.methodLink RX9 148 yX9_isAlike, Cond.instanceMethod yX9_isAlike, Cond.selects RX9 yX9_isAlike yX9_isAlike, Cond.code yX9_isAlike cX9_isAlike 2 (some .boolean), Cond.methodLink RX9 102 yX9_likeOfMeaning, Cond.instanceMethod yX9_likeOfMeaning, Cond.selects RX9 yX9_likeOfMeaning yX9_likeOfMeaning, Cond.code yX9_likeOfMeaning cX9_likeOfMeaning 2 (some .int), Cond.fieldLink RX9 42 "TradeWords" "measure" "LTradeWords$Measure;", Cond.methodLink RX9 81 yX0_wordOf, Cond.methodLink RX9 85 yX0_saidBy, Cond.instanceMethod yX0_saidBy, Cond.selects RX0 yX0_saidBy yX0_saidBy, Cond.code yX0_saidBy cX0_saidBy 6 (some .int), Cond.methodLink RX0 111 yX8_length, Cond.static yX8_length]
def wsX9_soon_r3 : List Cond := [Cond.initialized RX8, Cond.code yX8_length cX8_length 1 (some .int), Cond.methodLink RX0 101 yX8_soundAt, Cond.static yX8_soundAt, Cond.code yX8_soundAt cX8_soundAt 2 (some .int), Cond.methodLink RX0 114 yX0_soundSaidBy, Cond.instanceMethod yX0_soundSaidBy, Cond.selects RX0 yX0_soundSaidBy yX0_soundSaidBy, Cond.code yX0_soundSaidBy cX0_soundSaidBy 5 (some .int), Cond.fieldLink RX0 18 "TradeWords$Beach" "canSay" "[I", Cond.fieldLink RX0 21 "TradeWords$Beach" "instead" "[I", Cond.methodLink RX0 117 yX8_with, Cond.static yX8_with, Cond.code yX8_with cX8_with 3 (some .int), Cond.methodLink RX8 9 yX8_length, Cond.methodLink RX9 199 yX3_likeness, Cond.instanceMethod yX3_likeness, Cond.selects RX3 yX3_likeness yX3_likeness, Cond.initialized RX3, Cond.code yX3_likeness cX3_likeness 4 (some .int), Cond.methodLink RX3 30 Lib.Math.max.name, Cond.static Lib.Math.max.name, Cond.initialized "java/lang/Math", Cond.code Lib.Math.max.name Lib.Math.max.code 2 (some .int)]
def wsX9_soon_r4 : List Cond := [Cond.methodLink RX3 15 yX8_length, Cond.methodLink RX3 33 yX3_apart, Cond.instanceMethod yX3_apart, Cond.selects RX3 yX3_apart yX3_apart, Cond.code yX3_apart cX3_apart 8 (some .int), Cond.methodLink RX3 21 Lib.Math.min.name, Cond.static Lib.Math.min.name, Cond.code Lib.Math.min.name Lib.Math.min.code 2 (some .int), Cond.fieldLink RX3 9 "TradeWords$Measure" "row" "[I", Cond.methodLink RX3 27 yX8_soundAt, Cond.methodLink RX9 196 yX0_alikeFrom, Cond.instanceMethod yX0_alikeFrom, Cond.selects RX0 yX0_alikeFrom yX0_alikeFrom, Cond.code yX0_alikeFrom cX0_alikeFrom 1 (some .int), Cond.fieldLink RX0 54 "TradeWords$Beach" "alikeFrom" "I", Cond.methodLink RX9 151 yX0_speaksOfTen, Cond.instanceMethod yX0_speaksOfTen, Cond.selects RX0 yX0_speaksOfTen yX0_speaksOfTen, Cond.code yX0_speaksOfTen cX0_speaksOfTen 1 (some .int), Cond.fieldLink RX0 50 "TradeWords$Beach" "speaks" "I", Cond.methodLink RX9 154 yX0_takesOfTen, Cond.instanceMethod yX0_takesOfTen, Cond.selects RX0 yX0_takesOfTen yX0_takesOfTen, Cond.code yX0_takesOfTen cX0_takesOfTen 2 (some .int)]
def wsX9_soon_r5 : List Cond := [Cond.fieldLink RX0 27 "TradeWords$Beach" "takes" "[I", Cond.methodLink RX9 157 yX1_habits, Cond.instanceMethod yX1_habits, Cond.selects RX1 yX1_habits yX1_habits, Cond.initialized RX1, Cond.code yX1_habits cX1_habits 5 none, Cond.fieldLink RX1 34 "TradeWords$Crowd" "zeroHears" "I", Cond.fieldLink RX1 37 "TradeWords$Crowd" "oneHears" "I", Cond.methodLink RX9 168 yX0_tradersOf, Cond.instanceMethod yX0_tradersOf, Cond.selects RX0 yX0_tradersOf yX0_tradersOf, Cond.code yX0_tradersOf cX0_tradersOf 2 (some .int), Cond.fieldLink RX0 24 "TradeWords$Beach" "traders" "[I", Cond.methodLink RX9 161 yX1_gather, Cond.instanceMethod yX1_gather, Cond.selects RX1 yX1_gather yX1_gather, Cond.code yX1_gather cX1_gather 3 none, Cond.methodLink RX1 25 Lib.Math.min.name, Cond.methodLink RX1 31 Lib.Math.max.name, Cond.fieldLink RX1 18 "TradeWords$Crowd" "a" "I", Cond.fieldLink RX1 22 "TradeWords$Crowd" "b" "I", Cond.methodLink RX9 105 yX6_of, Cond.instanceMethod yX6_of, Cond.selects RX6 yX6_of yX6_of]
def wsX9_soon_r6 : List Cond := [Cond.initialized RX6, Cond.code yX6_of cX6_of 3 (some .int), Cond.fieldLink RX6 11 "TradeWords$Stands" "others" "[I", Cond.methodLink RX6 28 yX5_at, Cond.methodLink RX9 165 yX1_begin, Cond.instanceMethod yX1_begin, Cond.selects RX1 yX1_begin yX1_begin, Cond.code yX1_begin cX1_begin 3 none, Cond.fieldLink RX1 11 "TradeWords$Crowd" "now" "[J", Cond.constantLong RX1 49 (1000000), Cond.methodLink RX1 40 yJ7_fill_d0a16, Cond.static yJ7_fill_d0a16, Cond.initialized RJ7, Cond.code yJ7_fill_d0a16 cJ7_fill_d0a16 5 none, Cond.methodLink RX1 46 yX1_place, Cond.static yX1_place, Cond.code yX1_place cX1_place 2 (some .int), Cond.methodLink RX1 51 yX5_add, Cond.static yX5_add, Cond.code yX5_add cX5_add 4 none, Cond.methodLink RX9 129 yX1_allSaying, Cond.instanceMethod yX1_allSaying, Cond.selects RX1 yX1_allSaying yX1_allSaying, Cond.code yX1_allSaying cX1_allSaying 2 (some .long)]
def wsX9_soon_r7 : List Cond := [Cond.methodLink RX1 79 yX1_inStand, Cond.instanceMethod yX1_inStand, Cond.selects RX1 yX1_inStand yX1_inStand, Cond.code yX1_inStand cX1_inStand 3 (some .long), Cond.methodLink RX1 75 yX5_at_, Cond.static yX5_at_, Cond.code yX5_at_ cX5_at_ 2 (some .long), Cond.methodLink RX9 138 yX1_meetOnce, Cond.instanceMethod yX1_meetOnce, Cond.selects RX1 yX1_meetOnce yX1_meetOnce, Cond.code yX1_meetOnce cX1_meetOnce 3 (some .boolean), Cond.fieldLink RX1 61 "TradeWords$Crowd" "moved" "Z", Cond.fieldLink RX1 15 "TradeWords$Crowd" "next" "[J", Cond.methodLink RX1 65 arraycopyName, Cond.native arraycopyName, Cond.static arraycopyName, Cond.initialized "java/lang/System", Cond.methodLink RX1 71 yX1_part, Cond.instanceMethod yX1_part, Cond.selects RX1 yX1_part yX1_part, Cond.code yX1_part cX1_part 10 none, Cond.methodLink RX1 83 yX1_go, Cond.instanceMethod yX1_go, Cond.selects RX1 yX1_go yX1_go]
def wsX9_soon_r8 : List Cond := [Cond.code yX1_go cX1_go 9 none, Cond.constantLong RX1 87 (100)]
def wsX9_soon : List Cond := .code yX9_soon cX9_soon 4 (some .int) :: ((wsX9_soon_r1 ++ (wsX9_soon_r2 ++ (wsX9_soon_r3 ++ (wsX9_soon_r4 ++ (wsX9_soon_r5 ++ (wsX9_soon_r6 ++ (wsX9_soon_r7 ++ wsX9_soon_r8))))))) ++ wsX90 ++ wsX00 ++ wsX30 ++ wsX10 ++ wsX60)
def wsX9_use_r1 : List Cond := [Cond.fieldLink RX9 49 "TradeWords" "laid" "LTradeWords$Beach;", Cond.fieldLink RX9 35 "TradeWords" "crowd" "LTradeWords$Crowd;", Cond.constantLong RX9 146 (1000), Cond.methodLink RX9 78 yX9_isMeaning, Cond.static yX9_isMeaning, Cond.initialized RX9, Cond.code yX9_isMeaning cX9_isMeaning 1 (some .boolean), Cond.methodLink RX9 116 yX9_isMeetings, Cond.static yX9_isMeetings, Cond.code yX9_isMeetings cX9_isMeetings 1 (some .boolean), Cond.methodLink RX9 99 yX0_isTold, Cond.instanceMethod yX0_isTold, Cond.selects RX0 yX0_isTold yX0_isTold, Cond.initialized RX0, Cond.code yX0_isTold cX0_isTold 2 (some .boolean), Cond.methodLink RX0 108 yX0_wordOf, Cond.instanceMethod yX0_wordOf, Cond.selects RX0 yX0_wordOf yX0_wordOf, Cond.code yX0_wordOf cX0_wordOf 3 (some .int), Cond.fieldLink RX0 9 "TradeWords$Beach" "words" "[I", Cond.methodLink RX0 67 yX0_wordPlace, Cond.static yX0_wordPlace, Cond.code yX0_wordPlace cX0_wordPlace 2 (some .int), Cond.methodLink RX0 104 yX5_at]
def wsX9_use_r2 : List Cond := [Cond.static yX5_at, Cond.initialized RX5, Cond.code yX5_at cX5_at 2 (some .int), Cond.methodLink RX9 119 yX9_startCrowdAsNow, Cond.instanceMethod yX9_startCrowdAsNow, Cond.selects RX9 yX9_startCrowdAsNow yX9_startCrowdAsNow, Cond.code yX9_startCrowdAsNow cX9_startCrowdAsNow 2 none, Cond.fieldLink RX9 28 "TradeWords" "stands" "LTradeWords$Stands;", Cond.methodLink RX9 148 yX9_isAlike, Cond.instanceMethod yX9_isAlike, Cond.selects RX9 yX9_isAlike yX9_isAlike, Cond.code yX9_isAlike cX9_isAlike 2 (some .boolean), Cond.methodLink RX9 102 yX9_likeOfMeaning, Cond.instanceMethod yX9_likeOfMeaning, Cond.selects RX9 yX9_likeOfMeaning yX9_likeOfMeaning, Cond.code yX9_likeOfMeaning cX9_likeOfMeaning 2 (some .int), Cond.fieldLink RX9 42 "TradeWords" "measure" "LTradeWords$Measure;", Cond.methodLink RX9 81 yX0_wordOf, Cond.methodLink RX9 85 yX0_saidBy, Cond.instanceMethod yX0_saidBy, Cond.selects RX0 yX0_saidBy yX0_saidBy, Cond.code yX0_saidBy cX0_saidBy 6 (some .int), Cond.methodLink RX0 111 yX8_length, Cond.static yX8_length]
def wsX9_use_r3 : List Cond := [Cond.initialized RX8, Cond.code yX8_length cX8_length 1 (some .int), Cond.methodLink RX0 101 yX8_soundAt, Cond.static yX8_soundAt, Cond.code yX8_soundAt cX8_soundAt 2 (some .int), Cond.methodLink RX0 114 yX0_soundSaidBy, Cond.instanceMethod yX0_soundSaidBy, Cond.selects RX0 yX0_soundSaidBy yX0_soundSaidBy, Cond.code yX0_soundSaidBy cX0_soundSaidBy 5 (some .int), Cond.fieldLink RX0 18 "TradeWords$Beach" "canSay" "[I", Cond.fieldLink RX0 21 "TradeWords$Beach" "instead" "[I", Cond.methodLink RX0 117 yX8_with, Cond.static yX8_with, Cond.code yX8_with cX8_with 3 (some .int), Cond.methodLink RX8 9 yX8_length, Cond.methodLink RX9 199 yX3_likeness, Cond.instanceMethod yX3_likeness, Cond.selects RX3 yX3_likeness yX3_likeness, Cond.initialized RX3, Cond.code yX3_likeness cX3_likeness 4 (some .int), Cond.methodLink RX3 30 Lib.Math.max.name, Cond.static Lib.Math.max.name, Cond.initialized "java/lang/Math", Cond.code Lib.Math.max.name Lib.Math.max.code 2 (some .int)]
def wsX9_use_r4 : List Cond := [Cond.methodLink RX3 15 yX8_length, Cond.methodLink RX3 33 yX3_apart, Cond.instanceMethod yX3_apart, Cond.selects RX3 yX3_apart yX3_apart, Cond.code yX3_apart cX3_apart 8 (some .int), Cond.methodLink RX3 21 Lib.Math.min.name, Cond.static Lib.Math.min.name, Cond.code Lib.Math.min.name Lib.Math.min.code 2 (some .int), Cond.fieldLink RX3 9 "TradeWords$Measure" "row" "[I", Cond.methodLink RX3 27 yX8_soundAt, Cond.methodLink RX9 196 yX0_alikeFrom, Cond.instanceMethod yX0_alikeFrom, Cond.selects RX0 yX0_alikeFrom yX0_alikeFrom, Cond.code yX0_alikeFrom cX0_alikeFrom 1 (some .int), Cond.fieldLink RX0 54 "TradeWords$Beach" "alikeFrom" "I", Cond.methodLink RX9 151 yX0_speaksOfTen, Cond.instanceMethod yX0_speaksOfTen, Cond.selects RX0 yX0_speaksOfTen yX0_speaksOfTen, Cond.code yX0_speaksOfTen cX0_speaksOfTen 1 (some .int), Cond.fieldLink RX0 50 "TradeWords$Beach" "speaks" "I", Cond.methodLink RX9 154 yX0_takesOfTen, Cond.instanceMethod yX0_takesOfTen, Cond.selects RX0 yX0_takesOfTen yX0_takesOfTen, Cond.code yX0_takesOfTen cX0_takesOfTen 2 (some .int)]
def wsX9_use_r5 : List Cond := [Cond.fieldLink RX0 27 "TradeWords$Beach" "takes" "[I", Cond.methodLink RX9 157 yX1_habits, Cond.instanceMethod yX1_habits, Cond.selects RX1 yX1_habits yX1_habits, Cond.initialized RX1, Cond.code yX1_habits cX1_habits 5 none, Cond.fieldLink RX1 34 "TradeWords$Crowd" "zeroHears" "I", Cond.fieldLink RX1 37 "TradeWords$Crowd" "oneHears" "I", Cond.methodLink RX9 168 yX0_tradersOf, Cond.instanceMethod yX0_tradersOf, Cond.selects RX0 yX0_tradersOf yX0_tradersOf, Cond.code yX0_tradersOf cX0_tradersOf 2 (some .int), Cond.fieldLink RX0 24 "TradeWords$Beach" "traders" "[I", Cond.methodLink RX9 161 yX1_gather, Cond.instanceMethod yX1_gather, Cond.selects RX1 yX1_gather yX1_gather, Cond.code yX1_gather cX1_gather 3 none, Cond.methodLink RX1 25 Lib.Math.min.name, Cond.methodLink RX1 31 Lib.Math.max.name, Cond.fieldLink RX1 18 "TradeWords$Crowd" "a" "I", Cond.fieldLink RX1 22 "TradeWords$Crowd" "b" "I", Cond.methodLink RX9 105 yX6_of, Cond.instanceMethod yX6_of, Cond.selects RX6 yX6_of yX6_of]
def wsX9_use_r6 : List Cond := [Cond.initialized RX6, Cond.code yX6_of cX6_of 3 (some .int), Cond.fieldLink RX6 11 "TradeWords$Stands" "others" "[I", Cond.methodLink RX6 28 yX5_at, Cond.methodLink RX9 165 yX1_begin, Cond.instanceMethod yX1_begin, Cond.selects RX1 yX1_begin yX1_begin, Cond.code yX1_begin cX1_begin 3 none, Cond.fieldLink RX1 11 "TradeWords$Crowd" "now" "[J", Cond.constantLong RX1 49 (1000000), Cond.methodLink RX1 40 yJ7_fill_d0a16, Cond.static yJ7_fill_d0a16, Cond.initialized RJ7, Cond.code yJ7_fill_d0a16 cJ7_fill_d0a16 5 none, Cond.methodLink RX1 46 yX1_place, Cond.static yX1_place, Cond.code yX1_place cX1_place 2 (some .int), Cond.methodLink RX1 51 yX5_add, Cond.static yX5_add, Cond.code yX5_add cX5_add 4 none, Cond.methodLink RX9 122 yX1_meet, Cond.instanceMethod yX1_meet, Cond.selects RX1 yX1_meet yX1_meet, Cond.code yX1_meet cX1_meet 4 none]
def wsX9_use_r7 : List Cond := [Cond.methodLink RX1 57 yX1_meetOnce, Cond.instanceMethod yX1_meetOnce, Cond.selects RX1 yX1_meetOnce yX1_meetOnce, Cond.code yX1_meetOnce cX1_meetOnce 3 (some .boolean), Cond.fieldLink RX1 61 "TradeWords$Crowd" "moved" "Z", Cond.fieldLink RX1 15 "TradeWords$Crowd" "next" "[J", Cond.methodLink RX1 65 arraycopyName, Cond.native arraycopyName, Cond.static arraycopyName, Cond.initialized "java/lang/System", Cond.methodLink RX1 71 yX1_part, Cond.instanceMethod yX1_part, Cond.selects RX1 yX1_part yX1_part, Cond.code yX1_part cX1_part 10 none, Cond.methodLink RX1 75 yX5_at_, Cond.static yX5_at_, Cond.code yX5_at_ cX5_at_ 2 (some .long), Cond.methodLink RX1 83 yX1_go, Cond.instanceMethod yX1_go, Cond.selects RX1 yX1_go yX1_go, Cond.code yX1_go cX1_go 9 none, Cond.constantLong RX1 87 (100), Cond.methodLink RX9 142 yX1_sayingWordZero, Cond.instanceMethod yX1_sayingWordZero]
def wsX9_use_r8 : List Cond := [Cond.selects RX1 yX1_sayingWordZero yX1_sayingWordZero, Cond.code yX1_sayingWordZero cX1_sayingWordZero 5 (some .long), Cond.methodLink RX1 79 yX1_inStand, Cond.instanceMethod yX1_inStand, Cond.selects RX1 yX1_inStand yX1_inStand, Cond.code yX1_inStand cX1_inStand 3 (some .long)]
def wsX9_use : List Cond := .code yX9_use cX9_use 3 (some .int) :: ((wsX9_use_r1 ++ (wsX9_use_r2 ++ (wsX9_use_r3 ++ (wsX9_use_r4 ++ (wsX9_use_r5 ++ (wsX9_use_r6 ++ (wsX9_use_r7 ++ wsX9_use_r8))))))) ++ wsX90 ++ wsX00 ++ wsX30 ++ wsX10 ++ wsX60)
def wsX9_traders_r1 : List Cond := [Cond.fieldLink RX9 49 "TradeWords" "laid" "LTradeWords$Beach;", Cond.fieldLink RX9 35 "TradeWords" "crowd" "LTradeWords$Crowd;", Cond.constantLong RX9 136 (10000), Cond.methodLink RX9 78 yX9_isMeaning, Cond.static yX9_isMeaning, Cond.initialized RX9, Cond.code yX9_isMeaning cX9_isMeaning 1 (some .boolean), Cond.methodLink RX9 116 yX9_isMeetings, Cond.static yX9_isMeetings, Cond.code yX9_isMeetings cX9_isMeetings 1 (some .boolean), Cond.methodLink RX9 74 yX9_isPeople, Cond.static yX9_isPeople, Cond.code yX9_isPeople cX9_isPeople 1 (some .boolean), Cond.methodLink RX9 133 yX9_isHundredths, Cond.static yX9_isHundredths, Cond.code yX9_isHundredths cX9_isHundredths 1 (some .boolean), Cond.methodLink RX9 99 yX0_isTold, Cond.instanceMethod yX0_isTold, Cond.selects RX0 yX0_isTold yX0_isTold, Cond.initialized RX0, Cond.code yX0_isTold cX0_isTold 2 (some .boolean), Cond.methodLink RX0 108 yX0_wordOf, Cond.instanceMethod yX0_wordOf, Cond.selects RX0 yX0_wordOf yX0_wordOf]
def wsX9_traders_r2 : List Cond := [Cond.code yX0_wordOf cX0_wordOf 3 (some .int), Cond.fieldLink RX0 9 "TradeWords$Beach" "words" "[I", Cond.methodLink RX0 67 yX0_wordPlace, Cond.static yX0_wordPlace, Cond.code yX0_wordPlace cX0_wordPlace 2 (some .int), Cond.methodLink RX0 104 yX5_at, Cond.static yX5_at, Cond.initialized RX5, Cond.code yX5_at cX5_at 2 (some .int), Cond.methodLink RX9 148 yX9_isAlike, Cond.instanceMethod yX9_isAlike, Cond.selects RX9 yX9_isAlike yX9_isAlike, Cond.code yX9_isAlike cX9_isAlike 2 (some .boolean), Cond.methodLink RX9 102 yX9_likeOfMeaning, Cond.instanceMethod yX9_likeOfMeaning, Cond.selects RX9 yX9_likeOfMeaning yX9_likeOfMeaning, Cond.code yX9_likeOfMeaning cX9_likeOfMeaning 2 (some .int), Cond.fieldLink RX9 42 "TradeWords" "measure" "LTradeWords$Measure;", Cond.methodLink RX9 81 yX0_wordOf, Cond.methodLink RX9 85 yX0_saidBy, Cond.instanceMethod yX0_saidBy, Cond.selects RX0 yX0_saidBy yX0_saidBy, Cond.code yX0_saidBy cX0_saidBy 6 (some .int), Cond.methodLink RX0 111 yX8_length]
def wsX9_traders_r3 : List Cond := [Cond.static yX8_length, Cond.initialized RX8, Cond.code yX8_length cX8_length 1 (some .int), Cond.methodLink RX0 101 yX8_soundAt, Cond.static yX8_soundAt, Cond.code yX8_soundAt cX8_soundAt 2 (some .int), Cond.methodLink RX0 114 yX0_soundSaidBy, Cond.instanceMethod yX0_soundSaidBy, Cond.selects RX0 yX0_soundSaidBy yX0_soundSaidBy, Cond.code yX0_soundSaidBy cX0_soundSaidBy 5 (some .int), Cond.fieldLink RX0 18 "TradeWords$Beach" "canSay" "[I", Cond.fieldLink RX0 21 "TradeWords$Beach" "instead" "[I", Cond.methodLink RX0 117 yX8_with, Cond.static yX8_with, Cond.code yX8_with cX8_with 3 (some .int), Cond.methodLink RX8 9 yX8_length, Cond.methodLink RX9 199 yX3_likeness, Cond.instanceMethod yX3_likeness, Cond.selects RX3 yX3_likeness yX3_likeness, Cond.initialized RX3, Cond.code yX3_likeness cX3_likeness 4 (some .int), Cond.methodLink RX3 30 Lib.Math.max.name, Cond.static Lib.Math.max.name, Cond.initialized "java/lang/Math"]
def wsX9_traders_r4 : List Cond := [Cond.code Lib.Math.max.name Lib.Math.max.code 2 (some .int), Cond.methodLink RX3 15 yX8_length, Cond.methodLink RX3 33 yX3_apart, Cond.instanceMethod yX3_apart, Cond.selects RX3 yX3_apart yX3_apart, Cond.code yX3_apart cX3_apart 8 (some .int), Cond.methodLink RX3 21 Lib.Math.min.name, Cond.static Lib.Math.min.name, Cond.code Lib.Math.min.name Lib.Math.min.code 2 (some .int), Cond.fieldLink RX3 9 "TradeWords$Measure" "row" "[I", Cond.methodLink RX3 27 yX8_soundAt, Cond.methodLink RX9 196 yX0_alikeFrom, Cond.instanceMethod yX0_alikeFrom, Cond.selects RX0 yX0_alikeFrom yX0_alikeFrom, Cond.code yX0_alikeFrom cX0_alikeFrom 1 (some .int), Cond.fieldLink RX0 54 "TradeWords$Beach" "alikeFrom" "I", Cond.methodLink RX9 151 yX0_speaksOfTen, Cond.instanceMethod yX0_speaksOfTen, Cond.selects RX0 yX0_speaksOfTen yX0_speaksOfTen, Cond.code yX0_speaksOfTen cX0_speaksOfTen 1 (some .int), Cond.fieldLink RX0 50 "TradeWords$Beach" "speaks" "I", Cond.methodLink RX9 154 yX0_takesOfTen, Cond.instanceMethod yX0_takesOfTen, Cond.selects RX0 yX0_takesOfTen yX0_takesOfTen]
def wsX9_traders_r5 : List Cond := [Cond.code yX0_takesOfTen cX0_takesOfTen 2 (some .int), Cond.fieldLink RX0 27 "TradeWords$Beach" "takes" "[I", Cond.methodLink RX9 157 yX1_habits, Cond.instanceMethod yX1_habits, Cond.selects RX1 yX1_habits yX1_habits, Cond.initialized RX1, Cond.code yX1_habits cX1_habits 5 none, Cond.fieldLink RX1 34 "TradeWords$Crowd" "zeroHears" "I", Cond.fieldLink RX1 37 "TradeWords$Crowd" "oneHears" "I", Cond.methodLink RX9 161 yX1_gather, Cond.instanceMethod yX1_gather, Cond.selects RX1 yX1_gather yX1_gather, Cond.code yX1_gather cX1_gather 3 none, Cond.methodLink RX1 25 Lib.Math.min.name, Cond.methodLink RX1 31 Lib.Math.max.name, Cond.fieldLink RX1 18 "TradeWords$Crowd" "a" "I", Cond.fieldLink RX1 22 "TradeWords$Crowd" "b" "I", Cond.methodLink RX9 165 yX1_begin, Cond.instanceMethod yX1_begin, Cond.selects RX1 yX1_begin yX1_begin, Cond.code yX1_begin cX1_begin 3 none, Cond.fieldLink RX1 11 "TradeWords$Crowd" "now" "[J", Cond.constantLong RX1 49 (1000000), Cond.methodLink RX1 40 yJ7_fill_d0a16]
def wsX9_traders_r6 : List Cond := [Cond.static yJ7_fill_d0a16, Cond.initialized RJ7, Cond.code yJ7_fill_d0a16 cJ7_fill_d0a16 5 none, Cond.methodLink RX1 46 yX1_place, Cond.static yX1_place, Cond.code yX1_place cX1_place 2 (some .int), Cond.methodLink RX1 51 yX5_add, Cond.static yX5_add, Cond.code yX5_add cX5_add 4 none, Cond.methodLink RX9 122 yX1_meet, Cond.instanceMethod yX1_meet, Cond.selects RX1 yX1_meet yX1_meet, Cond.code yX1_meet cX1_meet 4 none, Cond.methodLink RX1 57 yX1_meetOnce, Cond.instanceMethod yX1_meetOnce, Cond.selects RX1 yX1_meetOnce yX1_meetOnce, Cond.code yX1_meetOnce cX1_meetOnce 3 (some .boolean), Cond.fieldLink RX1 61 "TradeWords$Crowd" "moved" "Z", Cond.fieldLink RX1 15 "TradeWords$Crowd" "next" "[J", Cond.methodLink RX1 65 arraycopyName, Cond.native arraycopyName, Cond.static arraycopyName, Cond.initialized "java/lang/System", Cond.methodLink RX1 71 yX1_part]
def wsX9_traders_r7 : List Cond := [Cond.instanceMethod yX1_part, Cond.selects RX1 yX1_part yX1_part, Cond.code yX1_part cX1_part 10 none, Cond.methodLink RX1 75 yX5_at_, Cond.static yX5_at_, Cond.code yX5_at_ cX5_at_ 2 (some .long), Cond.methodLink RX1 83 yX1_go, Cond.instanceMethod yX1_go, Cond.selects RX1 yX1_go yX1_go, Cond.code yX1_go cX1_go 9 none, Cond.constantLong RX1 87 (100), Cond.methodLink RX9 129 yX1_allSaying, Cond.instanceMethod yX1_allSaying, Cond.selects RX1 yX1_allSaying yX1_allSaying, Cond.code yX1_allSaying cX1_allSaying 2 (some .long), Cond.methodLink RX1 79 yX1_inStand, Cond.instanceMethod yX1_inStand, Cond.selects RX1 yX1_inStand yX1_inStand, Cond.code yX1_inStand cX1_inStand 3 (some .long)]
def wsX9_traders : List Cond := .code yX9_traders cX9_traders 6 (some .int) :: ((wsX9_traders_r1 ++ (wsX9_traders_r2 ++ (wsX9_traders_r3 ++ (wsX9_traders_r4 ++ (wsX9_traders_r5 ++ (wsX9_traders_r6 ++ wsX9_traders_r7)))))) ++ wsX90 ++ wsX00 ++ wsX30 ++ wsX10)
def wsX9_ready_r1 : List Cond := [Cond.fieldLink RX9 49 "TradeWords" "laid" "LTradeWords$Beach;", Cond.fieldLink RX9 35 "TradeWords" "crowd" "LTradeWords$Crowd;", Cond.fieldLink RX9 28 "TradeWords" "stands" "LTradeWords$Stands;", Cond.constantLong RX9 136 (10000), Cond.methodLink RX9 78 yX9_isMeaning, Cond.static yX9_isMeaning, Cond.initialized RX9, Cond.code yX9_isMeaning cX9_isMeaning 1 (some .boolean), Cond.methodLink RX9 116 yX9_isMeetings, Cond.static yX9_isMeetings, Cond.code yX9_isMeetings cX9_isMeetings 1 (some .boolean), Cond.methodLink RX9 74 yX9_isPeople, Cond.static yX9_isPeople, Cond.code yX9_isPeople cX9_isPeople 1 (some .boolean), Cond.methodLink RX9 133 yX9_isHundredths, Cond.static yX9_isHundredths, Cond.code yX9_isHundredths cX9_isHundredths 1 (some .boolean), Cond.methodLink RX9 99 yX0_isTold, Cond.instanceMethod yX0_isTold, Cond.selects RX0 yX0_isTold yX0_isTold, Cond.initialized RX0, Cond.code yX0_isTold cX0_isTold 2 (some .boolean), Cond.methodLink RX0 108 yX0_wordOf, Cond.instanceMethod yX0_wordOf]
def wsX9_ready_r2 : List Cond := [Cond.selects RX0 yX0_wordOf yX0_wordOf, Cond.code yX0_wordOf cX0_wordOf 3 (some .int), Cond.fieldLink RX0 9 "TradeWords$Beach" "words" "[I", Cond.methodLink RX0 67 yX0_wordPlace, Cond.static yX0_wordPlace, Cond.code yX0_wordPlace cX0_wordPlace 2 (some .int), Cond.methodLink RX0 104 yX5_at, Cond.static yX5_at, Cond.initialized RX5, Cond.code yX5_at cX5_at 2 (some .int), Cond.methodLink RX9 148 yX9_isAlike, Cond.instanceMethod yX9_isAlike, Cond.selects RX9 yX9_isAlike yX9_isAlike, Cond.code yX9_isAlike cX9_isAlike 2 (some .boolean), Cond.methodLink RX9 102 yX9_likeOfMeaning, Cond.instanceMethod yX9_likeOfMeaning, Cond.selects RX9 yX9_likeOfMeaning yX9_likeOfMeaning, Cond.code yX9_likeOfMeaning cX9_likeOfMeaning 2 (some .int), Cond.fieldLink RX9 42 "TradeWords" "measure" "LTradeWords$Measure;", Cond.methodLink RX9 81 yX0_wordOf, Cond.methodLink RX9 85 yX0_saidBy, Cond.instanceMethod yX0_saidBy, Cond.selects RX0 yX0_saidBy yX0_saidBy, Cond.code yX0_saidBy cX0_saidBy 6 (some .int)]
def wsX9_ready_r3 : List Cond := [Cond.methodLink RX0 111 yX8_length, Cond.static yX8_length, Cond.initialized RX8, Cond.code yX8_length cX8_length 1 (some .int), Cond.methodLink RX0 101 yX8_soundAt, Cond.static yX8_soundAt, Cond.code yX8_soundAt cX8_soundAt 2 (some .int), Cond.methodLink RX0 114 yX0_soundSaidBy, Cond.instanceMethod yX0_soundSaidBy, Cond.selects RX0 yX0_soundSaidBy yX0_soundSaidBy, Cond.code yX0_soundSaidBy cX0_soundSaidBy 5 (some .int), Cond.fieldLink RX0 18 "TradeWords$Beach" "canSay" "[I", Cond.fieldLink RX0 21 "TradeWords$Beach" "instead" "[I", Cond.methodLink RX0 117 yX8_with, Cond.static yX8_with, Cond.code yX8_with cX8_with 3 (some .int), Cond.methodLink RX8 9 yX8_length, Cond.methodLink RX9 199 yX3_likeness, Cond.instanceMethod yX3_likeness, Cond.selects RX3 yX3_likeness yX3_likeness, Cond.initialized RX3, Cond.code yX3_likeness cX3_likeness 4 (some .int), Cond.methodLink RX3 30 Lib.Math.max.name, Cond.static Lib.Math.max.name]
def wsX9_ready_r4 : List Cond := [Cond.initialized "java/lang/Math", Cond.code Lib.Math.max.name Lib.Math.max.code 2 (some .int), Cond.methodLink RX3 15 yX8_length, Cond.methodLink RX3 33 yX3_apart, Cond.instanceMethod yX3_apart, Cond.selects RX3 yX3_apart yX3_apart, Cond.code yX3_apart cX3_apart 8 (some .int), Cond.methodLink RX3 21 Lib.Math.min.name, Cond.static Lib.Math.min.name, Cond.code Lib.Math.min.name Lib.Math.min.code 2 (some .int), Cond.fieldLink RX3 9 "TradeWords$Measure" "row" "[I", Cond.methodLink RX3 27 yX8_soundAt, Cond.methodLink RX9 196 yX0_alikeFrom, Cond.instanceMethod yX0_alikeFrom, Cond.selects RX0 yX0_alikeFrom yX0_alikeFrom, Cond.code yX0_alikeFrom cX0_alikeFrom 1 (some .int), Cond.fieldLink RX0 54 "TradeWords$Beach" "alikeFrom" "I", Cond.methodLink RX9 168 yX0_tradersOf, Cond.instanceMethod yX0_tradersOf, Cond.selects RX0 yX0_tradersOf yX0_tradersOf, Cond.code yX0_tradersOf cX0_tradersOf 2 (some .int), Cond.fieldLink RX0 24 "TradeWords$Beach" "traders" "[I", Cond.methodLink RX9 161 yX1_gather, Cond.instanceMethod yX1_gather]
def wsX9_ready_r5 : List Cond := [Cond.selects RX1 yX1_gather yX1_gather, Cond.initialized RX1, Cond.code yX1_gather cX1_gather 3 none, Cond.methodLink RX1 25 Lib.Math.min.name, Cond.methodLink RX1 31 Lib.Math.max.name, Cond.fieldLink RX1 18 "TradeWords$Crowd" "a" "I", Cond.fieldLink RX1 22 "TradeWords$Crowd" "b" "I", Cond.methodLink RX9 151 yX0_speaksOfTen, Cond.instanceMethod yX0_speaksOfTen, Cond.selects RX0 yX0_speaksOfTen yX0_speaksOfTen, Cond.code yX0_speaksOfTen cX0_speaksOfTen 1 (some .int), Cond.fieldLink RX0 50 "TradeWords$Beach" "speaks" "I", Cond.methodLink RX9 157 yX1_habits, Cond.instanceMethod yX1_habits, Cond.selects RX1 yX1_habits yX1_habits, Cond.code yX1_habits cX1_habits 5 none, Cond.fieldLink RX1 34 "TradeWords$Crowd" "zeroHears" "I", Cond.fieldLink RX1 37 "TradeWords$Crowd" "oneHears" "I", Cond.methodLink RX9 105 yX6_of, Cond.instanceMethod yX6_of, Cond.selects RX6 yX6_of yX6_of, Cond.initialized RX6, Cond.code yX6_of cX6_of 3 (some .int), Cond.fieldLink RX6 11 "TradeWords$Stands" "others" "[I"]
def wsX9_ready_r6 : List Cond := [Cond.methodLink RX6 28 yX5_at, Cond.methodLink RX9 165 yX1_begin, Cond.instanceMethod yX1_begin, Cond.selects RX1 yX1_begin yX1_begin, Cond.code yX1_begin cX1_begin 3 none, Cond.fieldLink RX1 11 "TradeWords$Crowd" "now" "[J", Cond.constantLong RX1 49 (1000000), Cond.methodLink RX1 40 yJ7_fill_d0a16, Cond.static yJ7_fill_d0a16, Cond.initialized RJ7, Cond.code yJ7_fill_d0a16 cJ7_fill_d0a16 5 none, Cond.methodLink RX1 46 yX1_place, Cond.static yX1_place, Cond.code yX1_place cX1_place 2 (some .int), Cond.methodLink RX1 51 yX5_add, Cond.static yX5_add, Cond.code yX5_add cX5_add 4 none, Cond.methodLink RX9 122 yX1_meet, Cond.instanceMethod yX1_meet, Cond.selects RX1 yX1_meet yX1_meet, Cond.code yX1_meet cX1_meet 4 none, Cond.methodLink RX1 57 yX1_meetOnce, Cond.instanceMethod yX1_meetOnce, Cond.selects RX1 yX1_meetOnce yX1_meetOnce]
def wsX9_ready_r7 : List Cond := [Cond.code yX1_meetOnce cX1_meetOnce 3 (some .boolean), Cond.fieldLink RX1 61 "TradeWords$Crowd" "moved" "Z", Cond.fieldLink RX1 15 "TradeWords$Crowd" "next" "[J", Cond.methodLink RX1 65 arraycopyName, Cond.native arraycopyName, Cond.static arraycopyName, Cond.initialized "java/lang/System", Cond.methodLink RX1 71 yX1_part, Cond.instanceMethod yX1_part, Cond.selects RX1 yX1_part yX1_part, Cond.code yX1_part cX1_part 10 none, Cond.methodLink RX1 75 yX5_at_, Cond.static yX5_at_, Cond.code yX5_at_ cX5_at_ 2 (some .long), Cond.methodLink RX1 83 yX1_go, Cond.instanceMethod yX1_go, Cond.selects RX1 yX1_go yX1_go, Cond.code yX1_go cX1_go 9 none, Cond.constantLong RX1 87 (100), Cond.methodLink RX9 129 yX1_allSaying, Cond.instanceMethod yX1_allSaying, Cond.selects RX1 yX1_allSaying yX1_allSaying, Cond.code yX1_allSaying cX1_allSaying 2 (some .long), Cond.methodLink RX1 79 yX1_inStand]
def wsX9_ready_r8 : List Cond := [Cond.instanceMethod yX1_inStand, Cond.selects RX1 yX1_inStand yX1_inStand, Cond.code yX1_inStand cX1_inStand 3 (some .long)]
def wsX9_ready : List Cond := .code yX9_ready cX9_ready 7 (some .int) :: ((wsX9_ready_r1 ++ (wsX9_ready_r2 ++ (wsX9_ready_r3 ++ (wsX9_ready_r4 ++ (wsX9_ready_r5 ++ (wsX9_ready_r6 ++ (wsX9_ready_r7 ++ wsX9_ready_r8))))))) ++ wsX90 ++ wsX00 ++ wsX30 ++ wsX10 ++ wsX60)
def wsX9_draw : List Cond := .code yX9_draw cX9_draw 6 (some .int) :: ([.constantLong RX9 255 (7919), .constantLong RX9 257 (6151), .constantLong RX9 259 (3571), .constantLong RX9 261 (2011), .constantLong RX9 263 (65521)])
def wsX9_saysOther : List Cond := .code yX9_saysOther cX9_saysOther 3 (some .boolean) :: ([])
def wsX9_meetByDraw_r1 : List Cond := [Cond.fieldLink RX9 49 "TradeWords" "laid" "LTradeWords$Beach;", Cond.fieldLink RX9 28 "TradeWords" "stands" "LTradeWords$Stands;", Cond.methodLink RX9 265 yX9_draw, Cond.static yX9_draw, Cond.initialized RX9, Cond.code yX9_draw cX9_draw 6 (some .int), Cond.constantLong RX9 255 (7919), Cond.constantLong RX9 257 (6151), Cond.constantLong RX9 259 (3571), Cond.constantLong RX9 261 (2011), Cond.constantLong RX9 263 (65521), Cond.methodLink RX9 168 yX0_tradersOf, Cond.instanceMethod yX0_tradersOf, Cond.selects RX0 yX0_tradersOf yX0_tradersOf, Cond.initialized RX0, Cond.code yX0_tradersOf cX0_tradersOf 2 (some .int), Cond.fieldLink RX0 24 "TradeWords$Beach" "traders" "[I", Cond.methodLink RX0 104 yX5_at, Cond.static yX5_at, Cond.initialized RX5, Cond.code yX5_at cX5_at 2 (some .int), Cond.methodLink RX9 105 yX6_of, Cond.instanceMethod yX6_of, Cond.selects RX6 yX6_of yX6_of]
def wsX9_meetByDraw_r2 : List Cond := [Cond.initialized RX6, Cond.code yX6_of cX6_of 3 (some .int), Cond.fieldLink RX6 11 "TradeWords$Stands" "others" "[I", Cond.methodLink RX6 28 yX5_at, Cond.methodLink RX9 269 yX9_saysOther, Cond.static yX9_saysOther, Cond.code yX9_saysOther cX9_saysOther 3 (some .boolean), Cond.methodLink RX9 151 yX0_speaksOfTen, Cond.instanceMethod yX0_speaksOfTen, Cond.selects RX0 yX0_speaksOfTen yX0_speaksOfTen, Cond.code yX0_speaksOfTen cX0_speaksOfTen 1 (some .int), Cond.fieldLink RX0 50 "TradeWords$Beach" "speaks" "I", Cond.methodLink RX9 154 yX0_takesOfTen, Cond.instanceMethod yX0_takesOfTen, Cond.selects RX0 yX0_takesOfTen yX0_takesOfTen, Cond.code yX0_takesOfTen cX0_takesOfTen 2 (some .int), Cond.fieldLink RX0 27 "TradeWords$Beach" "takes" "[I", Cond.methodLink RX9 273 yX6_change, Cond.instanceMethod yX6_change, Cond.selects RX6 yX6_change yX6_change, Cond.code yX6_change cX6_change 4 none, Cond.methodLink RX6 38 yX6_of, Cond.methodLink RX6 34 yX5_put, Cond.static yX5_put]
def wsX9_meetByDraw_r3 : List Cond := [Cond.code yX5_put cX5_put 3 none]
def wsX9_meetByDraw : List Cond := .code yX9_meetByDraw cX9_meetByDraw 7 none :: ((wsX9_meetByDraw_r1 ++ (wsX9_meetByDraw_r2 ++ wsX9_meetByDraw_r3)) ++ wsX90 ++ wsX00 ++ wsX60)
def wsX9_tongueBits_r1 : List Cond := [Cond.fieldLink RX9 49 "TradeWords" "laid" "LTradeWords$Beach;", Cond.fieldLink RX9 28 "TradeWords" "stands" "LTradeWords$Stands;", Cond.methodLink RX9 168 yX0_tradersOf, Cond.instanceMethod yX0_tradersOf, Cond.selects RX0 yX0_tradersOf yX0_tradersOf, Cond.initialized RX0, Cond.code yX0_tradersOf cX0_tradersOf 2 (some .int), Cond.fieldLink RX0 24 "TradeWords$Beach" "traders" "[I", Cond.methodLink RX0 104 yX5_at, Cond.static yX5_at, Cond.initialized RX5, Cond.code yX5_at cX5_at 2 (some .int), Cond.methodLink RX9 99 yX0_isTold, Cond.instanceMethod yX0_isTold, Cond.selects RX0 yX0_isTold yX0_isTold, Cond.code yX0_isTold cX0_isTold 2 (some .boolean), Cond.methodLink RX0 108 yX0_wordOf, Cond.instanceMethod yX0_wordOf, Cond.selects RX0 yX0_wordOf yX0_wordOf, Cond.code yX0_wordOf cX0_wordOf 3 (some .int), Cond.fieldLink RX0 9 "TradeWords$Beach" "words" "[I", Cond.methodLink RX0 67 yX0_wordPlace, Cond.static yX0_wordPlace, Cond.code yX0_wordPlace cX0_wordPlace 2 (some .int)]
def wsX9_tongueBits_r2 : List Cond := [Cond.methodLink RX9 105 yX6_of, Cond.instanceMethod yX6_of, Cond.selects RX6 yX6_of yX6_of, Cond.initialized RX6, Cond.code yX6_of cX6_of 3 (some .int), Cond.fieldLink RX6 11 "TradeWords$Stands" "others" "[I", Cond.methodLink RX6 28 yX5_at, Cond.methodLink RX9 148 yX9_isAlike, Cond.instanceMethod yX9_isAlike, Cond.selects RX9 yX9_isAlike yX9_isAlike, Cond.initialized RX9, Cond.code yX9_isAlike cX9_isAlike 2 (some .boolean), Cond.methodLink RX9 102 yX9_likeOfMeaning, Cond.instanceMethod yX9_likeOfMeaning, Cond.selects RX9 yX9_likeOfMeaning yX9_likeOfMeaning, Cond.code yX9_likeOfMeaning cX9_likeOfMeaning 2 (some .int), Cond.fieldLink RX9 42 "TradeWords" "measure" "LTradeWords$Measure;", Cond.methodLink RX9 81 yX0_wordOf, Cond.methodLink RX9 85 yX0_saidBy, Cond.instanceMethod yX0_saidBy, Cond.selects RX0 yX0_saidBy yX0_saidBy, Cond.code yX0_saidBy cX0_saidBy 6 (some .int), Cond.methodLink RX0 111 yX8_length, Cond.static yX8_length]
def wsX9_tongueBits_r3 : List Cond := [Cond.initialized RX8, Cond.code yX8_length cX8_length 1 (some .int), Cond.methodLink RX0 101 yX8_soundAt, Cond.static yX8_soundAt, Cond.code yX8_soundAt cX8_soundAt 2 (some .int), Cond.methodLink RX0 114 yX0_soundSaidBy, Cond.instanceMethod yX0_soundSaidBy, Cond.selects RX0 yX0_soundSaidBy yX0_soundSaidBy, Cond.code yX0_soundSaidBy cX0_soundSaidBy 5 (some .int), Cond.fieldLink RX0 18 "TradeWords$Beach" "canSay" "[I", Cond.fieldLink RX0 21 "TradeWords$Beach" "instead" "[I", Cond.methodLink RX0 117 yX8_with, Cond.static yX8_with, Cond.code yX8_with cX8_with 3 (some .int), Cond.methodLink RX8 9 yX8_length, Cond.methodLink RX9 199 yX3_likeness, Cond.instanceMethod yX3_likeness, Cond.selects RX3 yX3_likeness yX3_likeness, Cond.initialized RX3, Cond.code yX3_likeness cX3_likeness 4 (some .int), Cond.methodLink RX3 30 Lib.Math.max.name, Cond.static Lib.Math.max.name, Cond.initialized "java/lang/Math", Cond.code Lib.Math.max.name Lib.Math.max.code 2 (some .int)]
def wsX9_tongueBits_r4 : List Cond := [Cond.methodLink RX3 15 yX8_length, Cond.methodLink RX3 33 yX3_apart, Cond.instanceMethod yX3_apart, Cond.selects RX3 yX3_apart yX3_apart, Cond.code yX3_apart cX3_apart 8 (some .int), Cond.methodLink RX3 21 Lib.Math.min.name, Cond.static Lib.Math.min.name, Cond.code Lib.Math.min.name Lib.Math.min.code 2 (some .int), Cond.fieldLink RX3 9 "TradeWords$Measure" "row" "[I", Cond.methodLink RX3 27 yX8_soundAt, Cond.methodLink RX9 196 yX0_alikeFrom, Cond.instanceMethod yX0_alikeFrom, Cond.selects RX0 yX0_alikeFrom yX0_alikeFrom, Cond.code yX0_alikeFrom cX0_alikeFrom 1 (some .int), Cond.fieldLink RX0 54 "TradeWords$Beach" "alikeFrom" "I"]
def wsX9_tongueBits : List Cond := .code yX9_tongueBits cX9_tongueBits 6 (some .int) :: ((wsX9_tongueBits_r1 ++ (wsX9_tongueBits_r2 ++ (wsX9_tongueBits_r3 ++ wsX9_tongueBits_r4))) ++ wsX90 ++ wsX00 ++ wsX60 ++ wsX30)
def wsX9_summer_r1 : List Cond := [Cond.fieldLink RX9 49 "TradeWords" "laid" "LTradeWords$Beach;", Cond.methodLink RX9 99 yX0_isTold, Cond.instanceMethod yX0_isTold, Cond.selects RX0 yX0_isTold yX0_isTold, Cond.initialized RX0, Cond.code yX0_isTold cX0_isTold 2 (some .boolean), Cond.methodLink RX0 108 yX0_wordOf, Cond.instanceMethod yX0_wordOf, Cond.selects RX0 yX0_wordOf yX0_wordOf, Cond.code yX0_wordOf cX0_wordOf 3 (some .int), Cond.fieldLink RX0 9 "TradeWords$Beach" "words" "[I", Cond.methodLink RX0 67 yX0_wordPlace, Cond.static yX0_wordPlace, Cond.code yX0_wordPlace cX0_wordPlace 2 (some .int), Cond.methodLink RX0 104 yX5_at, Cond.static yX5_at, Cond.initialized RX5, Cond.code yX5_at cX5_at 2 (some .int), Cond.methodLink RX9 148 yX9_isAlike, Cond.instanceMethod yX9_isAlike, Cond.selects RX9 yX9_isAlike yX9_isAlike, Cond.initialized RX9, Cond.code yX9_isAlike cX9_isAlike 2 (some .boolean), Cond.methodLink RX9 102 yX9_likeOfMeaning]
def wsX9_summer_r2 : List Cond := [Cond.instanceMethod yX9_likeOfMeaning, Cond.selects RX9 yX9_likeOfMeaning yX9_likeOfMeaning, Cond.code yX9_likeOfMeaning cX9_likeOfMeaning 2 (some .int), Cond.fieldLink RX9 42 "TradeWords" "measure" "LTradeWords$Measure;", Cond.methodLink RX9 81 yX0_wordOf, Cond.methodLink RX9 85 yX0_saidBy, Cond.instanceMethod yX0_saidBy, Cond.selects RX0 yX0_saidBy yX0_saidBy, Cond.code yX0_saidBy cX0_saidBy 6 (some .int), Cond.methodLink RX0 111 yX8_length, Cond.static yX8_length, Cond.initialized RX8, Cond.code yX8_length cX8_length 1 (some .int), Cond.methodLink RX0 101 yX8_soundAt, Cond.static yX8_soundAt, Cond.code yX8_soundAt cX8_soundAt 2 (some .int), Cond.methodLink RX0 114 yX0_soundSaidBy, Cond.instanceMethod yX0_soundSaidBy, Cond.selects RX0 yX0_soundSaidBy yX0_soundSaidBy, Cond.code yX0_soundSaidBy cX0_soundSaidBy 5 (some .int), Cond.fieldLink RX0 18 "TradeWords$Beach" "canSay" "[I", Cond.fieldLink RX0 21 "TradeWords$Beach" "instead" "[I", Cond.methodLink RX0 117 yX8_with, Cond.static yX8_with]
def wsX9_summer_r3 : List Cond := [Cond.code yX8_with cX8_with 3 (some .int), Cond.methodLink RX8 9 yX8_length, Cond.methodLink RX9 199 yX3_likeness, Cond.instanceMethod yX3_likeness, Cond.selects RX3 yX3_likeness yX3_likeness, Cond.initialized RX3, Cond.code yX3_likeness cX3_likeness 4 (some .int), Cond.methodLink RX3 30 Lib.Math.max.name, Cond.static Lib.Math.max.name, Cond.initialized "java/lang/Math", Cond.code Lib.Math.max.name Lib.Math.max.code 2 (some .int), Cond.methodLink RX3 15 yX8_length, Cond.methodLink RX3 33 yX3_apart, Cond.instanceMethod yX3_apart, Cond.selects RX3 yX3_apart yX3_apart, Cond.code yX3_apart cX3_apart 8 (some .int), Cond.methodLink RX3 21 Lib.Math.min.name, Cond.static Lib.Math.min.name, Cond.code Lib.Math.min.name Lib.Math.min.code 2 (some .int), Cond.fieldLink RX3 9 "TradeWords$Measure" "row" "[I", Cond.methodLink RX3 27 yX8_soundAt, Cond.methodLink RX9 196 yX0_alikeFrom, Cond.instanceMethod yX0_alikeFrom, Cond.selects RX0 yX0_alikeFrom yX0_alikeFrom]
def wsX9_summer_r4 : List Cond := [Cond.code yX0_alikeFrom cX0_alikeFrom 1 (some .int), Cond.fieldLink RX0 54 "TradeWords$Beach" "alikeFrom" "I", Cond.methodLink RX9 171 yX9_meetByDraw, Cond.instanceMethod yX9_meetByDraw, Cond.selects RX9 yX9_meetByDraw yX9_meetByDraw, Cond.code yX9_meetByDraw cX9_meetByDraw 7 none, Cond.fieldLink RX9 28 "TradeWords" "stands" "LTradeWords$Stands;", Cond.methodLink RX9 265 yX9_draw, Cond.static yX9_draw, Cond.code yX9_draw cX9_draw 6 (some .int), Cond.constantLong RX9 255 (7919), Cond.constantLong RX9 257 (6151), Cond.constantLong RX9 259 (3571), Cond.constantLong RX9 261 (2011), Cond.constantLong RX9 263 (65521), Cond.methodLink RX9 168 yX0_tradersOf, Cond.instanceMethod yX0_tradersOf, Cond.selects RX0 yX0_tradersOf yX0_tradersOf, Cond.code yX0_tradersOf cX0_tradersOf 2 (some .int), Cond.fieldLink RX0 24 "TradeWords$Beach" "traders" "[I", Cond.methodLink RX9 105 yX6_of, Cond.instanceMethod yX6_of, Cond.selects RX6 yX6_of yX6_of, Cond.initialized RX6]
def wsX9_summer_r5 : List Cond := [Cond.code yX6_of cX6_of 3 (some .int), Cond.fieldLink RX6 11 "TradeWords$Stands" "others" "[I", Cond.methodLink RX6 28 yX5_at, Cond.methodLink RX9 269 yX9_saysOther, Cond.static yX9_saysOther, Cond.code yX9_saysOther cX9_saysOther 3 (some .boolean), Cond.methodLink RX9 151 yX0_speaksOfTen, Cond.instanceMethod yX0_speaksOfTen, Cond.selects RX0 yX0_speaksOfTen yX0_speaksOfTen, Cond.code yX0_speaksOfTen cX0_speaksOfTen 1 (some .int), Cond.fieldLink RX0 50 "TradeWords$Beach" "speaks" "I", Cond.methodLink RX9 154 yX0_takesOfTen, Cond.instanceMethod yX0_takesOfTen, Cond.selects RX0 yX0_takesOfTen yX0_takesOfTen, Cond.code yX0_takesOfTen cX0_takesOfTen 2 (some .int), Cond.fieldLink RX0 27 "TradeWords$Beach" "takes" "[I", Cond.methodLink RX9 273 yX6_change, Cond.instanceMethod yX6_change, Cond.selects RX6 yX6_change yX6_change, Cond.code yX6_change cX6_change 4 none, Cond.methodLink RX6 38 yX6_of, Cond.methodLink RX6 34 yX5_put, Cond.static yX5_put, Cond.code yX5_put cX5_put 3 none]
def wsX9_summer_r6 : List Cond := [Cond.methodLink RX9 174 yX9_tongueBits, Cond.instanceMethod yX9_tongueBits, Cond.selects RX9 yX9_tongueBits yX9_tongueBits, Cond.code yX9_tongueBits cX9_tongueBits 6 (some .int), Cond.methodLink RX9 177 yJ6_bitCount_0f7a4, Cond.static yJ6_bitCount_0f7a4, Cond.initialized RJ6, Cond.code yJ6_bitCount_0f7a4 cJ6_bitCount_0f7a4 1 (some .int), Cond.constant RJ6 265 (1431655765), Cond.constant RJ6 266 (858993459), Cond.constant RJ6 267 (252645135)]
def wsX9_summer : List Cond := .code yX9_summer cX9_summer 5 (some .int) :: ((wsX9_summer_r1 ++ (wsX9_summer_r2 ++ (wsX9_summer_r3 ++ (wsX9_summer_r4 ++ (wsX9_summer_r5 ++ wsX9_summer_r6))))) ++ wsX90 ++ wsX00 ++ wsX30 ++ wsX60)
def wsX9_tongue_r1 : List Cond := [Cond.methodLink RX9 74 yX9_isPeople, Cond.static yX9_isPeople, Cond.initialized RX9, Cond.code yX9_isPeople cX9_isPeople 1 (some .boolean), Cond.methodLink RX9 174 yX9_tongueBits, Cond.instanceMethod yX9_tongueBits, Cond.selects RX9 yX9_tongueBits yX9_tongueBits, Cond.code yX9_tongueBits cX9_tongueBits 6 (some .int), Cond.fieldLink RX9 49 "TradeWords" "laid" "LTradeWords$Beach;", Cond.fieldLink RX9 28 "TradeWords" "stands" "LTradeWords$Stands;", Cond.methodLink RX9 168 yX0_tradersOf, Cond.instanceMethod yX0_tradersOf, Cond.selects RX0 yX0_tradersOf yX0_tradersOf, Cond.initialized RX0, Cond.code yX0_tradersOf cX0_tradersOf 2 (some .int), Cond.fieldLink RX0 24 "TradeWords$Beach" "traders" "[I", Cond.methodLink RX0 104 yX5_at, Cond.static yX5_at, Cond.initialized RX5, Cond.code yX5_at cX5_at 2 (some .int), Cond.methodLink RX9 99 yX0_isTold, Cond.instanceMethod yX0_isTold, Cond.selects RX0 yX0_isTold yX0_isTold, Cond.code yX0_isTold cX0_isTold 2 (some .boolean)]
def wsX9_tongue_r2 : List Cond := [Cond.methodLink RX0 108 yX0_wordOf, Cond.instanceMethod yX0_wordOf, Cond.selects RX0 yX0_wordOf yX0_wordOf, Cond.code yX0_wordOf cX0_wordOf 3 (some .int), Cond.fieldLink RX0 9 "TradeWords$Beach" "words" "[I", Cond.methodLink RX0 67 yX0_wordPlace, Cond.static yX0_wordPlace, Cond.code yX0_wordPlace cX0_wordPlace 2 (some .int), Cond.methodLink RX9 105 yX6_of, Cond.instanceMethod yX6_of, Cond.selects RX6 yX6_of yX6_of, Cond.initialized RX6, Cond.code yX6_of cX6_of 3 (some .int), Cond.fieldLink RX6 11 "TradeWords$Stands" "others" "[I", Cond.methodLink RX6 28 yX5_at, Cond.methodLink RX9 148 yX9_isAlike, Cond.instanceMethod yX9_isAlike, Cond.selects RX9 yX9_isAlike yX9_isAlike, Cond.code yX9_isAlike cX9_isAlike 2 (some .boolean), Cond.methodLink RX9 102 yX9_likeOfMeaning, Cond.instanceMethod yX9_likeOfMeaning, Cond.selects RX9 yX9_likeOfMeaning yX9_likeOfMeaning, Cond.code yX9_likeOfMeaning cX9_likeOfMeaning 2 (some .int), Cond.fieldLink RX9 42 "TradeWords" "measure" "LTradeWords$Measure;"]
def wsX9_tongue_r3 : List Cond := [Cond.methodLink RX9 81 yX0_wordOf, Cond.methodLink RX9 85 yX0_saidBy, Cond.instanceMethod yX0_saidBy, Cond.selects RX0 yX0_saidBy yX0_saidBy, Cond.code yX0_saidBy cX0_saidBy 6 (some .int), Cond.methodLink RX0 111 yX8_length, Cond.static yX8_length, Cond.initialized RX8, Cond.code yX8_length cX8_length 1 (some .int), Cond.methodLink RX0 101 yX8_soundAt, Cond.static yX8_soundAt, Cond.code yX8_soundAt cX8_soundAt 2 (some .int), Cond.methodLink RX0 114 yX0_soundSaidBy, Cond.instanceMethod yX0_soundSaidBy, Cond.selects RX0 yX0_soundSaidBy yX0_soundSaidBy, Cond.code yX0_soundSaidBy cX0_soundSaidBy 5 (some .int), Cond.fieldLink RX0 18 "TradeWords$Beach" "canSay" "[I", Cond.fieldLink RX0 21 "TradeWords$Beach" "instead" "[I", Cond.methodLink RX0 117 yX8_with, Cond.static yX8_with, Cond.code yX8_with cX8_with 3 (some .int), Cond.methodLink RX8 9 yX8_length, Cond.methodLink RX9 199 yX3_likeness, Cond.instanceMethod yX3_likeness]
def wsX9_tongue_r4 : List Cond := [Cond.selects RX3 yX3_likeness yX3_likeness, Cond.initialized RX3, Cond.code yX3_likeness cX3_likeness 4 (some .int), Cond.methodLink RX3 30 Lib.Math.max.name, Cond.static Lib.Math.max.name, Cond.initialized "java/lang/Math", Cond.code Lib.Math.max.name Lib.Math.max.code 2 (some .int), Cond.methodLink RX3 15 yX8_length, Cond.methodLink RX3 33 yX3_apart, Cond.instanceMethod yX3_apart, Cond.selects RX3 yX3_apart yX3_apart, Cond.code yX3_apart cX3_apart 8 (some .int), Cond.methodLink RX3 21 Lib.Math.min.name, Cond.static Lib.Math.min.name, Cond.code Lib.Math.min.name Lib.Math.min.code 2 (some .int), Cond.fieldLink RX3 9 "TradeWords$Measure" "row" "[I", Cond.methodLink RX3 27 yX8_soundAt, Cond.methodLink RX9 196 yX0_alikeFrom, Cond.instanceMethod yX0_alikeFrom, Cond.selects RX0 yX0_alikeFrom yX0_alikeFrom, Cond.code yX0_alikeFrom cX0_alikeFrom 1 (some .int), Cond.fieldLink RX0 54 "TradeWords$Beach" "alikeFrom" "I"]
def wsX9_tongue : List Cond := .code yX9_tongue cX9_tongue 2 (some .int) :: ((wsX9_tongue_r1 ++ (wsX9_tongue_r2 ++ (wsX9_tongue_r3 ++ wsX9_tongue_r4))) ++ wsX90 ++ wsX00 ++ wsX60 ++ wsX30)
def wsX9_isEar : List Cond := .code yX9_isEar cX9_isEar 1 (some .boolean) :: ([])
def wsX9_likeOfWordThere_r1 : List Cond := [Cond.fieldLink RX9 42 "TradeWords" "measure" "LTradeWords$Measure;", Cond.methodLink RX9 199 yX3_likeness, Cond.instanceMethod yX3_likeness, Cond.selects RX3 yX3_likeness yX3_likeness, Cond.initialized RX3, Cond.code yX3_likeness cX3_likeness 4 (some .int), Cond.methodLink RX3 30 Lib.Math.max.name, Cond.static Lib.Math.max.name, Cond.initialized "java/lang/Math", Cond.code Lib.Math.max.name Lib.Math.max.code 2 (some .int), Cond.methodLink RX3 15 yX8_length, Cond.static yX8_length, Cond.initialized RX8, Cond.code yX8_length cX8_length 1 (some .int), Cond.methodLink RX3 33 yX3_apart, Cond.instanceMethod yX3_apart, Cond.selects RX3 yX3_apart yX3_apart, Cond.code yX3_apart cX3_apart 8 (some .int), Cond.methodLink RX3 21 Lib.Math.min.name, Cond.static Lib.Math.min.name, Cond.code Lib.Math.min.name Lib.Math.min.code 2 (some .int), Cond.fieldLink RX3 9 "TradeWords$Measure" "row" "[I", Cond.methodLink RX3 27 yX8_soundAt, Cond.static yX8_soundAt]
def wsX9_likeOfWordThere_r2 : List Cond := [Cond.code yX8_soundAt cX8_soundAt 2 (some .int)]
def wsX9_likeOfWordThere : List Cond := .code yX9_likeOfWordThere cX9_likeOfWordThere 3 (some .int) :: ((wsX9_likeOfWordThere_r1 ++ wsX9_likeOfWordThere_r2) ++ wsX90 ++ wsX30)
def wsX9_from_r1 : List Cond := [Cond.fieldLink RX9 49 "TradeWords" "laid" "LTradeWords$Beach;", Cond.methodLink RX9 191 Lib.Math.max.name, Cond.static Lib.Math.max.name, Cond.initialized "java/lang/Math", Cond.code Lib.Math.max.name Lib.Math.max.code 2 (some .int), Cond.methodLink RX9 182 yX9_isEar, Cond.static yX9_isEar, Cond.initialized RX9, Cond.code yX9_isEar cX9_isEar 1 (some .boolean), Cond.methodLink RX9 78 yX9_isMeaning, Cond.static yX9_isMeaning, Cond.code yX9_isMeaning cX9_isMeaning 1 (some .boolean), Cond.methodLink RX9 185 yX0_heardBy, Cond.instanceMethod yX0_heardBy, Cond.selects RX0 yX0_heardBy yX0_heardBy, Cond.initialized RX0, Cond.code yX0_heardBy cX0_heardBy 3 (some .int), Cond.fieldLink RX0 15 "TradeWords$Beach" "heard" "[I", Cond.methodLink RX0 80 yX0_heardPlace, Cond.static yX0_heardPlace, Cond.code yX0_heardPlace cX0_heardPlace 2 (some .int), Cond.methodLink RX0 104 yX5_at, Cond.static yX5_at, Cond.initialized RX5]
def wsX9_from_r2 : List Cond := [Cond.code yX5_at cX5_at 2 (some .int), Cond.methodLink RX9 81 yX0_wordOf, Cond.instanceMethod yX0_wordOf, Cond.selects RX0 yX0_wordOf yX0_wordOf, Cond.code yX0_wordOf cX0_wordOf 3 (some .int), Cond.fieldLink RX0 9 "TradeWords$Beach" "words" "[I", Cond.methodLink RX0 67 yX0_wordPlace, Cond.static yX0_wordPlace, Cond.code yX0_wordPlace cX0_wordPlace 2 (some .int), Cond.methodLink RX9 188 yX9_likeOfWordThere, Cond.instanceMethod yX9_likeOfWordThere, Cond.selects RX9 yX9_likeOfWordThere yX9_likeOfWordThere, Cond.code yX9_likeOfWordThere cX9_likeOfWordThere 3 (some .int), Cond.fieldLink RX9 42 "TradeWords" "measure" "LTradeWords$Measure;", Cond.methodLink RX9 199 yX3_likeness, Cond.instanceMethod yX3_likeness, Cond.selects RX3 yX3_likeness yX3_likeness, Cond.initialized RX3, Cond.code yX3_likeness cX3_likeness 4 (some .int), Cond.methodLink RX3 30 Lib.Math.max.name, Cond.methodLink RX3 15 yX8_length, Cond.static yX8_length, Cond.initialized RX8, Cond.code yX8_length cX8_length 1 (some .int)]
def wsX9_from_r3 : List Cond := [Cond.methodLink RX3 33 yX3_apart, Cond.instanceMethod yX3_apart, Cond.selects RX3 yX3_apart yX3_apart, Cond.code yX3_apart cX3_apart 8 (some .int), Cond.methodLink RX3 21 Lib.Math.min.name, Cond.static Lib.Math.min.name, Cond.code Lib.Math.min.name Lib.Math.min.code 2 (some .int), Cond.fieldLink RX3 9 "TradeWords$Measure" "row" "[I", Cond.methodLink RX3 27 yX8_soundAt, Cond.static yX8_soundAt, Cond.code yX8_soundAt cX8_soundAt 2 (some .int), Cond.methodLink RX9 196 yX0_alikeFrom, Cond.instanceMethod yX0_alikeFrom, Cond.selects RX0 yX0_alikeFrom yX0_alikeFrom, Cond.code yX0_alikeFrom cX0_alikeFrom 1 (some .int), Cond.fieldLink RX0 54 "TradeWords$Beach" "alikeFrom" "I"]
def wsX9_from : List Cond := .code yX9_from cX9_from 6 (some .int) :: ((wsX9_from_r1 ++ (wsX9_from_r2 ++ wsX9_from_r3)) ++ wsX90 ++ wsX00 ++ wsX30)
def wsX9_chance_r1 : List Cond := [Cond.fieldLink RX9 49 "TradeWords" "laid" "LTradeWords$Beach;", Cond.fieldLink RX9 42 "TradeWords" "measure" "LTradeWords$Measure;", Cond.methodLink RX9 182 yX9_isEar, Cond.static yX9_isEar, Cond.initialized RX9, Cond.code yX9_isEar cX9_isEar 1 (some .boolean), Cond.methodLink RX9 74 yX9_isPeople, Cond.static yX9_isPeople, Cond.code yX9_isPeople cX9_isPeople 1 (some .boolean), Cond.methodLink RX9 185 yX0_heardBy, Cond.instanceMethod yX0_heardBy, Cond.selects RX0 yX0_heardBy yX0_heardBy, Cond.initialized RX0, Cond.code yX0_heardBy cX0_heardBy 3 (some .int), Cond.fieldLink RX0 15 "TradeWords$Beach" "heard" "[I", Cond.methodLink RX0 80 yX0_heardPlace, Cond.static yX0_heardPlace, Cond.code yX0_heardPlace cX0_heardPlace 2 (some .int), Cond.methodLink RX0 104 yX5_at, Cond.static yX5_at, Cond.initialized RX5, Cond.code yX5_at cX5_at 2 (some .int), Cond.methodLink RX9 81 yX0_wordOf, Cond.instanceMethod yX0_wordOf]
def wsX9_chance_r2 : List Cond := [Cond.selects RX0 yX0_wordOf yX0_wordOf, Cond.code yX0_wordOf cX0_wordOf 3 (some .int), Cond.fieldLink RX0 9 "TradeWords$Beach" "words" "[I", Cond.methodLink RX0 67 yX0_wordPlace, Cond.static yX0_wordPlace, Cond.code yX0_wordPlace cX0_wordPlace 2 (some .int), Cond.methodLink RX9 199 yX3_likeness, Cond.instanceMethod yX3_likeness, Cond.selects RX3 yX3_likeness yX3_likeness, Cond.initialized RX3, Cond.code yX3_likeness cX3_likeness 4 (some .int), Cond.methodLink RX3 30 Lib.Math.max.name, Cond.static Lib.Math.max.name, Cond.initialized "java/lang/Math", Cond.code Lib.Math.max.name Lib.Math.max.code 2 (some .int), Cond.methodLink RX3 15 yX8_length, Cond.static yX8_length, Cond.initialized RX8, Cond.code yX8_length cX8_length 1 (some .int), Cond.methodLink RX3 33 yX3_apart, Cond.instanceMethod yX3_apart, Cond.selects RX3 yX3_apart yX3_apart, Cond.code yX3_apart cX3_apart 8 (some .int), Cond.methodLink RX3 21 Lib.Math.min.name]
def wsX9_chance_r3 : List Cond := [Cond.static Lib.Math.min.name, Cond.code Lib.Math.min.name Lib.Math.min.code 2 (some .int), Cond.fieldLink RX3 9 "TradeWords$Measure" "row" "[I", Cond.methodLink RX3 27 yX8_soundAt, Cond.static yX8_soundAt, Cond.code yX8_soundAt cX8_soundAt 2 (some .int), Cond.methodLink RX9 196 yX0_alikeFrom, Cond.instanceMethod yX0_alikeFrom, Cond.selects RX0 yX0_alikeFrom yX0_alikeFrom, Cond.code yX0_alikeFrom cX0_alikeFrom 1 (some .int), Cond.fieldLink RX0 54 "TradeWords$Beach" "alikeFrom" "I"]
def wsX9_chance : List Cond := .code yX9_chance cX9_chance 10 (some .int) :: ((wsX9_chance_r1 ++ (wsX9_chance_r2 ++ wsX9_chance_r3)) ++ wsX90 ++ wsX00 ++ wsX30)
def wsX9_apartFromOtherEars_r1 : List Cond := [Cond.fieldLink RX9 49 "TradeWords" "laid" "LTradeWords$Beach;", Cond.fieldLink RX9 42 "TradeWords" "measure" "LTradeWords$Measure;", Cond.methodLink RX9 185 yX0_heardBy, Cond.instanceMethod yX0_heardBy, Cond.selects RX0 yX0_heardBy yX0_heardBy, Cond.initialized RX0, Cond.code yX0_heardBy cX0_heardBy 3 (some .int), Cond.fieldLink RX0 15 "TradeWords$Beach" "heard" "[I", Cond.methodLink RX0 80 yX0_heardPlace, Cond.static yX0_heardPlace, Cond.code yX0_heardPlace cX0_heardPlace 2 (some .int), Cond.methodLink RX0 104 yX5_at, Cond.static yX5_at, Cond.initialized RX5, Cond.code yX5_at cX5_at 2 (some .int), Cond.methodLink RX9 96 yX3_apart, Cond.instanceMethod yX3_apart, Cond.selects RX3 yX3_apart yX3_apart, Cond.initialized RX3, Cond.code yX3_apart cX3_apart 8 (some .int), Cond.methodLink RX3 21 Lib.Math.min.name, Cond.static Lib.Math.min.name, Cond.initialized "java/lang/Math", Cond.code Lib.Math.min.name Lib.Math.min.code 2 (some .int)]
def wsX9_apartFromOtherEars_r2 : List Cond := [Cond.fieldLink RX3 9 "TradeWords$Measure" "row" "[I", Cond.methodLink RX3 15 yX8_length, Cond.static yX8_length, Cond.initialized RX8, Cond.code yX8_length cX8_length 1 (some .int), Cond.methodLink RX3 27 yX8_soundAt, Cond.static yX8_soundAt, Cond.code yX8_soundAt cX8_soundAt 2 (some .int)]
def wsX9_apartFromOtherEars : List Cond := .code yX9_apartFromOtherEars cX9_apartFromOtherEars 6 (some .int) :: ((wsX9_apartFromOtherEars_r1 ++ wsX9_apartFromOtherEars_r2) ++ wsX90 ++ wsX00 ++ wsX30)
def wsX9_joined_r1 : List Cond := [Cond.fieldLink RX9 49 "TradeWords" "laid" "LTradeWords$Beach;", Cond.methodLink RX9 78 yX9_isMeaning, Cond.static yX9_isMeaning, Cond.initialized RX9, Cond.code yX9_isMeaning cX9_isMeaning 1 (some .boolean), Cond.methodLink RX9 185 yX0_heardBy, Cond.instanceMethod yX0_heardBy, Cond.selects RX0 yX0_heardBy yX0_heardBy, Cond.initialized RX0, Cond.code yX0_heardBy cX0_heardBy 3 (some .int), Cond.fieldLink RX0 15 "TradeWords$Beach" "heard" "[I", Cond.methodLink RX0 80 yX0_heardPlace, Cond.static yX0_heardPlace, Cond.code yX0_heardPlace cX0_heardPlace 2 (some .int), Cond.methodLink RX0 104 yX5_at, Cond.static yX5_at, Cond.initialized RX5, Cond.code yX5_at cX5_at 2 (some .int), Cond.methodLink RX9 202 yX9_apartFromOtherEars, Cond.instanceMethod yX9_apartFromOtherEars, Cond.selects RX9 yX9_apartFromOtherEars yX9_apartFromOtherEars, Cond.code yX9_apartFromOtherEars cX9_apartFromOtherEars 6 (some .int), Cond.fieldLink RX9 42 "TradeWords" "measure" "LTradeWords$Measure;", Cond.methodLink RX9 96 yX3_apart]
def wsX9_joined_r2 : List Cond := [Cond.instanceMethod yX3_apart, Cond.selects RX3 yX3_apart yX3_apart, Cond.initialized RX3, Cond.code yX3_apart cX3_apart 8 (some .int), Cond.methodLink RX3 21 Lib.Math.min.name, Cond.static Lib.Math.min.name, Cond.initialized "java/lang/Math", Cond.code Lib.Math.min.name Lib.Math.min.code 2 (some .int), Cond.fieldLink RX3 9 "TradeWords$Measure" "row" "[I", Cond.methodLink RX3 15 yX8_length, Cond.static yX8_length, Cond.initialized RX8, Cond.code yX8_length cX8_length 1 (some .int), Cond.methodLink RX3 27 yX8_soundAt, Cond.static yX8_soundAt, Cond.code yX8_soundAt cX8_soundAt 2 (some .int)]
def wsX9_joined : List Cond := .code yX9_joined cX9_joined 6 (some .int) :: ((wsX9_joined_r1 ++ wsX9_joined_r2) ++ wsX90 ++ wsX00 ++ wsX30)
def wsX9_isOfThousand : List Cond := .code yX9_isOfThousand cX9_isOfThousand 1 (some .boolean) :: ([])
def wsX9_isBent : List Cond := .code yX9_isBent cX9_isBent 1 (some .boolean) :: ([])
def wsX9_nextGeneration : List Cond := .code yX9_nextGeneration cX9_nextGeneration 8 (some .int) :: ([.constantLong RX9 146 (1000)])
def wsX9_children : List Cond := .code yX9_children cX9_children 6 (some .int) :: ([.methodLink RX9 205 yX9_isOfThousand, .static yX9_isOfThousand, .initialized RX9, .code yX9_isOfThousand cX9_isOfThousand 1 (some .boolean), .methodLink RX9 208 yX9_isBent, .static yX9_isBent, .code yX9_isBent cX9_isBent 1 (some .boolean), .methodLink RX9 211 yX9_nextGeneration, .static yX9_nextGeneration, .code yX9_nextGeneration cX9_nextGeneration 8 (some .int), .constantLong RX9 146 (1000)])
def wsX9_even : List Cond := .code yX9_even cX9_even 5 (some .int) :: ([.methodLink RX9 205 yX9_isOfThousand, .static yX9_isOfThousand, .initialized RX9, .code yX9_isOfThousand cX9_isOfThousand 1 (some .boolean), .methodLink RX9 208 yX9_isBent, .static yX9_isBent, .code yX9_isBent cX9_isBent 1 (some .boolean), .methodLink RX9 211 yX9_nextGeneration, .static yX9_nextGeneration, .code yX9_nextGeneration cX9_nextGeneration 8 (some .int), .constantLong RX9 146 (1000)])
def wsX9_fewest_r1 : List Cond := [Cond.fieldLink RX9 49 "TradeWords" "laid" "LTradeWords$Beach;", Cond.methodLink RX9 214 yX0_needs, Cond.instanceMethod yX0_needs, Cond.selects RX0 yX0_needs yX0_needs, Cond.initialized RX0, Cond.code yX0_needs cX0_needs 1 (some (.object "TradeWords$Needs")), Cond.fieldLink RX0 33 "TradeWords$Beach" "needs" "LTradeWords$Needs;", Cond.methodLink RX9 218 yX4_leastSet, Cond.instanceMethod yX4_leastSet, Cond.selects RX4 yX4_leastSet yX4_leastSet, Cond.initialized RX4, Cond.code yX4_leastSet cX4_leastSet 4 (some .int), Cond.fieldLink RX4 25 "TradeWords$Needs" "needed" "I", Cond.methodLink RX4 38 yJ6_bitCount_0f7a4, Cond.static yJ6_bitCount_0f7a4, Cond.initialized RJ6, Cond.code yJ6_bitCount_0f7a4 cJ6_bitCount_0f7a4 1 (some .int), Cond.constant RJ6 265 (1431655765), Cond.constant RJ6 266 (858993459), Cond.constant RJ6 267 (252645135), Cond.methodLink RX4 44 yX4_sayableBy, Cond.instanceMethod yX4_sayableBy, Cond.selects RX4 yX4_sayableBy yX4_sayableBy, Cond.code yX4_sayableBy cX4_sayableBy 4 (some .int)]
def wsX9_fewest_r2 : List Cond := [Cond.fieldLink RX4 18 "TradeWords$Needs" "joinedTold" "I", Cond.fieldLink RX4 15 "TradeWords$Needs" "joinedPair" "[I", Cond.fieldLink RX4 9 "TradeWords$Needs" "joinedMeaning" "[I", Cond.methodLink RX4 34 yX5_at, Cond.static yX5_at, Cond.initialized RX5, Cond.code yX5_at cX5_at 2 (some .int), Cond.methodLink RX9 177 yJ6_bitCount_0f7a4]
def wsX9_fewest : List Cond := .code yX9_fewest cX9_fewest 3 (some .int) :: ((wsX9_fewest_r1 ++ wsX9_fewest_r2) ++ wsX90 ++ wsX00 ++ wsX40)
def wsX9_both : List Cond := .code yX9_both cX9_both 1 (some .int) :: ([.fieldLink RX9 49 "TradeWords" "laid" "LTradeWords$Beach;", .methodLink RX9 223 yX0_soundsOf, .instanceMethod yX0_soundsOf, .selects RX0 yX0_soundsOf yX0_soundsOf, .initialized RX0, .code yX0_soundsOf cX0_soundsOf 2 (some .int), .fieldLink RX0 18 "TradeWords$Beach" "canSay" "[I", .methodLink RX0 104 yX5_at, .static yX5_at, .initialized RX5, .code yX5_at cX5_at 2 (some .int)] ++ wsX90 ++ wsX00)
def wsX9_lost_r1 : List Cond := [Cond.fieldLink RX9 49 "TradeWords" "laid" "LTradeWords$Beach;", Cond.methodLink RX9 74 yX9_isPeople, Cond.static yX9_isPeople, Cond.initialized RX9, Cond.code yX9_isPeople cX9_isPeople 1 (some .boolean), Cond.methodLink RX9 81 yX0_wordOf, Cond.instanceMethod yX0_wordOf, Cond.selects RX0 yX0_wordOf yX0_wordOf, Cond.initialized RX0, Cond.code yX0_wordOf cX0_wordOf 3 (some .int), Cond.fieldLink RX0 9 "TradeWords$Beach" "words" "[I", Cond.methodLink RX0 67 yX0_wordPlace, Cond.static yX0_wordPlace, Cond.code yX0_wordPlace cX0_wordPlace 2 (some .int), Cond.methodLink RX0 104 yX5_at, Cond.static yX5_at, Cond.initialized RX5, Cond.code yX5_at cX5_at 2 (some .int), Cond.methodLink RX9 88 yX8_length, Cond.static yX8_length, Cond.initialized RX8, Cond.code yX8_length cX8_length 1 (some .int), Cond.methodLink RX9 93 yX8_soundAt, Cond.static yX8_soundAt]
def wsX9_lost_r2 : List Cond := [Cond.code yX8_soundAt cX8_soundAt 2 (some .int), Cond.methodLink RX9 226 yX0_soundSaidBy, Cond.instanceMethod yX0_soundSaidBy, Cond.selects RX0 yX0_soundSaidBy yX0_soundSaidBy, Cond.code yX0_soundSaidBy cX0_soundSaidBy 5 (some .int), Cond.fieldLink RX0 18 "TradeWords$Beach" "canSay" "[I", Cond.fieldLink RX0 21 "TradeWords$Beach" "instead" "[I"]
def wsX9_lost : List Cond := .code yX9_lost cX9_lost 7 (some .int) :: ((wsX9_lost_r1 ++ wsX9_lost_r2) ++ wsX90 ++ wsX00)
def wsX9_keep : List Cond := .code yX9_keep cX9_keep 1 (some .int) :: ([.fieldLink RX9 28 "TradeWords" "stands" "LTradeWords$Stands;", .methodLink RX9 229 yX6_push, .instanceMethod yX6_push, .selects RX6 yX6_push yX6_push, .initialized RX6, .code yX6_push cX6_push 1 (some .boolean), .fieldLink RX6 24 "TradeWords$Stands" "kept" "I", .fieldLink RX6 11 "TradeWords$Stands" "others" "[I", .fieldLink RX6 15 "TradeWords$Stands" "keptOthers" "[I", .methodLink RX6 42 arraycopyName, .native arraycopyName, .static arraycopyName, .initialized "java/lang/System", .methodLink RX9 232 yX6_kept, .instanceMethod yX6_kept, .selects RX6 yX6_kept yX6_kept, .code yX6_kept cX6_kept 1 (some .int)] ++ wsX90 ++ wsX60)
def wsX9_back : List Cond := .code yX9_back cX9_back 1 (some .int) :: ([.fieldLink RX9 28 "TradeWords" "stands" "LTradeWords$Stands;", .methodLink RX9 235 yX6_pop, .instanceMethod yX6_pop, .selects RX6 yX6_pop yX6_pop, .initialized RX6, .code yX6_pop cX6_pop 1 (some .boolean), .fieldLink RX6 24 "TradeWords$Stands" "kept" "I", .fieldLink RX6 15 "TradeWords$Stands" "keptOthers" "[I", .fieldLink RX6 11 "TradeWords$Stands" "others" "[I", .methodLink RX6 42 arraycopyName, .native arraycopyName, .static arraycopyName, .initialized "java/lang/System", .methodLink RX9 232 yX6_kept, .instanceMethod yX6_kept, .selects RX6 yX6_kept yX6_kept, .code yX6_kept cX6_kept 1 (some .int)] ++ wsX90 ++ wsX60)
def wsX9_count_r1 : List Cond := [Cond.fieldLink RX9 10 "TradeWords" "text" "LTradeWords$Text;", Cond.fieldLink RX9 49 "TradeWords" "laid" "LTradeWords$Beach;", Cond.fieldLink RX9 28 "TradeWords" "stands" "LTradeWords$Stands;", Cond.methodLink RX9 71 yX9_toldMeanings, Cond.instanceMethod yX9_toldMeanings, Cond.selects RX9 yX9_toldMeanings yX9_toldMeanings, Cond.initialized RX9, Cond.code yX9_toldMeanings cX9_toldMeanings 3 (some .int), Cond.methodLink RX9 99 yX0_isTold, Cond.instanceMethod yX0_isTold, Cond.selects RX0 yX0_isTold yX0_isTold, Cond.initialized RX0, Cond.code yX0_isTold cX0_isTold 2 (some .boolean), Cond.methodLink RX0 108 yX0_wordOf, Cond.instanceMethod yX0_wordOf, Cond.selects RX0 yX0_wordOf yX0_wordOf, Cond.code yX0_wordOf cX0_wordOf 3 (some .int), Cond.fieldLink RX0 9 "TradeWords$Beach" "words" "[I", Cond.methodLink RX0 67 yX0_wordPlace, Cond.static yX0_wordPlace, Cond.code yX0_wordPlace cX0_wordPlace 2 (some .int), Cond.methodLink RX0 104 yX5_at, Cond.static yX5_at, Cond.initialized RX5]
def wsX9_count_r2 : List Cond := [Cond.code yX5_at cX5_at 2 (some .int), Cond.methodLink RX9 56 yX7_length, Cond.instanceMethod yX7_length, Cond.selects RX7 yX7_length yX7_length, Cond.initialized RX7, Cond.code yX7_length cX7_length 1 (some .int), Cond.fieldLink RX7 15 "TradeWords$Text" "length" "I", Cond.methodLink RX9 214 yX0_needs, Cond.instanceMethod yX0_needs, Cond.selects RX0 yX0_needs yX0_needs, Cond.code yX0_needs cX0_needs 1 (some (.object "TradeWords$Needs")), Cond.fieldLink RX0 33 "TradeWords$Beach" "needs" "LTradeWords$Needs;", Cond.methodLink RX9 238 yX4_needsTold, Cond.instanceMethod yX4_needsTold, Cond.selects RX4 yX4_needsTold yX4_needsTold, Cond.initialized RX4, Cond.code yX4_needsTold cX4_needsTold 1 (some .int), Cond.fieldLink RX4 22 "TradeWords$Needs" "needsTold" "I", Cond.methodLink RX9 241 yX4_joinedTold, Cond.instanceMethod yX4_joinedTold, Cond.selects RX4 yX4_joinedTold yX4_joinedTold, Cond.code yX4_joinedTold cX4_joinedTold 1 (some .int), Cond.fieldLink RX4 18 "TradeWords$Needs" "joinedTold" "I", Cond.methodLink RX9 232 yX6_kept]
def wsX9_count_r3 : List Cond := [Cond.instanceMethod yX6_kept, Cond.selects RX6 yX6_kept yX6_kept, Cond.initialized RX6, Cond.code yX6_kept cX6_kept 1 (some .int), Cond.fieldLink RX6 24 "TradeWords$Stands" "kept" "I", Cond.methodLink RX9 168 yX0_tradersOf, Cond.instanceMethod yX0_tradersOf, Cond.selects RX0 yX0_tradersOf yX0_tradersOf, Cond.code yX0_tradersOf cX0_tradersOf 2 (some .int), Cond.fieldLink RX0 24 "TradeWords$Beach" "traders" "[I"]
def wsX9_count : List Cond := .code yX9_count cX9_count 2 (some .int) :: ((wsX9_count_r1 ++ (wsX9_count_r2 ++ wsX9_count_r3)) ++ wsX90 ++ wsX00 ++ wsX70 ++ wsX40 ++ wsX60)
def wsX10_in : List Cond := .code yX10_in cX10_in 6 (some .boolean) :: ([])
def wsX10_has : List Cond := .code yX10_has cX10_has 2 (some .boolean) :: ([])
def wsX10_begin : List Cond := .code yX10_begin cX10_begin 2 none :: ([.fieldLink RX10 13 "TradeWordsModel" "read" "[I", .constant RX10 59 (65535)] ++ wsX100)
def wsX10_layRead : List Cond := .code yX10_layRead cX10_layRead 2 none :: ([.fieldLink RX10 16 "TradeWordsModel" "l" "[I", .fieldLink RX10 13 "TradeWordsModel" "read" "[I"] ++ wsX100)
def wsX10_init_r1 : List Cond := [Cond.methodLink RX10 1 objectInit, Cond.instanceMethod objectInit, Cond.code objectInit ⟨#[0xb1]⟩ 1 none, Cond.arrayClass .int, Cond.fieldLink RX10 7 "TradeWordsModel" "text" "[I", Cond.fieldLink RX10 13 "TradeWordsModel" "read" "[I", Cond.fieldLink RX10 16 "TradeWordsModel" "l" "[I", Cond.fieldLink RX10 19 "TradeWordsModel" "stands" "[I", Cond.fieldLink RX10 22 "TradeWordsModel" "kept" "[I", Cond.fieldLink RX10 25 "TradeWordsModel" "one" "[I", Cond.fieldLink RX10 28 "TradeWordsModel" "two" "[I", Cond.fieldLink RX10 31 "TradeWordsModel" "ways" "[I", Cond.arrayClass .long, Cond.fieldLink RX10 34 "TradeWordsModel" "now" "[J", Cond.fieldLink RX10 38 "TradeWordsModel" "then" "[J", Cond.methodLink RX10 41 yX10_begin, Cond.instanceMethod yX10_begin, Cond.selects RX10 yX10_begin yX10_begin, Cond.initialized RX10, Cond.code yX10_begin cX10_begin 2 none, Cond.constant RX10 59 (65535), Cond.methodLink RX10 44 yX10_layRead, Cond.instanceMethod yX10_layRead, Cond.selects RX10 yX10_layRead yX10_layRead]
def wsX10_init_r2 : List Cond := [Cond.code yX10_layRead cX10_layRead 2 none]
def wsX10_init : List Cond := .code yX10_init cX10_init 1 none :: ((wsX10_init_r1 ++ wsX10_init_r2) ++ wsX100)
def wsX10_write : List Cond := .code yX10_write cX10_write 5 (some .int) :: ([.constantLong RX10 47 (8), .fieldLink RX10 53 "TradeWordsModel" "size" "I", .fieldLink RX10 7 "TradeWordsModel" "text" "[I", .constantLong RX10 57 (255), .methodLink RX10 49 yX10_in, .static yX10_in, .initialized RX10, .code yX10_in cX10_in 6 (some .boolean)] ++ wsX100)
def wsX10_wipe : List Cond := .code yX10_wipe cX10_wipe 2 (some .int) :: ([.fieldLink RX10 53 "TradeWordsModel" "size" "I"] ++ wsX100)
def wsX10_byteAt : List Cond := .code yX10_byteAt cX10_byteAt 1 (some .int) :: ([.fieldLink RX10 60 "TradeWordsModel" "at" "I", .fieldLink RX10 53 "TradeWordsModel" "size" "I", .fieldLink RX10 7 "TradeWordsModel" "text" "[I"] ++ wsX100)
def wsX10_takes : List Cond := .code yX10_takes cX10_takes 3 (some .boolean) :: ([.fieldLink RX10 60 "TradeWordsModel" "at" "I", .methodLink RX10 63 yX10_byteAt, .instanceMethod yX10_byteAt, .selects RX10 yX10_byteAt yX10_byteAt, .initialized RX10, .code yX10_byteAt cX10_byteAt 1 (some .int), .fieldLink RX10 53 "TradeWordsModel" "size" "I", .fieldLink RX10 7 "TradeWordsModel" "text" "[I"] ++ wsX100)
def wsX10_number : List Cond := .code yX10_number cX10_number 5 (some .int) :: ([.constantLong RX10 67 (48), .constantLong RX10 69 (57), .fieldLink RX10 60 "TradeWordsModel" "at" "I", .methodLink RX10 63 yX10_byteAt, .instanceMethod yX10_byteAt, .selects RX10 yX10_byteAt yX10_byteAt, .initialized RX10, .code yX10_byteAt cX10_byteAt 1 (some .int), .fieldLink RX10 53 "TradeWordsModel" "size" "I", .fieldLink RX10 7 "TradeWordsModel" "text" "[I", .methodLink RX10 49 yX10_in, .static yX10_in, .code yX10_in cX10_in 6 (some .boolean)] ++ wsX100)
def wsX10_sound : List Cond := .code yX10_sound cX10_sound 2 (some .int) :: ([.constantLong RX10 71 (15), .fieldLink RX10 60 "TradeWordsModel" "at" "I", .methodLink RX10 63 yX10_byteAt, .instanceMethod yX10_byteAt, .selects RX10 yX10_byteAt yX10_byteAt, .initialized RX10, .code yX10_byteAt cX10_byteAt 1 (some .int), .fieldLink RX10 53 "TradeWordsModel" "size" "I", .fieldLink RX10 7 "TradeWordsModel" "text" "[I", .methodLink RX10 49 yX10_in, .static yX10_in, .code yX10_in cX10_in 6 (some .boolean)] ++ wsX100)
def wsX10_word : List Cond := .code yX10_word cX10_word 4 (some .boolean) :: ([.fieldLink RX10 13 "TradeWordsModel" "read" "[I", .methodLink RX10 73 yX10_sound, .instanceMethod yX10_sound, .selects RX10 yX10_sound yX10_sound, .initialized RX10, .code yX10_sound cX10_sound 2 (some .int), .constantLong RX10 71 (15), .fieldLink RX10 60 "TradeWordsModel" "at" "I", .methodLink RX10 63 yX10_byteAt, .instanceMethod yX10_byteAt, .selects RX10 yX10_byteAt yX10_byteAt, .code yX10_byteAt cX10_byteAt 1 (some .int), .fieldLink RX10 53 "TradeWordsModel" "size" "I", .fieldLink RX10 7 "TradeWordsModel" "text" "[I", .methodLink RX10 49 yX10_in, .static yX10_in, .code yX10_in cX10_in 6 (some .boolean)] ++ wsX100)
def wsX10_wordItem_r1 : List Cond := [Cond.methodLink RX10 76 yX10_number, Cond.instanceMethod yX10_number, Cond.selects RX10 yX10_number yX10_number, Cond.initialized RX10, Cond.code yX10_number cX10_number 5 (some .int), Cond.constantLong RX10 67 (48), Cond.constantLong RX10 69 (57), Cond.fieldLink RX10 60 "TradeWordsModel" "at" "I", Cond.methodLink RX10 63 yX10_byteAt, Cond.instanceMethod yX10_byteAt, Cond.selects RX10 yX10_byteAt yX10_byteAt, Cond.code yX10_byteAt cX10_byteAt 1 (some .int), Cond.fieldLink RX10 53 "TradeWordsModel" "size" "I", Cond.fieldLink RX10 7 "TradeWordsModel" "text" "[I", Cond.methodLink RX10 49 yX10_in, Cond.static yX10_in, Cond.code yX10_in cX10_in 6 (some .boolean), Cond.methodLink RX10 80 yX10_takes, Cond.instanceMethod yX10_takes, Cond.selects RX10 yX10_takes yX10_takes, Cond.code yX10_takes cX10_takes 3 (some .boolean), Cond.methodLink RX10 84 yX10_word, Cond.instanceMethod yX10_word, Cond.selects RX10 yX10_word yX10_word]
def wsX10_wordItem_r2 : List Cond := [Cond.code yX10_word cX10_word 4 (some .boolean), Cond.fieldLink RX10 13 "TradeWordsModel" "read" "[I", Cond.methodLink RX10 73 yX10_sound, Cond.instanceMethod yX10_sound, Cond.selects RX10 yX10_sound yX10_sound, Cond.code yX10_sound cX10_sound 2 (some .int), Cond.constantLong RX10 71 (15)]
def wsX10_wordItem : List Cond := .code yX10_wordItem cX10_wordItem 5 (some .boolean) :: ((wsX10_wordItem_r1 ++ wsX10_wordItem_r2) ++ wsX100)
def wsX10_soundsItem_r1 : List Cond := [Cond.fieldLink RX10 13 "TradeWordsModel" "read" "[I", Cond.methodLink RX10 76 yX10_number, Cond.instanceMethod yX10_number, Cond.selects RX10 yX10_number yX10_number, Cond.initialized RX10, Cond.code yX10_number cX10_number 5 (some .int), Cond.constantLong RX10 67 (48), Cond.constantLong RX10 69 (57), Cond.fieldLink RX10 60 "TradeWordsModel" "at" "I", Cond.methodLink RX10 63 yX10_byteAt, Cond.instanceMethod yX10_byteAt, Cond.selects RX10 yX10_byteAt yX10_byteAt, Cond.code yX10_byteAt cX10_byteAt 1 (some .int), Cond.fieldLink RX10 53 "TradeWordsModel" "size" "I", Cond.fieldLink RX10 7 "TradeWordsModel" "text" "[I", Cond.methodLink RX10 49 yX10_in, Cond.static yX10_in, Cond.code yX10_in cX10_in 6 (some .boolean), Cond.methodLink RX10 80 yX10_takes, Cond.instanceMethod yX10_takes, Cond.selects RX10 yX10_takes yX10_takes, Cond.code yX10_takes cX10_takes 3 (some .boolean), Cond.methodLink RX10 73 yX10_sound, Cond.instanceMethod yX10_sound]
def wsX10_soundsItem_r2 : List Cond := [Cond.selects RX10 yX10_sound yX10_sound, Cond.code yX10_sound cX10_sound 2 (some .int), Cond.constantLong RX10 71 (15)]
def wsX10_soundsItem : List Cond := .code yX10_soundsItem cX10_soundsItem 4 (some .boolean) :: ((wsX10_soundsItem_r1 ++ wsX10_soundsItem_r2) ++ wsX100)
def wsX10_placeItem : List Cond := .code yX10_placeItem cX10_placeItem 3 (some .boolean) :: ([.fieldLink RX10 13 "TradeWordsModel" "read" "[I", .methodLink RX10 73 yX10_sound, .instanceMethod yX10_sound, .selects RX10 yX10_sound yX10_sound, .initialized RX10, .code yX10_sound cX10_sound 2 (some .int), .constantLong RX10 71 (15), .fieldLink RX10 60 "TradeWordsModel" "at" "I", .methodLink RX10 63 yX10_byteAt, .instanceMethod yX10_byteAt, .selects RX10 yX10_byteAt yX10_byteAt, .code yX10_byteAt cX10_byteAt 1 (some .int), .fieldLink RX10 53 "TradeWordsModel" "size" "I", .fieldLink RX10 7 "TradeWordsModel" "text" "[I", .methodLink RX10 49 yX10_in, .static yX10_in, .code yX10_in cX10_in 6 (some .boolean)] ++ wsX100)
def wsX10_pairItem : List Cond := .code yX10_pairItem cX10_pairItem 4 (some .boolean) :: ([.fieldLink RX10 13 "TradeWordsModel" "read" "[I", .methodLink RX10 76 yX10_number, .instanceMethod yX10_number, .selects RX10 yX10_number yX10_number, .initialized RX10, .code yX10_number cX10_number 5 (some .int), .constantLong RX10 67 (48), .constantLong RX10 69 (57), .fieldLink RX10 60 "TradeWordsModel" "at" "I", .methodLink RX10 63 yX10_byteAt, .instanceMethod yX10_byteAt, .selects RX10 yX10_byteAt yX10_byteAt, .code yX10_byteAt cX10_byteAt 1 (some .int), .fieldLink RX10 53 "TradeWordsModel" "size" "I", .fieldLink RX10 7 "TradeWordsModel" "text" "[I", .methodLink RX10 49 yX10_in, .static yX10_in, .code yX10_in cX10_in 6 (some .boolean), .methodLink RX10 80 yX10_takes, .instanceMethod yX10_takes, .selects RX10 yX10_takes yX10_takes, .code yX10_takes cX10_takes 3 (some .boolean)] ++ wsX100)
def wsX10_oneItem : List Cond := .code yX10_oneItem cX10_oneItem 4 (some .boolean) :: ([.fieldLink RX10 13 "TradeWordsModel" "read" "[I", .methodLink RX10 76 yX10_number, .instanceMethod yX10_number, .selects RX10 yX10_number yX10_number, .initialized RX10, .code yX10_number cX10_number 5 (some .int), .constantLong RX10 67 (48), .constantLong RX10 69 (57), .fieldLink RX10 60 "TradeWordsModel" "at" "I", .methodLink RX10 63 yX10_byteAt, .instanceMethod yX10_byteAt, .selects RX10 yX10_byteAt yX10_byteAt, .code yX10_byteAt cX10_byteAt 1 (some .int), .fieldLink RX10 53 "TradeWordsModel" "size" "I", .fieldLink RX10 7 "TradeWordsModel" "text" "[I", .methodLink RX10 49 yX10_in, .static yX10_in, .code yX10_in cX10_in 6 (some .boolean)] ++ wsX100)
def wsX10_joinItem : List Cond := .code yX10_joinItem cX10_joinItem 3 (some .boolean) :: ([.fieldLink RX10 13 "TradeWordsModel" "read" "[I", .methodLink RX10 76 yX10_number, .instanceMethod yX10_number, .selects RX10 yX10_number yX10_number, .initialized RX10, .code yX10_number cX10_number 5 (some .int), .constantLong RX10 67 (48), .constantLong RX10 69 (57), .fieldLink RX10 60 "TradeWordsModel" "at" "I", .methodLink RX10 63 yX10_byteAt, .instanceMethod yX10_byteAt, .selects RX10 yX10_byteAt yX10_byteAt, .code yX10_byteAt cX10_byteAt 1 (some .int), .fieldLink RX10 53 "TradeWordsModel" "size" "I", .fieldLink RX10 7 "TradeWordsModel" "text" "[I", .methodLink RX10 49 yX10_in, .static yX10_in, .code yX10_in cX10_in 6 (some .boolean), .methodLink RX10 80 yX10_takes, .instanceMethod yX10_takes, .selects RX10 yX10_takes yX10_takes, .code yX10_takes cX10_takes 3 (some .boolean)] ++ wsX100)
def wsX10_needItem : List Cond := .code yX10_needItem cX10_needItem 3 (some .boolean) :: ([.fieldLink RX10 13 "TradeWordsModel" "read" "[I", .constantLong RX10 67 (48), .constantLong RX10 87 (55), .fieldLink RX10 60 "TradeWordsModel" "at" "I", .methodLink RX10 63 yX10_byteAt, .instanceMethod yX10_byteAt, .selects RX10 yX10_byteAt yX10_byteAt, .initialized RX10, .code yX10_byteAt cX10_byteAt 1 (some .int), .fieldLink RX10 53 "TradeWordsModel" "size" "I", .fieldLink RX10 7 "TradeWordsModel" "text" "[I", .methodLink RX10 49 yX10_in, .static yX10_in, .code yX10_in cX10_in 6 (some .boolean)] ++ wsX100)
def wsX10_item_r1 : List Cond := [Cond.fieldLink RX10 60 "TradeWordsModel" "at" "I", Cond.methodLink RX10 63 yX10_byteAt, Cond.instanceMethod yX10_byteAt, Cond.selects RX10 yX10_byteAt yX10_byteAt, Cond.initialized RX10, Cond.code yX10_byteAt cX10_byteAt 1 (some .int), Cond.fieldLink RX10 53 "TradeWordsModel" "size" "I", Cond.fieldLink RX10 7 "TradeWordsModel" "text" "[I", Cond.methodLink RX10 89 yX10_wordItem, Cond.instanceMethod yX10_wordItem, Cond.selects RX10 yX10_wordItem yX10_wordItem, Cond.code yX10_wordItem cX10_wordItem 5 (some .boolean), Cond.methodLink RX10 76 yX10_number, Cond.instanceMethod yX10_number, Cond.selects RX10 yX10_number yX10_number, Cond.code yX10_number cX10_number 5 (some .int), Cond.constantLong RX10 67 (48), Cond.constantLong RX10 69 (57), Cond.methodLink RX10 49 yX10_in, Cond.static yX10_in, Cond.code yX10_in cX10_in 6 (some .boolean), Cond.methodLink RX10 80 yX10_takes, Cond.instanceMethod yX10_takes, Cond.selects RX10 yX10_takes yX10_takes]
def wsX10_item_r2 : List Cond := [Cond.code yX10_takes cX10_takes 3 (some .boolean), Cond.methodLink RX10 84 yX10_word, Cond.instanceMethod yX10_word, Cond.selects RX10 yX10_word yX10_word, Cond.code yX10_word cX10_word 4 (some .boolean), Cond.fieldLink RX10 13 "TradeWordsModel" "read" "[I", Cond.methodLink RX10 73 yX10_sound, Cond.instanceMethod yX10_sound, Cond.selects RX10 yX10_sound yX10_sound, Cond.code yX10_sound cX10_sound 2 (some .int), Cond.constantLong RX10 71 (15), Cond.methodLink RX10 93 yX10_soundsItem, Cond.instanceMethod yX10_soundsItem, Cond.selects RX10 yX10_soundsItem yX10_soundsItem, Cond.code yX10_soundsItem cX10_soundsItem 4 (some .boolean), Cond.methodLink RX10 97 yX10_placeItem, Cond.instanceMethod yX10_placeItem, Cond.selects RX10 yX10_placeItem yX10_placeItem, Cond.code yX10_placeItem cX10_placeItem 3 (some .boolean), Cond.methodLink RX10 100 yX10_pairItem, Cond.instanceMethod yX10_pairItem, Cond.selects RX10 yX10_pairItem yX10_pairItem, Cond.code yX10_pairItem cX10_pairItem 4 (some .boolean), Cond.methodLink RX10 104 yX10_oneItem]
def wsX10_item_r3 : List Cond := [Cond.instanceMethod yX10_oneItem, Cond.selects RX10 yX10_oneItem yX10_oneItem, Cond.code yX10_oneItem cX10_oneItem 4 (some .boolean), Cond.methodLink RX10 107 yX10_joinItem, Cond.instanceMethod yX10_joinItem, Cond.selects RX10 yX10_joinItem yX10_joinItem, Cond.code yX10_joinItem cX10_joinItem 3 (some .boolean), Cond.methodLink RX10 110 yX10_needItem, Cond.instanceMethod yX10_needItem, Cond.selects RX10 yX10_needItem yX10_needItem, Cond.code yX10_needItem cX10_needItem 3 (some .boolean), Cond.constantLong RX10 87 (55)]
def wsX10_item : List Cond := .code yX10_item cX10_item 2 (some .boolean) :: ((wsX10_item_r1 ++ (wsX10_item_r2 ++ wsX10_item_r3)) ++ wsX100)
def wsX10_fault_r1 : List Cond := [Cond.fieldLink RX10 60 "TradeWordsModel" "at" "I", Cond.fieldLink RX10 53 "TradeWordsModel" "size" "I", Cond.methodLink RX10 41 yX10_begin, Cond.instanceMethod yX10_begin, Cond.selects RX10 yX10_begin yX10_begin, Cond.initialized RX10, Cond.code yX10_begin cX10_begin 2 none, Cond.fieldLink RX10 13 "TradeWordsModel" "read" "[I", Cond.constant RX10 59 (65535), Cond.methodLink RX10 113 yX10_item, Cond.instanceMethod yX10_item, Cond.selects RX10 yX10_item yX10_item, Cond.code yX10_item cX10_item 2 (some .boolean), Cond.methodLink RX10 63 yX10_byteAt, Cond.instanceMethod yX10_byteAt, Cond.selects RX10 yX10_byteAt yX10_byteAt, Cond.code yX10_byteAt cX10_byteAt 1 (some .int), Cond.fieldLink RX10 7 "TradeWordsModel" "text" "[I", Cond.methodLink RX10 89 yX10_wordItem, Cond.instanceMethod yX10_wordItem, Cond.selects RX10 yX10_wordItem yX10_wordItem, Cond.code yX10_wordItem cX10_wordItem 5 (some .boolean), Cond.methodLink RX10 76 yX10_number, Cond.instanceMethod yX10_number]
def wsX10_fault_r2 : List Cond := [Cond.selects RX10 yX10_number yX10_number, Cond.code yX10_number cX10_number 5 (some .int), Cond.constantLong RX10 67 (48), Cond.constantLong RX10 69 (57), Cond.methodLink RX10 49 yX10_in, Cond.static yX10_in, Cond.code yX10_in cX10_in 6 (some .boolean), Cond.methodLink RX10 80 yX10_takes, Cond.instanceMethod yX10_takes, Cond.selects RX10 yX10_takes yX10_takes, Cond.code yX10_takes cX10_takes 3 (some .boolean), Cond.methodLink RX10 84 yX10_word, Cond.instanceMethod yX10_word, Cond.selects RX10 yX10_word yX10_word, Cond.code yX10_word cX10_word 4 (some .boolean), Cond.methodLink RX10 73 yX10_sound, Cond.instanceMethod yX10_sound, Cond.selects RX10 yX10_sound yX10_sound, Cond.code yX10_sound cX10_sound 2 (some .int), Cond.constantLong RX10 71 (15), Cond.methodLink RX10 93 yX10_soundsItem, Cond.instanceMethod yX10_soundsItem, Cond.selects RX10 yX10_soundsItem yX10_soundsItem, Cond.code yX10_soundsItem cX10_soundsItem 4 (some .boolean)]
def wsX10_fault_r3 : List Cond := [Cond.methodLink RX10 97 yX10_placeItem, Cond.instanceMethod yX10_placeItem, Cond.selects RX10 yX10_placeItem yX10_placeItem, Cond.code yX10_placeItem cX10_placeItem 3 (some .boolean), Cond.methodLink RX10 100 yX10_pairItem, Cond.instanceMethod yX10_pairItem, Cond.selects RX10 yX10_pairItem yX10_pairItem, Cond.code yX10_pairItem cX10_pairItem 4 (some .boolean), Cond.methodLink RX10 104 yX10_oneItem, Cond.instanceMethod yX10_oneItem, Cond.selects RX10 yX10_oneItem yX10_oneItem, Cond.code yX10_oneItem cX10_oneItem 4 (some .boolean), Cond.methodLink RX10 107 yX10_joinItem, Cond.instanceMethod yX10_joinItem, Cond.selects RX10 yX10_joinItem yX10_joinItem, Cond.code yX10_joinItem cX10_joinItem 3 (some .boolean), Cond.methodLink RX10 110 yX10_needItem, Cond.instanceMethod yX10_needItem, Cond.selects RX10 yX10_needItem yX10_needItem, Cond.code yX10_needItem cX10_needItem 3 (some .boolean), Cond.constantLong RX10 87 (55)]
def wsX10_fault : List Cond := .code yX10_fault cX10_fault 2 (some .int) :: ((wsX10_fault_r1 ++ (wsX10_fault_r2 ++ wsX10_fault_r3)) ++ wsX100)
def wsX10_wordAt : List Cond := .code yX10_wordAt cX10_wordAt 2 (some .int) :: ([])
def wsX10_isTold : List Cond := .code yX10_isTold cX10_isTold 2 (some .boolean) :: ([.fieldLink RX10 16 "TradeWordsModel" "l" "[I", .methodLink RX10 129 yX10_wordAt, .static yX10_wordAt, .initialized RX10, .code yX10_wordAt cX10_wordAt 2 (some .int)] ++ wsX100)
def wsX10_toldSet : List Cond := .code yX10_toldSet cX10_toldSet 3 (some .int) :: ([.methodLink RX10 132 yX10_isTold, .instanceMethod yX10_isTold, .selects RX10 yX10_isTold yX10_isTold, .initialized RX10, .code yX10_isTold cX10_isTold 2 (some .boolean), .fieldLink RX10 16 "TradeWordsModel" "l" "[I", .methodLink RX10 129 yX10_wordAt, .static yX10_wordAt, .code yX10_wordAt cX10_wordAt 2 (some .int)] ++ wsX100)
def wsX10_ones : List Cond := .code yX10_ones cX10_ones 3 (some .int) :: ([])
def wsX10_lay_r1 : List Cond := [Cond.fieldLink RX10 119 "TradeWordsModel" "keptMany" "I", Cond.fieldLink RX10 19 "TradeWordsModel" "stands" "[I", Cond.methodLink RX10 116 yX10_fault, Cond.instanceMethod yX10_fault, Cond.selects RX10 yX10_fault yX10_fault, Cond.initialized RX10, Cond.code yX10_fault cX10_fault 2 (some .int), Cond.fieldLink RX10 60 "TradeWordsModel" "at" "I", Cond.fieldLink RX10 53 "TradeWordsModel" "size" "I", Cond.methodLink RX10 41 yX10_begin, Cond.instanceMethod yX10_begin, Cond.selects RX10 yX10_begin yX10_begin, Cond.code yX10_begin cX10_begin 2 none, Cond.fieldLink RX10 13 "TradeWordsModel" "read" "[I", Cond.constant RX10 59 (65535), Cond.methodLink RX10 113 yX10_item, Cond.instanceMethod yX10_item, Cond.selects RX10 yX10_item yX10_item, Cond.code yX10_item cX10_item 2 (some .boolean), Cond.methodLink RX10 63 yX10_byteAt, Cond.instanceMethod yX10_byteAt, Cond.selects RX10 yX10_byteAt yX10_byteAt, Cond.code yX10_byteAt cX10_byteAt 1 (some .int), Cond.fieldLink RX10 7 "TradeWordsModel" "text" "[I"]
def wsX10_lay_r2 : List Cond := [Cond.methodLink RX10 89 yX10_wordItem, Cond.instanceMethod yX10_wordItem, Cond.selects RX10 yX10_wordItem yX10_wordItem, Cond.code yX10_wordItem cX10_wordItem 5 (some .boolean), Cond.methodLink RX10 76 yX10_number, Cond.instanceMethod yX10_number, Cond.selects RX10 yX10_number yX10_number, Cond.code yX10_number cX10_number 5 (some .int), Cond.constantLong RX10 67 (48), Cond.constantLong RX10 69 (57), Cond.methodLink RX10 49 yX10_in, Cond.static yX10_in, Cond.code yX10_in cX10_in 6 (some .boolean), Cond.methodLink RX10 80 yX10_takes, Cond.instanceMethod yX10_takes, Cond.selects RX10 yX10_takes yX10_takes, Cond.code yX10_takes cX10_takes 3 (some .boolean), Cond.methodLink RX10 84 yX10_word, Cond.instanceMethod yX10_word, Cond.selects RX10 yX10_word yX10_word, Cond.code yX10_word cX10_word 4 (some .boolean), Cond.methodLink RX10 73 yX10_sound, Cond.instanceMethod yX10_sound, Cond.selects RX10 yX10_sound yX10_sound]
def wsX10_lay_r3 : List Cond := [Cond.code yX10_sound cX10_sound 2 (some .int), Cond.constantLong RX10 71 (15), Cond.methodLink RX10 93 yX10_soundsItem, Cond.instanceMethod yX10_soundsItem, Cond.selects RX10 yX10_soundsItem yX10_soundsItem, Cond.code yX10_soundsItem cX10_soundsItem 4 (some .boolean), Cond.methodLink RX10 97 yX10_placeItem, Cond.instanceMethod yX10_placeItem, Cond.selects RX10 yX10_placeItem yX10_placeItem, Cond.code yX10_placeItem cX10_placeItem 3 (some .boolean), Cond.methodLink RX10 100 yX10_pairItem, Cond.instanceMethod yX10_pairItem, Cond.selects RX10 yX10_pairItem yX10_pairItem, Cond.code yX10_pairItem cX10_pairItem 4 (some .boolean), Cond.methodLink RX10 104 yX10_oneItem, Cond.instanceMethod yX10_oneItem, Cond.selects RX10 yX10_oneItem yX10_oneItem, Cond.code yX10_oneItem cX10_oneItem 4 (some .boolean), Cond.methodLink RX10 107 yX10_joinItem, Cond.instanceMethod yX10_joinItem, Cond.selects RX10 yX10_joinItem yX10_joinItem, Cond.code yX10_joinItem cX10_joinItem 3 (some .boolean), Cond.methodLink RX10 110 yX10_needItem, Cond.instanceMethod yX10_needItem]
def wsX10_lay_r4 : List Cond := [Cond.selects RX10 yX10_needItem yX10_needItem, Cond.code yX10_needItem cX10_needItem 3 (some .boolean), Cond.constantLong RX10 87 (55), Cond.methodLink RX10 44 yX10_layRead, Cond.instanceMethod yX10_layRead, Cond.selects RX10 yX10_layRead yX10_layRead, Cond.code yX10_layRead cX10_layRead 2 none, Cond.fieldLink RX10 16 "TradeWordsModel" "l" "[I", Cond.methodLink RX10 122 yX10_toldSet, Cond.instanceMethod yX10_toldSet, Cond.selects RX10 yX10_toldSet yX10_toldSet, Cond.code yX10_toldSet cX10_toldSet 3 (some .int), Cond.methodLink RX10 132 yX10_isTold, Cond.instanceMethod yX10_isTold, Cond.selects RX10 yX10_isTold yX10_isTold, Cond.code yX10_isTold cX10_isTold 2 (some .boolean), Cond.methodLink RX10 129 yX10_wordAt, Cond.static yX10_wordAt, Cond.code yX10_wordAt cX10_wordAt 2 (some .int), Cond.methodLink RX10 125 yX10_ones, Cond.static yX10_ones, Cond.code yX10_ones cX10_ones 3 (some .int)]
def wsX10_lay : List Cond := .code yX10_lay cX10_lay 2 (some .int) :: ((wsX10_lay_r1 ++ (wsX10_lay_r2 ++ (wsX10_lay_r3 ++ wsX10_lay_r4))) ++ wsX100)
def wsX10_earAt : List Cond := .code yX10_earAt cX10_earAt 2 (some .int) :: ([])
def wsX10_isMeaning : List Cond := .code yX10_isMeaning cX10_isMeaning 1 (some .boolean) :: ([.constantLong RX10 135 (7), .methodLink RX10 49 yX10_in, .static yX10_in, .initialized RX10, .code yX10_in cX10_in 6 (some .boolean)])
def wsX10_said : List Cond := .code yX10_said cX10_said 4 (some .int) :: ([.fieldLink RX10 16 "TradeWordsModel" "l" "[I", .methodLink RX10 137 yX10_has, .static yX10_has, .initialized RX10, .code yX10_has cX10_has 2 (some .boolean)] ++ wsX100)
def wsX10_say : List Cond := .code yX10_say cX10_say 8 none :: ([.fieldLink RX10 16 "TradeWordsModel" "l" "[I", .methodLink RX10 140 yX10_said, .instanceMethod yX10_said, .selects RX10 yX10_said yX10_said, .initialized RX10, .code yX10_said cX10_said 4 (some .int), .methodLink RX10 137 yX10_has, .static yX10_has, .code yX10_has cX10_has 2 (some .boolean)] ++ wsX100)
def wsX10_least : List Cond := .code yX10_least cX10_least 2 (some .int) :: ([])
def wsX10_farOf : List Cond := .code yX10_farOf cX10_farOf 5 (some .int) :: ([.fieldLink RX10 25 "TradeWordsModel" "one" "[I", .fieldLink RX10 28 "TradeWordsModel" "two" "[I", .fieldLink RX10 31 "TradeWordsModel" "ways" "[I", .methodLink RX10 143 yX10_least, .static yX10_least, .initialized RX10, .code yX10_least cX10_least 2 (some .int)] ++ wsX100)
def wsX10_likeOf : List Cond := .code yX10_likeOf cX10_likeOf 2 (some .int) :: ([.fieldLink RX10 25 "TradeWordsModel" "one" "[I", .fieldLink RX10 28 "TradeWordsModel" "two" "[I", .methodLink RX10 146 yX10_farOf, .instanceMethod yX10_farOf, .selects RX10 yX10_farOf yX10_farOf, .initialized RX10, .code yX10_farOf cX10_farOf 5 (some .int), .fieldLink RX10 31 "TradeWordsModel" "ways" "[I", .methodLink RX10 143 yX10_least, .static yX10_least, .code yX10_least cX10_least 2 (some .int)] ++ wsX100)
def wsX10_likeFor_r1 : List Cond := [Cond.fieldLink RX10 25 "TradeWordsModel" "one" "[I", Cond.fieldLink RX10 28 "TradeWordsModel" "two" "[I", Cond.methodLink RX10 129 yX10_wordAt, Cond.static yX10_wordAt, Cond.initialized RX10, Cond.code yX10_wordAt cX10_wordAt 2 (some .int), Cond.methodLink RX10 149 yX10_say, Cond.instanceMethod yX10_say, Cond.selects RX10 yX10_say yX10_say, Cond.code yX10_say cX10_say 8 none, Cond.fieldLink RX10 16 "TradeWordsModel" "l" "[I", Cond.methodLink RX10 140 yX10_said, Cond.instanceMethod yX10_said, Cond.selects RX10 yX10_said yX10_said, Cond.code yX10_said cX10_said 4 (some .int), Cond.methodLink RX10 137 yX10_has, Cond.static yX10_has, Cond.code yX10_has cX10_has 2 (some .boolean), Cond.methodLink RX10 153 yX10_likeOf, Cond.instanceMethod yX10_likeOf, Cond.selects RX10 yX10_likeOf yX10_likeOf, Cond.code yX10_likeOf cX10_likeOf 2 (some .int), Cond.methodLink RX10 146 yX10_farOf, Cond.instanceMethod yX10_farOf]
def wsX10_likeFor_r2 : List Cond := [Cond.selects RX10 yX10_farOf yX10_farOf, Cond.code yX10_farOf cX10_farOf 5 (some .int), Cond.fieldLink RX10 31 "TradeWordsModel" "ways" "[I", Cond.methodLink RX10 143 yX10_least, Cond.static yX10_least, Cond.code yX10_least cX10_least 2 (some .int)]
def wsX10_likeFor : List Cond := .code yX10_likeFor cX10_likeFor 2 (some .int) :: ((wsX10_likeFor_r1 ++ wsX10_likeFor_r2) ++ wsX100)
def wsX10_isAlike_r1 : List Cond := [Cond.fieldLink RX10 16 "TradeWordsModel" "l" "[I", Cond.methodLink RX10 156 yX10_likeFor, Cond.instanceMethod yX10_likeFor, Cond.selects RX10 yX10_likeFor yX10_likeFor, Cond.initialized RX10, Cond.code yX10_likeFor cX10_likeFor 2 (some .int), Cond.fieldLink RX10 25 "TradeWordsModel" "one" "[I", Cond.fieldLink RX10 28 "TradeWordsModel" "two" "[I", Cond.methodLink RX10 129 yX10_wordAt, Cond.static yX10_wordAt, Cond.code yX10_wordAt cX10_wordAt 2 (some .int), Cond.methodLink RX10 149 yX10_say, Cond.instanceMethod yX10_say, Cond.selects RX10 yX10_say yX10_say, Cond.code yX10_say cX10_say 8 none, Cond.methodLink RX10 140 yX10_said, Cond.instanceMethod yX10_said, Cond.selects RX10 yX10_said yX10_said, Cond.code yX10_said cX10_said 4 (some .int), Cond.methodLink RX10 137 yX10_has, Cond.static yX10_has, Cond.code yX10_has cX10_has 2 (some .boolean), Cond.methodLink RX10 153 yX10_likeOf, Cond.instanceMethod yX10_likeOf]
def wsX10_isAlike_r2 : List Cond := [Cond.selects RX10 yX10_likeOf yX10_likeOf, Cond.code yX10_likeOf cX10_likeOf 2 (some .int), Cond.methodLink RX10 146 yX10_farOf, Cond.instanceMethod yX10_farOf, Cond.selects RX10 yX10_farOf yX10_farOf, Cond.code yX10_farOf cX10_farOf 5 (some .int), Cond.fieldLink RX10 31 "TradeWordsModel" "ways" "[I", Cond.methodLink RX10 143 yX10_least, Cond.static yX10_least, Cond.code yX10_least cX10_least 2 (some .int)]
def wsX10_isAlike : List Cond := .code yX10_isAlike cX10_isAlike 2 (some .boolean) :: ((wsX10_isAlike_r1 ++ wsX10_isAlike_r2) ++ wsX100)
def wsX10_word__r1 : List Cond := [Cond.constantLong RX10 162 (-1), Cond.constantLong RX10 164 (5), Cond.fieldLink RX10 25 "TradeWordsModel" "one" "[I", Cond.methodLink RX10 49 yX10_in, Cond.static yX10_in, Cond.initialized RX10, Cond.code yX10_in cX10_in 6 (some .boolean), Cond.methodLink RX10 159 yX10_isMeaning, Cond.static yX10_isMeaning, Cond.code yX10_isMeaning cX10_isMeaning 1 (some .boolean), Cond.constantLong RX10 135 (7), Cond.methodLink RX10 129 yX10_wordAt, Cond.static yX10_wordAt, Cond.code yX10_wordAt cX10_wordAt 2 (some .int), Cond.methodLink RX10 149 yX10_say, Cond.instanceMethod yX10_say, Cond.selects RX10 yX10_say yX10_say, Cond.code yX10_say cX10_say 8 none, Cond.fieldLink RX10 16 "TradeWordsModel" "l" "[I", Cond.methodLink RX10 140 yX10_said, Cond.instanceMethod yX10_said, Cond.selects RX10 yX10_said yX10_said, Cond.code yX10_said cX10_said 4 (some .int), Cond.methodLink RX10 137 yX10_has]
def wsX10_word__r2 : List Cond := [Cond.static yX10_has, Cond.code yX10_has cX10_has 2 (some .boolean)]
def wsX10_word_ : List Cond := .code yX10_word_ cX10_word_ 5 (some .int) :: ((wsX10_word__r1 ++ wsX10_word__r2) ++ wsX100)
def wsX10_far_r1 : List Cond := [Cond.fieldLink RX10 25 "TradeWordsModel" "one" "[I", Cond.fieldLink RX10 28 "TradeWordsModel" "two" "[I", Cond.methodLink RX10 49 yX10_in, Cond.static yX10_in, Cond.initialized RX10, Cond.code yX10_in cX10_in 6 (some .boolean), Cond.methodLink RX10 159 yX10_isMeaning, Cond.static yX10_isMeaning, Cond.code yX10_isMeaning cX10_isMeaning 1 (some .boolean), Cond.constantLong RX10 135 (7), Cond.methodLink RX10 129 yX10_wordAt, Cond.static yX10_wordAt, Cond.code yX10_wordAt cX10_wordAt 2 (some .int), Cond.methodLink RX10 149 yX10_say, Cond.instanceMethod yX10_say, Cond.selects RX10 yX10_say yX10_say, Cond.code yX10_say cX10_say 8 none, Cond.fieldLink RX10 16 "TradeWordsModel" "l" "[I", Cond.methodLink RX10 140 yX10_said, Cond.instanceMethod yX10_said, Cond.selects RX10 yX10_said yX10_said, Cond.code yX10_said cX10_said 4 (some .int), Cond.methodLink RX10 137 yX10_has, Cond.static yX10_has]
def wsX10_far_r2 : List Cond := [Cond.code yX10_has cX10_has 2 (some .boolean), Cond.methodLink RX10 146 yX10_farOf, Cond.instanceMethod yX10_farOf, Cond.selects RX10 yX10_farOf yX10_farOf, Cond.code yX10_farOf cX10_farOf 5 (some .int), Cond.fieldLink RX10 31 "TradeWordsModel" "ways" "[I", Cond.methodLink RX10 143 yX10_least, Cond.static yX10_least, Cond.code yX10_least cX10_least 2 (some .int)]
def wsX10_far : List Cond := .code yX10_far cX10_far 5 (some .int) :: ((wsX10_far_r1 ++ wsX10_far_r2) ++ wsX100)
def wsX10_like_r1 : List Cond := [Cond.methodLink RX10 159 yX10_isMeaning, Cond.static yX10_isMeaning, Cond.initialized RX10, Cond.code yX10_isMeaning cX10_isMeaning 1 (some .boolean), Cond.constantLong RX10 135 (7), Cond.methodLink RX10 49 yX10_in, Cond.static yX10_in, Cond.code yX10_in cX10_in 6 (some .boolean), Cond.methodLink RX10 132 yX10_isTold, Cond.instanceMethod yX10_isTold, Cond.selects RX10 yX10_isTold yX10_isTold, Cond.code yX10_isTold cX10_isTold 2 (some .boolean), Cond.fieldLink RX10 16 "TradeWordsModel" "l" "[I", Cond.methodLink RX10 129 yX10_wordAt, Cond.static yX10_wordAt, Cond.code yX10_wordAt cX10_wordAt 2 (some .int), Cond.methodLink RX10 156 yX10_likeFor, Cond.instanceMethod yX10_likeFor, Cond.selects RX10 yX10_likeFor yX10_likeFor, Cond.code yX10_likeFor cX10_likeFor 2 (some .int), Cond.fieldLink RX10 25 "TradeWordsModel" "one" "[I", Cond.fieldLink RX10 28 "TradeWordsModel" "two" "[I", Cond.methodLink RX10 149 yX10_say, Cond.instanceMethod yX10_say]
def wsX10_like_r2 : List Cond := [Cond.selects RX10 yX10_say yX10_say, Cond.code yX10_say cX10_say 8 none, Cond.methodLink RX10 140 yX10_said, Cond.instanceMethod yX10_said, Cond.selects RX10 yX10_said yX10_said, Cond.code yX10_said cX10_said 4 (some .int), Cond.methodLink RX10 137 yX10_has, Cond.static yX10_has, Cond.code yX10_has cX10_has 2 (some .boolean), Cond.methodLink RX10 153 yX10_likeOf, Cond.instanceMethod yX10_likeOf, Cond.selects RX10 yX10_likeOf yX10_likeOf, Cond.code yX10_likeOf cX10_likeOf 2 (some .int), Cond.methodLink RX10 146 yX10_farOf, Cond.instanceMethod yX10_farOf, Cond.selects RX10 yX10_farOf yX10_farOf, Cond.code yX10_farOf cX10_farOf 5 (some .int), Cond.fieldLink RX10 31 "TradeWordsModel" "ways" "[I", Cond.methodLink RX10 143 yX10_least, Cond.static yX10_least, Cond.code yX10_least cX10_least 2 (some .int)]
def wsX10_like : List Cond := .code yX10_like cX10_like 2 (some .int) :: ((wsX10_like_r1 ++ wsX10_like_r2) ++ wsX100)
def wsX10_beginAt : List Cond := .code yX10_beginAt cX10_beginAt 4 none :: ([.fieldLink RX10 34 "TradeWordsModel" "now" "[J", .constantLong RX10 166 (1000000)] ++ wsX100)
def wsX10_meet : List Cond := .code yX10_meet cX10_meet 20 none :: ([.fieldLink RX10 38 "TradeWordsModel" "then" "[J", .fieldLink RX10 16 "TradeWordsModel" "l" "[I", .fieldLink RX10 34 "TradeWordsModel" "now" "[J", .constantLong RX10 168 (100)] ++ wsX100)
def wsX10_goOn_r1 : List Cond := [Cond.methodLink RX10 170 yX10_isAlike, Cond.instanceMethod yX10_isAlike, Cond.selects RX10 yX10_isAlike yX10_isAlike, Cond.initialized RX10, Cond.code yX10_isAlike cX10_isAlike 2 (some .boolean), Cond.fieldLink RX10 16 "TradeWordsModel" "l" "[I", Cond.methodLink RX10 156 yX10_likeFor, Cond.instanceMethod yX10_likeFor, Cond.selects RX10 yX10_likeFor yX10_likeFor, Cond.code yX10_likeFor cX10_likeFor 2 (some .int), Cond.fieldLink RX10 25 "TradeWordsModel" "one" "[I", Cond.fieldLink RX10 28 "TradeWordsModel" "two" "[I", Cond.methodLink RX10 129 yX10_wordAt, Cond.static yX10_wordAt, Cond.code yX10_wordAt cX10_wordAt 2 (some .int), Cond.methodLink RX10 149 yX10_say, Cond.instanceMethod yX10_say, Cond.selects RX10 yX10_say yX10_say, Cond.code yX10_say cX10_say 8 none, Cond.methodLink RX10 140 yX10_said, Cond.instanceMethod yX10_said, Cond.selects RX10 yX10_said yX10_said, Cond.code yX10_said cX10_said 4 (some .int), Cond.methodLink RX10 137 yX10_has]
def wsX10_goOn_r2 : List Cond := [Cond.static yX10_has, Cond.code yX10_has cX10_has 2 (some .boolean), Cond.methodLink RX10 153 yX10_likeOf, Cond.instanceMethod yX10_likeOf, Cond.selects RX10 yX10_likeOf yX10_likeOf, Cond.code yX10_likeOf cX10_likeOf 2 (some .int), Cond.methodLink RX10 146 yX10_farOf, Cond.instanceMethod yX10_farOf, Cond.selects RX10 yX10_farOf yX10_farOf, Cond.code yX10_farOf cX10_farOf 5 (some .int), Cond.fieldLink RX10 31 "TradeWordsModel" "ways" "[I", Cond.methodLink RX10 143 yX10_least, Cond.static yX10_least, Cond.code yX10_least cX10_least 2 (some .int), Cond.methodLink RX10 173 yX10_meet, Cond.instanceMethod yX10_meet, Cond.selects RX10 yX10_meet yX10_meet, Cond.code yX10_meet cX10_meet 20 none, Cond.fieldLink RX10 38 "TradeWordsModel" "then" "[J", Cond.fieldLink RX10 34 "TradeWordsModel" "now" "[J", Cond.constantLong RX10 168 (100)]
def wsX10_goOn : List Cond := .code yX10_goOn cX10_goOn 9 none :: ((wsX10_goOn_r1 ++ wsX10_goOn_r2) ++ wsX100)
def wsX10_goAsTold_r1 : List Cond := [Cond.fieldLink RX10 19 "TradeWordsModel" "stands" "[I", Cond.fieldLink RX10 16 "TradeWordsModel" "l" "[I", Cond.methodLink RX10 177 yX10_beginAt, Cond.instanceMethod yX10_beginAt, Cond.selects RX10 yX10_beginAt yX10_beginAt, Cond.initialized RX10, Cond.code yX10_beginAt cX10_beginAt 4 none, Cond.fieldLink RX10 34 "TradeWordsModel" "now" "[J", Cond.constantLong RX10 166 (1000000), Cond.methodLink RX10 181 yX10_goOn, Cond.instanceMethod yX10_goOn, Cond.selects RX10 yX10_goOn yX10_goOn, Cond.code yX10_goOn cX10_goOn 9 none, Cond.methodLink RX10 170 yX10_isAlike, Cond.instanceMethod yX10_isAlike, Cond.selects RX10 yX10_isAlike yX10_isAlike, Cond.code yX10_isAlike cX10_isAlike 2 (some .boolean), Cond.methodLink RX10 156 yX10_likeFor, Cond.instanceMethod yX10_likeFor, Cond.selects RX10 yX10_likeFor yX10_likeFor, Cond.code yX10_likeFor cX10_likeFor 2 (some .int), Cond.fieldLink RX10 25 "TradeWordsModel" "one" "[I", Cond.fieldLink RX10 28 "TradeWordsModel" "two" "[I", Cond.methodLink RX10 129 yX10_wordAt]
def wsX10_goAsTold_r2 : List Cond := [Cond.static yX10_wordAt, Cond.code yX10_wordAt cX10_wordAt 2 (some .int), Cond.methodLink RX10 149 yX10_say, Cond.instanceMethod yX10_say, Cond.selects RX10 yX10_say yX10_say, Cond.code yX10_say cX10_say 8 none, Cond.methodLink RX10 140 yX10_said, Cond.instanceMethod yX10_said, Cond.selects RX10 yX10_said yX10_said, Cond.code yX10_said cX10_said 4 (some .int), Cond.methodLink RX10 137 yX10_has, Cond.static yX10_has, Cond.code yX10_has cX10_has 2 (some .boolean), Cond.methodLink RX10 153 yX10_likeOf, Cond.instanceMethod yX10_likeOf, Cond.selects RX10 yX10_likeOf yX10_likeOf, Cond.code yX10_likeOf cX10_likeOf 2 (some .int), Cond.methodLink RX10 146 yX10_farOf, Cond.instanceMethod yX10_farOf, Cond.selects RX10 yX10_farOf yX10_farOf, Cond.code yX10_farOf cX10_farOf 5 (some .int), Cond.fieldLink RX10 31 "TradeWordsModel" "ways" "[I", Cond.methodLink RX10 143 yX10_least, Cond.static yX10_least]
def wsX10_goAsTold_r3 : List Cond := [Cond.code yX10_least cX10_least 2 (some .int), Cond.methodLink RX10 173 yX10_meet, Cond.instanceMethod yX10_meet, Cond.selects RX10 yX10_meet yX10_meet, Cond.code yX10_meet cX10_meet 20 none, Cond.fieldLink RX10 38 "TradeWordsModel" "then" "[J", Cond.constantLong RX10 168 (100)]
def wsX10_goAsTold : List Cond := .code yX10_goAsTold cX10_goAsTold 3 none :: ((wsX10_goAsTold_r1 ++ (wsX10_goAsTold_r2 ++ wsX10_goAsTold_r3)) ++ wsX100)
def wsX10_wonBy : List Cond := .code yX10_wonBy cX10_wonBy 4 (some .long) :: ([.fieldLink RX10 34 "TradeWordsModel" "now" "[J"] ++ wsX100)
def wsX10_stand : List Cond := .code yX10_stand cX10_stand 3 (some .int) :: ([.fieldLink RX10 19 "TradeWordsModel" "stands" "[I", .methodLink RX10 159 yX10_isMeaning, .static yX10_isMeaning, .initialized RX10, .code yX10_isMeaning cX10_isMeaning 1 (some .boolean), .constantLong RX10 135 (7), .methodLink RX10 49 yX10_in, .static yX10_in, .code yX10_in cX10_in 6 (some .boolean), .methodLink RX10 132 yX10_isTold, .instanceMethod yX10_isTold, .selects RX10 yX10_isTold yX10_isTold, .code yX10_isTold cX10_isTold 2 (some .boolean), .fieldLink RX10 16 "TradeWordsModel" "l" "[I", .methodLink RX10 129 yX10_wordAt, .static yX10_wordAt, .code yX10_wordAt cX10_wordAt 2 (some .int)] ++ wsX100)
def wsX10_isStand : List Cond := .code yX10_isStand cX10_isStand 3 (some .boolean) :: ([.fieldLink RX10 16 "TradeWordsModel" "l" "[I", .methodLink RX10 49 yX10_in, .static yX10_in, .initialized RX10, .code yX10_in cX10_in 6 (some .boolean)] ++ wsX100)
def wsX10_set : List Cond := .code yX10_set cX10_set 4 (some .int) :: ([.fieldLink RX10 19 "TradeWordsModel" "stands" "[I", .methodLink RX10 159 yX10_isMeaning, .static yX10_isMeaning, .initialized RX10, .code yX10_isMeaning cX10_isMeaning 1 (some .boolean), .constantLong RX10 135 (7), .methodLink RX10 49 yX10_in, .static yX10_in, .code yX10_in cX10_in 6 (some .boolean), .methodLink RX10 185 yX10_isStand, .instanceMethod yX10_isStand, .selects RX10 yX10_isStand yX10_isStand, .code yX10_isStand cX10_isStand 3 (some .boolean), .fieldLink RX10 16 "TradeWordsModel" "l" "[I", .methodLink RX10 132 yX10_isTold, .instanceMethod yX10_isTold, .selects RX10 yX10_isTold yX10_isTold, .code yX10_isTold cX10_isTold 2 (some .boolean), .methodLink RX10 129 yX10_wordAt, .static yX10_wordAt, .code yX10_wordAt cX10_wordAt 2 (some .int)] ++ wsX100)
def wsX10_million_r1 : List Cond := [Cond.constantLong RX10 188 (200), Cond.fieldLink RX10 34 "TradeWordsModel" "now" "[J", Cond.methodLink RX10 159 yX10_isMeaning, Cond.static yX10_isMeaning, Cond.initialized RX10, Cond.code yX10_isMeaning cX10_isMeaning 1 (some .boolean), Cond.constantLong RX10 135 (7), Cond.methodLink RX10 49 yX10_in, Cond.static yX10_in, Cond.code yX10_in cX10_in 6 (some .boolean), Cond.methodLink RX10 185 yX10_isStand, Cond.instanceMethod yX10_isStand, Cond.selects RX10 yX10_isStand yX10_isStand, Cond.code yX10_isStand cX10_isStand 3 (some .boolean), Cond.fieldLink RX10 16 "TradeWordsModel" "l" "[I", Cond.methodLink RX10 132 yX10_isTold, Cond.instanceMethod yX10_isTold, Cond.selects RX10 yX10_isTold yX10_isTold, Cond.code yX10_isTold cX10_isTold 2 (some .boolean), Cond.methodLink RX10 129 yX10_wordAt, Cond.static yX10_wordAt, Cond.code yX10_wordAt cX10_wordAt 2 (some .int), Cond.methodLink RX10 190 yX10_goAsTold, Cond.instanceMethod yX10_goAsTold]
def wsX10_million_r2 : List Cond := [Cond.selects RX10 yX10_goAsTold yX10_goAsTold, Cond.code yX10_goAsTold cX10_goAsTold 3 none, Cond.fieldLink RX10 19 "TradeWordsModel" "stands" "[I", Cond.methodLink RX10 177 yX10_beginAt, Cond.instanceMethod yX10_beginAt, Cond.selects RX10 yX10_beginAt yX10_beginAt, Cond.code yX10_beginAt cX10_beginAt 4 none, Cond.constantLong RX10 166 (1000000), Cond.methodLink RX10 181 yX10_goOn, Cond.instanceMethod yX10_goOn, Cond.selects RX10 yX10_goOn yX10_goOn, Cond.code yX10_goOn cX10_goOn 9 none, Cond.methodLink RX10 170 yX10_isAlike, Cond.instanceMethod yX10_isAlike, Cond.selects RX10 yX10_isAlike yX10_isAlike, Cond.code yX10_isAlike cX10_isAlike 2 (some .boolean), Cond.methodLink RX10 156 yX10_likeFor, Cond.instanceMethod yX10_likeFor, Cond.selects RX10 yX10_likeFor yX10_likeFor, Cond.code yX10_likeFor cX10_likeFor 2 (some .int), Cond.fieldLink RX10 25 "TradeWordsModel" "one" "[I", Cond.fieldLink RX10 28 "TradeWordsModel" "two" "[I", Cond.methodLink RX10 149 yX10_say, Cond.instanceMethod yX10_say]
def wsX10_million_r3 : List Cond := [Cond.selects RX10 yX10_say yX10_say, Cond.code yX10_say cX10_say 8 none, Cond.methodLink RX10 140 yX10_said, Cond.instanceMethod yX10_said, Cond.selects RX10 yX10_said yX10_said, Cond.code yX10_said cX10_said 4 (some .int), Cond.methodLink RX10 137 yX10_has, Cond.static yX10_has, Cond.code yX10_has cX10_has 2 (some .boolean), Cond.methodLink RX10 153 yX10_likeOf, Cond.instanceMethod yX10_likeOf, Cond.selects RX10 yX10_likeOf yX10_likeOf, Cond.code yX10_likeOf cX10_likeOf 2 (some .int), Cond.methodLink RX10 146 yX10_farOf, Cond.instanceMethod yX10_farOf, Cond.selects RX10 yX10_farOf yX10_farOf, Cond.code yX10_farOf cX10_farOf 5 (some .int), Cond.fieldLink RX10 31 "TradeWordsModel" "ways" "[I", Cond.methodLink RX10 143 yX10_least, Cond.static yX10_least, Cond.code yX10_least cX10_least 2 (some .int), Cond.methodLink RX10 173 yX10_meet, Cond.instanceMethod yX10_meet, Cond.selects RX10 yX10_meet yX10_meet]
def wsX10_million_r4 : List Cond := [Cond.code yX10_meet cX10_meet 20 none, Cond.fieldLink RX10 38 "TradeWordsModel" "then" "[J", Cond.constantLong RX10 168 (100)]
def wsX10_million : List Cond := .code yX10_million cX10_million 5 (some .int) :: ((wsX10_million_r1 ++ (wsX10_million_r2 ++ (wsX10_million_r3 ++ wsX10_million_r4))) ++ wsX100)
def wsX10_won_r1 : List Cond := [Cond.constantLong RX10 188 (200), Cond.fieldLink RX10 16 "TradeWordsModel" "l" "[I", Cond.methodLink RX10 159 yX10_isMeaning, Cond.static yX10_isMeaning, Cond.initialized RX10, Cond.code yX10_isMeaning cX10_isMeaning 1 (some .boolean), Cond.constantLong RX10 135 (7), Cond.methodLink RX10 49 yX10_in, Cond.static yX10_in, Cond.code yX10_in cX10_in 6 (some .boolean), Cond.methodLink RX10 132 yX10_isTold, Cond.instanceMethod yX10_isTold, Cond.selects RX10 yX10_isTold yX10_isTold, Cond.code yX10_isTold cX10_isTold 2 (some .boolean), Cond.methodLink RX10 129 yX10_wordAt, Cond.static yX10_wordAt, Cond.code yX10_wordAt cX10_wordAt 2 (some .int), Cond.methodLink RX10 190 yX10_goAsTold, Cond.instanceMethod yX10_goAsTold, Cond.selects RX10 yX10_goAsTold yX10_goAsTold, Cond.code yX10_goAsTold cX10_goAsTold 3 none, Cond.fieldLink RX10 19 "TradeWordsModel" "stands" "[I", Cond.methodLink RX10 177 yX10_beginAt, Cond.instanceMethod yX10_beginAt]
def wsX10_won_r2 : List Cond := [Cond.selects RX10 yX10_beginAt yX10_beginAt, Cond.code yX10_beginAt cX10_beginAt 4 none, Cond.fieldLink RX10 34 "TradeWordsModel" "now" "[J", Cond.constantLong RX10 166 (1000000), Cond.methodLink RX10 181 yX10_goOn, Cond.instanceMethod yX10_goOn, Cond.selects RX10 yX10_goOn yX10_goOn, Cond.code yX10_goOn cX10_goOn 9 none, Cond.methodLink RX10 170 yX10_isAlike, Cond.instanceMethod yX10_isAlike, Cond.selects RX10 yX10_isAlike yX10_isAlike, Cond.code yX10_isAlike cX10_isAlike 2 (some .boolean), Cond.methodLink RX10 156 yX10_likeFor, Cond.instanceMethod yX10_likeFor, Cond.selects RX10 yX10_likeFor yX10_likeFor, Cond.code yX10_likeFor cX10_likeFor 2 (some .int), Cond.fieldLink RX10 25 "TradeWordsModel" "one" "[I", Cond.fieldLink RX10 28 "TradeWordsModel" "two" "[I", Cond.methodLink RX10 149 yX10_say, Cond.instanceMethod yX10_say, Cond.selects RX10 yX10_say yX10_say, Cond.code yX10_say cX10_say 8 none, Cond.methodLink RX10 140 yX10_said, Cond.instanceMethod yX10_said]
def wsX10_won_r3 : List Cond := [Cond.selects RX10 yX10_said yX10_said, Cond.code yX10_said cX10_said 4 (some .int), Cond.methodLink RX10 137 yX10_has, Cond.static yX10_has, Cond.code yX10_has cX10_has 2 (some .boolean), Cond.methodLink RX10 153 yX10_likeOf, Cond.instanceMethod yX10_likeOf, Cond.selects RX10 yX10_likeOf yX10_likeOf, Cond.code yX10_likeOf cX10_likeOf 2 (some .int), Cond.methodLink RX10 146 yX10_farOf, Cond.instanceMethod yX10_farOf, Cond.selects RX10 yX10_farOf yX10_farOf, Cond.code yX10_farOf cX10_farOf 5 (some .int), Cond.fieldLink RX10 31 "TradeWordsModel" "ways" "[I", Cond.methodLink RX10 143 yX10_least, Cond.static yX10_least, Cond.code yX10_least cX10_least 2 (some .int), Cond.methodLink RX10 173 yX10_meet, Cond.instanceMethod yX10_meet, Cond.selects RX10 yX10_meet yX10_meet, Cond.code yX10_meet cX10_meet 20 none, Cond.fieldLink RX10 38 "TradeWordsModel" "then" "[J", Cond.constantLong RX10 168 (100), Cond.methodLink RX10 193 yX10_wonBy]
def wsX10_won_r4 : List Cond := [Cond.instanceMethod yX10_wonBy, Cond.selects RX10 yX10_wonBy yX10_wonBy, Cond.code yX10_wonBy cX10_wonBy 4 (some .long)]
def wsX10_won : List Cond := .code yX10_won cX10_won 4 (some .int) :: ((wsX10_won_r1 ++ (wsX10_won_r2 ++ (wsX10_won_r3 ++ wsX10_won_r4))) ++ wsX100)
def wsX10_isEnough : List Cond := .code yX10_isEnough cX10_isEnough 3 (some .boolean) :: ([.constantLong RX10 168 (100), .constantLong RX10 166 (1000000)])
def wsX10_soon_r1 : List Cond := [Cond.constantLong RX10 168 (100), Cond.fieldLink RX10 16 "TradeWordsModel" "l" "[I", Cond.methodLink RX10 159 yX10_isMeaning, Cond.static yX10_isMeaning, Cond.initialized RX10, Cond.code yX10_isMeaning cX10_isMeaning 1 (some .boolean), Cond.constantLong RX10 135 (7), Cond.methodLink RX10 49 yX10_in, Cond.static yX10_in, Cond.code yX10_in cX10_in 6 (some .boolean), Cond.methodLink RX10 132 yX10_isTold, Cond.instanceMethod yX10_isTold, Cond.selects RX10 yX10_isTold yX10_isTold, Cond.code yX10_isTold cX10_isTold 2 (some .boolean), Cond.methodLink RX10 129 yX10_wordAt, Cond.static yX10_wordAt, Cond.code yX10_wordAt cX10_wordAt 2 (some .int), Cond.methodLink RX10 190 yX10_goAsTold, Cond.instanceMethod yX10_goAsTold, Cond.selects RX10 yX10_goAsTold yX10_goAsTold, Cond.code yX10_goAsTold cX10_goAsTold 3 none, Cond.fieldLink RX10 19 "TradeWordsModel" "stands" "[I", Cond.methodLink RX10 177 yX10_beginAt, Cond.instanceMethod yX10_beginAt]
def wsX10_soon_r2 : List Cond := [Cond.selects RX10 yX10_beginAt yX10_beginAt, Cond.code yX10_beginAt cX10_beginAt 4 none, Cond.fieldLink RX10 34 "TradeWordsModel" "now" "[J", Cond.constantLong RX10 166 (1000000), Cond.methodLink RX10 181 yX10_goOn, Cond.instanceMethod yX10_goOn, Cond.selects RX10 yX10_goOn yX10_goOn, Cond.code yX10_goOn cX10_goOn 9 none, Cond.methodLink RX10 170 yX10_isAlike, Cond.instanceMethod yX10_isAlike, Cond.selects RX10 yX10_isAlike yX10_isAlike, Cond.code yX10_isAlike cX10_isAlike 2 (some .boolean), Cond.methodLink RX10 156 yX10_likeFor, Cond.instanceMethod yX10_likeFor, Cond.selects RX10 yX10_likeFor yX10_likeFor, Cond.code yX10_likeFor cX10_likeFor 2 (some .int), Cond.fieldLink RX10 25 "TradeWordsModel" "one" "[I", Cond.fieldLink RX10 28 "TradeWordsModel" "two" "[I", Cond.methodLink RX10 149 yX10_say, Cond.instanceMethod yX10_say, Cond.selects RX10 yX10_say yX10_say, Cond.code yX10_say cX10_say 8 none, Cond.methodLink RX10 140 yX10_said, Cond.instanceMethod yX10_said]
def wsX10_soon_r3 : List Cond := [Cond.selects RX10 yX10_said yX10_said, Cond.code yX10_said cX10_said 4 (some .int), Cond.methodLink RX10 137 yX10_has, Cond.static yX10_has, Cond.code yX10_has cX10_has 2 (some .boolean), Cond.methodLink RX10 153 yX10_likeOf, Cond.instanceMethod yX10_likeOf, Cond.selects RX10 yX10_likeOf yX10_likeOf, Cond.code yX10_likeOf cX10_likeOf 2 (some .int), Cond.methodLink RX10 146 yX10_farOf, Cond.instanceMethod yX10_farOf, Cond.selects RX10 yX10_farOf yX10_farOf, Cond.code yX10_farOf cX10_farOf 5 (some .int), Cond.fieldLink RX10 31 "TradeWordsModel" "ways" "[I", Cond.methodLink RX10 143 yX10_least, Cond.static yX10_least, Cond.code yX10_least cX10_least 2 (some .int), Cond.methodLink RX10 173 yX10_meet, Cond.instanceMethod yX10_meet, Cond.selects RX10 yX10_meet yX10_meet, Cond.code yX10_meet cX10_meet 20 none, Cond.fieldLink RX10 38 "TradeWordsModel" "then" "[J", Cond.methodLink RX10 193 yX10_wonBy, Cond.instanceMethod yX10_wonBy]
def wsX10_soon_r4 : List Cond := [Cond.selects RX10 yX10_wonBy yX10_wonBy, Cond.code yX10_wonBy cX10_wonBy 4 (some .long), Cond.methodLink RX10 197 yX10_isEnough, Cond.static yX10_isEnough, Cond.code yX10_isEnough cX10_isEnough 3 (some .boolean)]
def wsX10_soon : List Cond := .code yX10_soon cX10_soon 4 (some .int) :: ((wsX10_soon_r1 ++ (wsX10_soon_r2 ++ (wsX10_soon_r3 ++ wsX10_soon_r4))) ++ wsX100)
def wsX10_use_r1 : List Cond := [Cond.constantLong RX10 188 (200), Cond.fieldLink RX10 16 "TradeWordsModel" "l" "[I", Cond.fieldLink RX10 34 "TradeWordsModel" "now" "[J", Cond.constantLong RX10 201 (1000), Cond.methodLink RX10 159 yX10_isMeaning, Cond.static yX10_isMeaning, Cond.initialized RX10, Cond.code yX10_isMeaning cX10_isMeaning 1 (some .boolean), Cond.constantLong RX10 135 (7), Cond.methodLink RX10 49 yX10_in, Cond.static yX10_in, Cond.code yX10_in cX10_in 6 (some .boolean), Cond.methodLink RX10 132 yX10_isTold, Cond.instanceMethod yX10_isTold, Cond.selects RX10 yX10_isTold yX10_isTold, Cond.code yX10_isTold cX10_isTold 2 (some .boolean), Cond.methodLink RX10 129 yX10_wordAt, Cond.static yX10_wordAt, Cond.code yX10_wordAt cX10_wordAt 2 (some .int), Cond.methodLink RX10 190 yX10_goAsTold, Cond.instanceMethod yX10_goAsTold, Cond.selects RX10 yX10_goAsTold yX10_goAsTold, Cond.code yX10_goAsTold cX10_goAsTold 3 none, Cond.fieldLink RX10 19 "TradeWordsModel" "stands" "[I"]
def wsX10_use_r2 : List Cond := [Cond.methodLink RX10 177 yX10_beginAt, Cond.instanceMethod yX10_beginAt, Cond.selects RX10 yX10_beginAt yX10_beginAt, Cond.code yX10_beginAt cX10_beginAt 4 none, Cond.constantLong RX10 166 (1000000), Cond.methodLink RX10 181 yX10_goOn, Cond.instanceMethod yX10_goOn, Cond.selects RX10 yX10_goOn yX10_goOn, Cond.code yX10_goOn cX10_goOn 9 none, Cond.methodLink RX10 170 yX10_isAlike, Cond.instanceMethod yX10_isAlike, Cond.selects RX10 yX10_isAlike yX10_isAlike, Cond.code yX10_isAlike cX10_isAlike 2 (some .boolean), Cond.methodLink RX10 156 yX10_likeFor, Cond.instanceMethod yX10_likeFor, Cond.selects RX10 yX10_likeFor yX10_likeFor, Cond.code yX10_likeFor cX10_likeFor 2 (some .int), Cond.fieldLink RX10 25 "TradeWordsModel" "one" "[I", Cond.fieldLink RX10 28 "TradeWordsModel" "two" "[I", Cond.methodLink RX10 149 yX10_say, Cond.instanceMethod yX10_say, Cond.selects RX10 yX10_say yX10_say, Cond.code yX10_say cX10_say 8 none, Cond.methodLink RX10 140 yX10_said]
def wsX10_use_r3 : List Cond := [Cond.instanceMethod yX10_said, Cond.selects RX10 yX10_said yX10_said, Cond.code yX10_said cX10_said 4 (some .int), Cond.methodLink RX10 137 yX10_has, Cond.static yX10_has, Cond.code yX10_has cX10_has 2 (some .boolean), Cond.methodLink RX10 153 yX10_likeOf, Cond.instanceMethod yX10_likeOf, Cond.selects RX10 yX10_likeOf yX10_likeOf, Cond.code yX10_likeOf cX10_likeOf 2 (some .int), Cond.methodLink RX10 146 yX10_farOf, Cond.instanceMethod yX10_farOf, Cond.selects RX10 yX10_farOf yX10_farOf, Cond.code yX10_farOf cX10_farOf 5 (some .int), Cond.fieldLink RX10 31 "TradeWordsModel" "ways" "[I", Cond.methodLink RX10 143 yX10_least, Cond.static yX10_least, Cond.code yX10_least cX10_least 2 (some .int), Cond.methodLink RX10 173 yX10_meet, Cond.instanceMethod yX10_meet, Cond.selects RX10 yX10_meet yX10_meet, Cond.code yX10_meet cX10_meet 20 none, Cond.fieldLink RX10 38 "TradeWordsModel" "then" "[J", Cond.constantLong RX10 168 (100)]
def wsX10_use : List Cond := .code yX10_use cX10_use 7 (some .int) :: ((wsX10_use_r1 ++ (wsX10_use_r2 ++ wsX10_use_r3)) ++ wsX100)
def wsX10_traders_r1 : List Cond := [Cond.constantLong RX10 188 (200), Cond.constantLong RX10 168 (100), Cond.fieldLink RX10 16 "TradeWordsModel" "l" "[I", Cond.methodLink RX10 159 yX10_isMeaning, Cond.static yX10_isMeaning, Cond.initialized RX10, Cond.code yX10_isMeaning cX10_isMeaning 1 (some .boolean), Cond.constantLong RX10 135 (7), Cond.methodLink RX10 49 yX10_in, Cond.static yX10_in, Cond.code yX10_in cX10_in 6 (some .boolean), Cond.methodLink RX10 132 yX10_isTold, Cond.instanceMethod yX10_isTold, Cond.selects RX10 yX10_isTold yX10_isTold, Cond.code yX10_isTold cX10_isTold 2 (some .boolean), Cond.methodLink RX10 129 yX10_wordAt, Cond.static yX10_wordAt, Cond.code yX10_wordAt cX10_wordAt 2 (some .int), Cond.methodLink RX10 177 yX10_beginAt, Cond.instanceMethod yX10_beginAt, Cond.selects RX10 yX10_beginAt yX10_beginAt, Cond.code yX10_beginAt cX10_beginAt 4 none, Cond.fieldLink RX10 34 "TradeWordsModel" "now" "[J", Cond.constantLong RX10 166 (1000000)]
def wsX10_traders_r2 : List Cond := [Cond.methodLink RX10 181 yX10_goOn, Cond.instanceMethod yX10_goOn, Cond.selects RX10 yX10_goOn yX10_goOn, Cond.code yX10_goOn cX10_goOn 9 none, Cond.methodLink RX10 170 yX10_isAlike, Cond.instanceMethod yX10_isAlike, Cond.selects RX10 yX10_isAlike yX10_isAlike, Cond.code yX10_isAlike cX10_isAlike 2 (some .boolean), Cond.methodLink RX10 156 yX10_likeFor, Cond.instanceMethod yX10_likeFor, Cond.selects RX10 yX10_likeFor yX10_likeFor, Cond.code yX10_likeFor cX10_likeFor 2 (some .int), Cond.fieldLink RX10 25 "TradeWordsModel" "one" "[I", Cond.fieldLink RX10 28 "TradeWordsModel" "two" "[I", Cond.methodLink RX10 149 yX10_say, Cond.instanceMethod yX10_say, Cond.selects RX10 yX10_say yX10_say, Cond.code yX10_say cX10_say 8 none, Cond.methodLink RX10 140 yX10_said, Cond.instanceMethod yX10_said, Cond.selects RX10 yX10_said yX10_said, Cond.code yX10_said cX10_said 4 (some .int), Cond.methodLink RX10 137 yX10_has, Cond.static yX10_has]
def wsX10_traders_r3 : List Cond := [Cond.code yX10_has cX10_has 2 (some .boolean), Cond.methodLink RX10 153 yX10_likeOf, Cond.instanceMethod yX10_likeOf, Cond.selects RX10 yX10_likeOf yX10_likeOf, Cond.code yX10_likeOf cX10_likeOf 2 (some .int), Cond.methodLink RX10 146 yX10_farOf, Cond.instanceMethod yX10_farOf, Cond.selects RX10 yX10_farOf yX10_farOf, Cond.code yX10_farOf cX10_farOf 5 (some .int), Cond.fieldLink RX10 31 "TradeWordsModel" "ways" "[I", Cond.methodLink RX10 143 yX10_least, Cond.static yX10_least, Cond.code yX10_least cX10_least 2 (some .int), Cond.methodLink RX10 173 yX10_meet, Cond.instanceMethod yX10_meet, Cond.selects RX10 yX10_meet yX10_meet, Cond.code yX10_meet cX10_meet 20 none, Cond.fieldLink RX10 38 "TradeWordsModel" "then" "[J", Cond.methodLink RX10 193 yX10_wonBy, Cond.instanceMethod yX10_wonBy, Cond.selects RX10 yX10_wonBy yX10_wonBy, Cond.code yX10_wonBy cX10_wonBy 4 (some .long), Cond.methodLink RX10 197 yX10_isEnough, Cond.static yX10_isEnough]
def wsX10_traders_r4 : List Cond := [Cond.code yX10_isEnough cX10_isEnough 3 (some .boolean)]
def wsX10_traders : List Cond := .code yX10_traders cX10_traders 6 (some .int) :: ((wsX10_traders_r1 ++ (wsX10_traders_r2 ++ (wsX10_traders_r3 ++ wsX10_traders_r4))) ++ wsX100)
def wsX10_ready_r1 : List Cond := [Cond.constantLong RX10 188 (200), Cond.constantLong RX10 168 (100), Cond.fieldLink RX10 19 "TradeWordsModel" "stands" "[I", Cond.fieldLink RX10 16 "TradeWordsModel" "l" "[I", Cond.methodLink RX10 159 yX10_isMeaning, Cond.static yX10_isMeaning, Cond.initialized RX10, Cond.code yX10_isMeaning cX10_isMeaning 1 (some .boolean), Cond.constantLong RX10 135 (7), Cond.methodLink RX10 49 yX10_in, Cond.static yX10_in, Cond.code yX10_in cX10_in 6 (some .boolean), Cond.methodLink RX10 132 yX10_isTold, Cond.instanceMethod yX10_isTold, Cond.selects RX10 yX10_isTold yX10_isTold, Cond.code yX10_isTold cX10_isTold 2 (some .boolean), Cond.methodLink RX10 129 yX10_wordAt, Cond.static yX10_wordAt, Cond.code yX10_wordAt cX10_wordAt 2 (some .int), Cond.methodLink RX10 177 yX10_beginAt, Cond.instanceMethod yX10_beginAt, Cond.selects RX10 yX10_beginAt yX10_beginAt, Cond.code yX10_beginAt cX10_beginAt 4 none, Cond.fieldLink RX10 34 "TradeWordsModel" "now" "[J"]
def wsX10_ready_r2 : List Cond := [Cond.constantLong RX10 166 (1000000), Cond.methodLink RX10 181 yX10_goOn, Cond.instanceMethod yX10_goOn, Cond.selects RX10 yX10_goOn yX10_goOn, Cond.code yX10_goOn cX10_goOn 9 none, Cond.methodLink RX10 170 yX10_isAlike, Cond.instanceMethod yX10_isAlike, Cond.selects RX10 yX10_isAlike yX10_isAlike, Cond.code yX10_isAlike cX10_isAlike 2 (some .boolean), Cond.methodLink RX10 156 yX10_likeFor, Cond.instanceMethod yX10_likeFor, Cond.selects RX10 yX10_likeFor yX10_likeFor, Cond.code yX10_likeFor cX10_likeFor 2 (some .int), Cond.fieldLink RX10 25 "TradeWordsModel" "one" "[I", Cond.fieldLink RX10 28 "TradeWordsModel" "two" "[I", Cond.methodLink RX10 149 yX10_say, Cond.instanceMethod yX10_say, Cond.selects RX10 yX10_say yX10_say, Cond.code yX10_say cX10_say 8 none, Cond.methodLink RX10 140 yX10_said, Cond.instanceMethod yX10_said, Cond.selects RX10 yX10_said yX10_said, Cond.code yX10_said cX10_said 4 (some .int), Cond.methodLink RX10 137 yX10_has]
def wsX10_ready_r3 : List Cond := [Cond.static yX10_has, Cond.code yX10_has cX10_has 2 (some .boolean), Cond.methodLink RX10 153 yX10_likeOf, Cond.instanceMethod yX10_likeOf, Cond.selects RX10 yX10_likeOf yX10_likeOf, Cond.code yX10_likeOf cX10_likeOf 2 (some .int), Cond.methodLink RX10 146 yX10_farOf, Cond.instanceMethod yX10_farOf, Cond.selects RX10 yX10_farOf yX10_farOf, Cond.code yX10_farOf cX10_farOf 5 (some .int), Cond.fieldLink RX10 31 "TradeWordsModel" "ways" "[I", Cond.methodLink RX10 143 yX10_least, Cond.static yX10_least, Cond.code yX10_least cX10_least 2 (some .int), Cond.methodLink RX10 173 yX10_meet, Cond.instanceMethod yX10_meet, Cond.selects RX10 yX10_meet yX10_meet, Cond.code yX10_meet cX10_meet 20 none, Cond.fieldLink RX10 38 "TradeWordsModel" "then" "[J", Cond.methodLink RX10 193 yX10_wonBy, Cond.instanceMethod yX10_wonBy, Cond.selects RX10 yX10_wonBy yX10_wonBy, Cond.code yX10_wonBy cX10_wonBy 4 (some .long), Cond.methodLink RX10 197 yX10_isEnough]
def wsX10_ready_r4 : List Cond := [Cond.static yX10_isEnough, Cond.code yX10_isEnough cX10_isEnough 3 (some .boolean)]
def wsX10_ready : List Cond := .code yX10_ready cX10_ready 6 (some .int) :: ((wsX10_ready_r1 ++ (wsX10_ready_r2 ++ (wsX10_ready_r3 ++ wsX10_ready_r4))) ++ wsX100)
def wsX10_draw : List Cond := .code yX10_draw cX10_draw 6 (some .int) :: ([.constantLong RX10 203 (7919), .constantLong RX10 205 (6151), .constantLong RX10 207 (3571), .constantLong RX10 209 (2011), .constantLong RX10 211 (65521)])
def wsX10_meetBy : List Cond := .code yX10_meetBy cX10_meetBy 10 none :: ([.fieldLink RX10 19 "TradeWordsModel" "stands" "[I", .fieldLink RX10 16 "TradeWordsModel" "l" "[I", .methodLink RX10 213 yX10_draw, .static yX10_draw, .initialized RX10, .code yX10_draw cX10_draw 6 (some .int), .constantLong RX10 203 (7919), .constantLong RX10 205 (6151), .constantLong RX10 207 (3571), .constantLong RX10 209 (2011), .constantLong RX10 211 (65521)] ++ wsX100)
def wsX10_tongueBy_r1 : List Cond := [Cond.fieldLink RX10 19 "TradeWordsModel" "stands" "[I", Cond.fieldLink RX10 16 "TradeWordsModel" "l" "[I", Cond.methodLink RX10 132 yX10_isTold, Cond.instanceMethod yX10_isTold, Cond.selects RX10 yX10_isTold yX10_isTold, Cond.initialized RX10, Cond.code yX10_isTold cX10_isTold 2 (some .boolean), Cond.methodLink RX10 129 yX10_wordAt, Cond.static yX10_wordAt, Cond.code yX10_wordAt cX10_wordAt 2 (some .int), Cond.methodLink RX10 170 yX10_isAlike, Cond.instanceMethod yX10_isAlike, Cond.selects RX10 yX10_isAlike yX10_isAlike, Cond.code yX10_isAlike cX10_isAlike 2 (some .boolean), Cond.methodLink RX10 156 yX10_likeFor, Cond.instanceMethod yX10_likeFor, Cond.selects RX10 yX10_likeFor yX10_likeFor, Cond.code yX10_likeFor cX10_likeFor 2 (some .int), Cond.fieldLink RX10 25 "TradeWordsModel" "one" "[I", Cond.fieldLink RX10 28 "TradeWordsModel" "two" "[I", Cond.methodLink RX10 149 yX10_say, Cond.instanceMethod yX10_say, Cond.selects RX10 yX10_say yX10_say, Cond.code yX10_say cX10_say 8 none]
def wsX10_tongueBy_r2 : List Cond := [Cond.methodLink RX10 140 yX10_said, Cond.instanceMethod yX10_said, Cond.selects RX10 yX10_said yX10_said, Cond.code yX10_said cX10_said 4 (some .int), Cond.methodLink RX10 137 yX10_has, Cond.static yX10_has, Cond.code yX10_has cX10_has 2 (some .boolean), Cond.methodLink RX10 153 yX10_likeOf, Cond.instanceMethod yX10_likeOf, Cond.selects RX10 yX10_likeOf yX10_likeOf, Cond.code yX10_likeOf cX10_likeOf 2 (some .int), Cond.methodLink RX10 146 yX10_farOf, Cond.instanceMethod yX10_farOf, Cond.selects RX10 yX10_farOf yX10_farOf, Cond.code yX10_farOf cX10_farOf 5 (some .int), Cond.fieldLink RX10 31 "TradeWordsModel" "ways" "[I", Cond.methodLink RX10 143 yX10_least, Cond.static yX10_least, Cond.code yX10_least cX10_least 2 (some .int)]
def wsX10_tongueBy : List Cond := .code yX10_tongueBy cX10_tongueBy 7 (some .int) :: ((wsX10_tongueBy_r1 ++ wsX10_tongueBy_r2) ++ wsX100)
def wsX10_summer_r1 : List Cond := [Cond.constantLong RX10 217 (9999), Cond.constantLong RX10 219 (99), Cond.methodLink RX10 49 yX10_in, Cond.static yX10_in, Cond.initialized RX10, Cond.code yX10_in cX10_in 6 (some .boolean), Cond.methodLink RX10 132 yX10_isTold, Cond.instanceMethod yX10_isTold, Cond.selects RX10 yX10_isTold yX10_isTold, Cond.code yX10_isTold cX10_isTold 2 (some .boolean), Cond.fieldLink RX10 16 "TradeWordsModel" "l" "[I", Cond.methodLink RX10 129 yX10_wordAt, Cond.static yX10_wordAt, Cond.code yX10_wordAt cX10_wordAt 2 (some .int), Cond.methodLink RX10 170 yX10_isAlike, Cond.instanceMethod yX10_isAlike, Cond.selects RX10 yX10_isAlike yX10_isAlike, Cond.code yX10_isAlike cX10_isAlike 2 (some .boolean), Cond.methodLink RX10 156 yX10_likeFor, Cond.instanceMethod yX10_likeFor, Cond.selects RX10 yX10_likeFor yX10_likeFor, Cond.code yX10_likeFor cX10_likeFor 2 (some .int), Cond.fieldLink RX10 25 "TradeWordsModel" "one" "[I", Cond.fieldLink RX10 28 "TradeWordsModel" "two" "[I"]
def wsX10_summer_r2 : List Cond := [Cond.methodLink RX10 149 yX10_say, Cond.instanceMethod yX10_say, Cond.selects RX10 yX10_say yX10_say, Cond.code yX10_say cX10_say 8 none, Cond.methodLink RX10 140 yX10_said, Cond.instanceMethod yX10_said, Cond.selects RX10 yX10_said yX10_said, Cond.code yX10_said cX10_said 4 (some .int), Cond.methodLink RX10 137 yX10_has, Cond.static yX10_has, Cond.code yX10_has cX10_has 2 (some .boolean), Cond.methodLink RX10 153 yX10_likeOf, Cond.instanceMethod yX10_likeOf, Cond.selects RX10 yX10_likeOf yX10_likeOf, Cond.code yX10_likeOf cX10_likeOf 2 (some .int), Cond.methodLink RX10 146 yX10_farOf, Cond.instanceMethod yX10_farOf, Cond.selects RX10 yX10_farOf yX10_farOf, Cond.code yX10_farOf cX10_farOf 5 (some .int), Cond.fieldLink RX10 31 "TradeWordsModel" "ways" "[I", Cond.methodLink RX10 143 yX10_least, Cond.static yX10_least, Cond.code yX10_least cX10_least 2 (some .int), Cond.methodLink RX10 221 yX10_meetBy]
def wsX10_summer_r3 : List Cond := [Cond.instanceMethod yX10_meetBy, Cond.selects RX10 yX10_meetBy yX10_meetBy, Cond.code yX10_meetBy cX10_meetBy 10 none, Cond.fieldLink RX10 19 "TradeWordsModel" "stands" "[I", Cond.methodLink RX10 213 yX10_draw, Cond.static yX10_draw, Cond.code yX10_draw cX10_draw 6 (some .int), Cond.constantLong RX10 203 (7919), Cond.constantLong RX10 205 (6151), Cond.constantLong RX10 207 (3571), Cond.constantLong RX10 209 (2011), Cond.constantLong RX10 211 (65521), Cond.methodLink RX10 225 yX10_tongueBy, Cond.instanceMethod yX10_tongueBy, Cond.selects RX10 yX10_tongueBy yX10_tongueBy, Cond.code yX10_tongueBy cX10_tongueBy 7 (some .int), Cond.methodLink RX10 125 yX10_ones, Cond.static yX10_ones, Cond.code yX10_ones cX10_ones 3 (some .int)]
def wsX10_summer : List Cond := .code yX10_summer cX10_summer 6 (some .int) :: ((wsX10_summer_r1 ++ (wsX10_summer_r2 ++ wsX10_summer_r3)) ++ wsX100)
def wsX10_tongue_r1 : List Cond := [Cond.methodLink RX10 49 yX10_in, Cond.static yX10_in, Cond.initialized RX10, Cond.code yX10_in cX10_in 6 (some .boolean), Cond.methodLink RX10 225 yX10_tongueBy, Cond.instanceMethod yX10_tongueBy, Cond.selects RX10 yX10_tongueBy yX10_tongueBy, Cond.code yX10_tongueBy cX10_tongueBy 7 (some .int), Cond.fieldLink RX10 19 "TradeWordsModel" "stands" "[I", Cond.fieldLink RX10 16 "TradeWordsModel" "l" "[I", Cond.methodLink RX10 132 yX10_isTold, Cond.instanceMethod yX10_isTold, Cond.selects RX10 yX10_isTold yX10_isTold, Cond.code yX10_isTold cX10_isTold 2 (some .boolean), Cond.methodLink RX10 129 yX10_wordAt, Cond.static yX10_wordAt, Cond.code yX10_wordAt cX10_wordAt 2 (some .int), Cond.methodLink RX10 170 yX10_isAlike, Cond.instanceMethod yX10_isAlike, Cond.selects RX10 yX10_isAlike yX10_isAlike, Cond.code yX10_isAlike cX10_isAlike 2 (some .boolean), Cond.methodLink RX10 156 yX10_likeFor, Cond.instanceMethod yX10_likeFor, Cond.selects RX10 yX10_likeFor yX10_likeFor]
def wsX10_tongue_r2 : List Cond := [Cond.code yX10_likeFor cX10_likeFor 2 (some .int), Cond.fieldLink RX10 25 "TradeWordsModel" "one" "[I", Cond.fieldLink RX10 28 "TradeWordsModel" "two" "[I", Cond.methodLink RX10 149 yX10_say, Cond.instanceMethod yX10_say, Cond.selects RX10 yX10_say yX10_say, Cond.code yX10_say cX10_say 8 none, Cond.methodLink RX10 140 yX10_said, Cond.instanceMethod yX10_said, Cond.selects RX10 yX10_said yX10_said, Cond.code yX10_said cX10_said 4 (some .int), Cond.methodLink RX10 137 yX10_has, Cond.static yX10_has, Cond.code yX10_has cX10_has 2 (some .boolean), Cond.methodLink RX10 153 yX10_likeOf, Cond.instanceMethod yX10_likeOf, Cond.selects RX10 yX10_likeOf yX10_likeOf, Cond.code yX10_likeOf cX10_likeOf 2 (some .int), Cond.methodLink RX10 146 yX10_farOf, Cond.instanceMethod yX10_farOf, Cond.selects RX10 yX10_farOf yX10_farOf, Cond.code yX10_farOf cX10_farOf 5 (some .int), Cond.fieldLink RX10 31 "TradeWordsModel" "ways" "[I", Cond.methodLink RX10 143 yX10_least]
def wsX10_tongue_r3 : List Cond := [Cond.static yX10_least, Cond.code yX10_least cX10_least 2 (some .int)]
def wsX10_tongue : List Cond := .code yX10_tongue cX10_tongue 2 (some .int) :: ((wsX10_tongue_r1 ++ (wsX10_tongue_r2 ++ wsX10_tongue_r3)) ++ wsX100)
def wsX10_from_r1 : List Cond := [Cond.constantLong RX10 228 (2), Cond.fieldLink RX10 16 "TradeWordsModel" "l" "[I", Cond.fieldLink RX10 25 "TradeWordsModel" "one" "[I", Cond.fieldLink RX10 28 "TradeWordsModel" "two" "[I", Cond.methodLink RX10 49 yX10_in, Cond.static yX10_in, Cond.initialized RX10, Cond.code yX10_in cX10_in 6 (some .boolean), Cond.methodLink RX10 159 yX10_isMeaning, Cond.static yX10_isMeaning, Cond.code yX10_isMeaning cX10_isMeaning 1 (some .boolean), Cond.constantLong RX10 135 (7), Cond.methodLink RX10 230 yX10_earAt, Cond.static yX10_earAt, Cond.code yX10_earAt cX10_earAt 2 (some .int), Cond.methodLink RX10 149 yX10_say, Cond.instanceMethod yX10_say, Cond.selects RX10 yX10_say yX10_say, Cond.code yX10_say cX10_say 8 none, Cond.methodLink RX10 140 yX10_said, Cond.instanceMethod yX10_said, Cond.selects RX10 yX10_said yX10_said, Cond.code yX10_said cX10_said 4 (some .int), Cond.methodLink RX10 137 yX10_has]
def wsX10_from_r2 : List Cond := [Cond.static yX10_has, Cond.code yX10_has cX10_has 2 (some .boolean), Cond.methodLink RX10 129 yX10_wordAt, Cond.static yX10_wordAt, Cond.code yX10_wordAt cX10_wordAt 2 (some .int), Cond.methodLink RX10 153 yX10_likeOf, Cond.instanceMethod yX10_likeOf, Cond.selects RX10 yX10_likeOf yX10_likeOf, Cond.code yX10_likeOf cX10_likeOf 2 (some .int), Cond.methodLink RX10 146 yX10_farOf, Cond.instanceMethod yX10_farOf, Cond.selects RX10 yX10_farOf yX10_farOf, Cond.code yX10_farOf cX10_farOf 5 (some .int), Cond.fieldLink RX10 31 "TradeWordsModel" "ways" "[I", Cond.methodLink RX10 143 yX10_least, Cond.static yX10_least, Cond.code yX10_least cX10_least 2 (some .int)]
def wsX10_from : List Cond := .code yX10_from cX10_from 7 (some .int) :: ((wsX10_from_r1 ++ wsX10_from_r2) ++ wsX100)
def wsX10_chance_r1 : List Cond := [Cond.constantLong RX10 228 (2), Cond.fieldLink RX10 16 "TradeWordsModel" "l" "[I", Cond.fieldLink RX10 25 "TradeWordsModel" "one" "[I", Cond.fieldLink RX10 28 "TradeWordsModel" "two" "[I", Cond.methodLink RX10 49 yX10_in, Cond.static yX10_in, Cond.initialized RX10, Cond.code yX10_in cX10_in 6 (some .boolean), Cond.methodLink RX10 230 yX10_earAt, Cond.static yX10_earAt, Cond.code yX10_earAt cX10_earAt 2 (some .int), Cond.methodLink RX10 129 yX10_wordAt, Cond.static yX10_wordAt, Cond.code yX10_wordAt cX10_wordAt 2 (some .int), Cond.methodLink RX10 149 yX10_say, Cond.instanceMethod yX10_say, Cond.selects RX10 yX10_say yX10_say, Cond.code yX10_say cX10_say 8 none, Cond.methodLink RX10 140 yX10_said, Cond.instanceMethod yX10_said, Cond.selects RX10 yX10_said yX10_said, Cond.code yX10_said cX10_said 4 (some .int), Cond.methodLink RX10 137 yX10_has, Cond.static yX10_has]
def wsX10_chance_r2 : List Cond := [Cond.code yX10_has cX10_has 2 (some .boolean), Cond.methodLink RX10 153 yX10_likeOf, Cond.instanceMethod yX10_likeOf, Cond.selects RX10 yX10_likeOf yX10_likeOf, Cond.code yX10_likeOf cX10_likeOf 2 (some .int), Cond.methodLink RX10 146 yX10_farOf, Cond.instanceMethod yX10_farOf, Cond.selects RX10 yX10_farOf yX10_farOf, Cond.code yX10_farOf cX10_farOf 5 (some .int), Cond.fieldLink RX10 31 "TradeWordsModel" "ways" "[I", Cond.methodLink RX10 143 yX10_least, Cond.static yX10_least, Cond.code yX10_least cX10_least 2 (some .int)]
def wsX10_chance : List Cond := .code yX10_chance cX10_chance 8 (some .int) :: ((wsX10_chance_r1 ++ wsX10_chance_r2) ++ wsX100)
def wsX10_joined_r1 : List Cond := [Cond.fieldLink RX10 16 "TradeWordsModel" "l" "[I", Cond.fieldLink RX10 25 "TradeWordsModel" "one" "[I", Cond.fieldLink RX10 28 "TradeWordsModel" "two" "[I", Cond.methodLink RX10 159 yX10_isMeaning, Cond.static yX10_isMeaning, Cond.initialized RX10, Cond.code yX10_isMeaning cX10_isMeaning 1 (some .boolean), Cond.constantLong RX10 135 (7), Cond.methodLink RX10 49 yX10_in, Cond.static yX10_in, Cond.code yX10_in cX10_in 6 (some .boolean), Cond.methodLink RX10 230 yX10_earAt, Cond.static yX10_earAt, Cond.code yX10_earAt cX10_earAt 2 (some .int), Cond.methodLink RX10 149 yX10_say, Cond.instanceMethod yX10_say, Cond.selects RX10 yX10_say yX10_say, Cond.code yX10_say cX10_say 8 none, Cond.methodLink RX10 140 yX10_said, Cond.instanceMethod yX10_said, Cond.selects RX10 yX10_said yX10_said, Cond.code yX10_said cX10_said 4 (some .int), Cond.methodLink RX10 137 yX10_has, Cond.static yX10_has]
def wsX10_joined_r2 : List Cond := [Cond.code yX10_has cX10_has 2 (some .boolean), Cond.methodLink RX10 146 yX10_farOf, Cond.instanceMethod yX10_farOf, Cond.selects RX10 yX10_farOf yX10_farOf, Cond.code yX10_farOf cX10_farOf 5 (some .int), Cond.fieldLink RX10 31 "TradeWordsModel" "ways" "[I", Cond.methodLink RX10 143 yX10_least, Cond.static yX10_least, Cond.code yX10_least cX10_least 2 (some .int)]
def wsX10_joined : List Cond := .code yX10_joined cX10_joined 7 (some .int) :: ((wsX10_joined_r1 ++ wsX10_joined_r2) ++ wsX100)
def wsX10_hear : List Cond := .code yX10_hear cX10_hear 7 (some .int) :: ([.constantLong RX10 201 (1000)])
def wsX10_children : List Cond := .code yX10_children cX10_children 6 (some .int) :: ([.constantLong RX10 201 (1000), .constantLong RX10 233 (3), .constantLong RX10 235 (20), .methodLink RX10 49 yX10_in, .static yX10_in, .initialized RX10, .code yX10_in cX10_in 6 (some .boolean), .methodLink RX10 237 yX10_hear, .static yX10_hear, .code yX10_hear cX10_hear 7 (some .int)])
def wsX10_even : List Cond := .code yX10_even cX10_even 5 (some .int) :: ([.constantLong RX10 201 (1000), .constantLong RX10 233 (3), .methodLink RX10 49 yX10_in, .static yX10_in, .initialized RX10, .code yX10_in cX10_in 6 (some .boolean), .methodLink RX10 237 yX10_hear, .static yX10_hear, .code yX10_hear cX10_hear 7 (some .int)])
def wsX10_canSay : List Cond := .code yX10_canSay cX10_canSay 6 (some .boolean) :: ([.fieldLink RX10 16 "TradeWordsModel" "l" "[I", .methodLink RX10 137 yX10_has, .static yX10_has, .initialized RX10, .code yX10_has cX10_has 2 (some .boolean)] ++ wsX100)
def wsX10_isEnoughFor : List Cond := .code yX10_isEnoughFor cX10_isEnoughFor 5 (some .boolean) :: ([.fieldLink RX10 16 "TradeWordsModel" "l" "[I", .methodLink RX10 137 yX10_has, .static yX10_has, .initialized RX10, .code yX10_has cX10_has 2 (some .boolean), .methodLink RX10 240 yX10_canSay, .instanceMethod yX10_canSay, .selects RX10 yX10_canSay yX10_canSay, .code yX10_canSay cX10_canSay 6 (some .boolean)] ++ wsX100)
def wsX10_fewest : List Cond := .code yX10_fewest cX10_fewest 4 (some .int) :: ([.methodLink RX10 49 yX10_in, .static yX10_in, .initialized RX10, .code yX10_in cX10_in 6 (some .boolean), .methodLink RX10 125 yX10_ones, .static yX10_ones, .code yX10_ones cX10_ones 3 (some .int), .methodLink RX10 243 yX10_isEnoughFor, .instanceMethod yX10_isEnoughFor, .selects RX10 yX10_isEnoughFor yX10_isEnoughFor, .code yX10_isEnoughFor cX10_isEnoughFor 5 (some .boolean), .fieldLink RX10 16 "TradeWordsModel" "l" "[I", .methodLink RX10 137 yX10_has, .static yX10_has, .code yX10_has cX10_has 2 (some .boolean), .methodLink RX10 240 yX10_canSay, .instanceMethod yX10_canSay, .selects RX10 yX10_canSay yX10_canSay, .code yX10_canSay cX10_canSay 6 (some .boolean)] ++ wsX100)
def wsX10_both : List Cond := .code yX10_both cX10_both 1 (some .int) :: ([.fieldLink RX10 16 "TradeWordsModel" "l" "[I"] ++ wsX100)
def wsX10_lost : List Cond := .code yX10_lost cX10_lost 7 (some .int) :: ([.fieldLink RX10 16 "TradeWordsModel" "l" "[I", .methodLink RX10 49 yX10_in, .static yX10_in, .initialized RX10, .code yX10_in cX10_in 6 (some .boolean), .methodLink RX10 129 yX10_wordAt, .static yX10_wordAt, .code yX10_wordAt cX10_wordAt 2 (some .int), .methodLink RX10 140 yX10_said, .instanceMethod yX10_said, .selects RX10 yX10_said yX10_said, .code yX10_said cX10_said 4 (some .int), .methodLink RX10 137 yX10_has, .static yX10_has, .code yX10_has cX10_has 2 (some .boolean)] ++ wsX100)
def wsX10_keep : List Cond := .code yX10_keep cX10_keep 2 (some .int) :: ([.fieldLink RX10 119 "TradeWordsModel" "keptMany" "I", .fieldLink RX10 22 "TradeWordsModel" "kept" "[I", .fieldLink RX10 19 "TradeWordsModel" "stands" "[I"] ++ wsX100)
def wsX10_back : List Cond := .code yX10_back cX10_back 2 (some .int) :: ([.fieldLink RX10 119 "TradeWordsModel" "keptMany" "I", .fieldLink RX10 19 "TradeWordsModel" "stands" "[I", .fieldLink RX10 22 "TradeWordsModel" "kept" "[I"] ++ wsX100)
def wsX10_count : List Cond := .code yX10_count cX10_count 2 (some .int) :: ([.fieldLink RX10 53 "TradeWordsModel" "size" "I", .fieldLink RX10 16 "TradeWordsModel" "l" "[I", .fieldLink RX10 119 "TradeWordsModel" "keptMany" "I", .methodLink RX10 122 yX10_toldSet, .instanceMethod yX10_toldSet, .selects RX10 yX10_toldSet yX10_toldSet, .initialized RX10, .code yX10_toldSet cX10_toldSet 3 (some .int), .methodLink RX10 132 yX10_isTold, .instanceMethod yX10_isTold, .selects RX10 yX10_isTold yX10_isTold, .code yX10_isTold cX10_isTold 2 (some .boolean), .methodLink RX10 129 yX10_wordAt, .static yX10_wordAt, .code yX10_wordAt cX10_wordAt 2 (some .int), .methodLink RX10 125 yX10_ones, .static yX10_ones, .code yX10_ones cX10_ones 3 (some .int)] ++ wsX100)
def wsJ9_max_7cf53 : List Cond := .code yJ9_max_7cf53 cJ9_max_7cf53 2 (some .int) :: ([])
def wsJ9_min_7cf53 : List Cond := .code yJ9_min_7cf53 cJ9_min_7cf53 2 (some .int) :: ([])
def wsL_law_r1 : List Cond := [Cond.classLink RL 7 RX9, Cond.instantiable RX9 7, Cond.initialized RX9, Cond.classLink RL 10 RX10, Cond.instantiable RX10 13, Cond.initialized RX10, Cond.constantLong RL 13 (4294967295), Cond.methodLink RL 9 yX9_init, Cond.instanceMethod yX9_init, Cond.code yX9_init cX9_init 1 none, Cond.methodLink RX9 1 objectInit, Cond.instanceMethod objectInit, Cond.code objectInit ⟨#[0xb1]⟩ 1 none, Cond.classLink RX9 7 RX7, Cond.instantiable RX7 2, Cond.initialized RX7, Cond.fieldLink RX9 10 "TradeWords" "text" "LTradeWords$Text;", Cond.classLink RX9 16 RX2, Cond.instantiable RX2 6, Cond.initialized RX2, Cond.fieldLink RX9 21 "TradeWords" "item" "LTradeWords$Item;", Cond.classLink RX9 25 RX6, Cond.instantiable RX6 3, Cond.initialized RX6]
def wsL_law_r2 : List Cond := [Cond.fieldLink RX9 28 "TradeWords" "stands" "LTradeWords$Stands;", Cond.classLink RX9 32 RX1, Cond.instantiable RX1 7, Cond.initialized RX1, Cond.fieldLink RX9 35 "TradeWords" "crowd" "LTradeWords$Crowd;", Cond.classLink RX9 39 RX3, Cond.instantiable RX3 1, Cond.initialized RX3, Cond.fieldLink RX9 42 "TradeWords" "measure" "LTradeWords$Measure;", Cond.classLink RX9 46 RX0, Cond.instantiable RX0 9, Cond.initialized RX0, Cond.fieldLink RX9 49 "TradeWords" "laid" "LTradeWords$Beach;", Cond.fieldLink RX9 53 "TradeWords" "tried" "LTradeWords$Beach;", Cond.instanceMethod yX7_init, Cond.code yX7_init cX7_init 1 none, Cond.methodLink RX7 3 objectInit, Cond.arrayClass .byte, Cond.fieldLink RX7 9 "TradeWords$Text" "bytes" "[B", Cond.methodLink RX9 18 yX2_init, Cond.instanceMethod yX2_init, Cond.code yX2_init cX2_init 2 none, Cond.methodLink RX2 3 objectInit, Cond.arrayClass .int]
def wsL_law_r3 : List Cond := [Cond.fieldLink RX2 9 "TradeWords$Item" "numbers" "[I", Cond.fieldLink RX2 15 "TradeWords$Item" "text" "LTradeWords$Text;", Cond.instanceMethod yX6_init, Cond.code yX6_init cX6_init 1 none, Cond.methodLink RX6 3 objectInit, Cond.fieldLink RX6 11 "TradeWords$Stands" "others" "[I", Cond.fieldLink RX6 15 "TradeWords$Stands" "keptOthers" "[I", Cond.instanceMethod yX1_init, Cond.code yX1_init cX1_init 1 none, Cond.methodLink RX1 3 objectInit, Cond.arrayClass .long, Cond.fieldLink RX1 11 "TradeWords$Crowd" "now" "[J", Cond.fieldLink RX1 15 "TradeWords$Crowd" "next" "[J", Cond.fieldLink RX1 18 "TradeWords$Crowd" "a" "I", Cond.fieldLink RX1 22 "TradeWords$Crowd" "b" "I", Cond.instanceMethod yX3_init, Cond.code yX3_init cX3_init 1 none, Cond.methodLink RX3 3 objectInit, Cond.fieldLink RX3 9 "TradeWords$Measure" "row" "[I", Cond.methodLink RX9 48 yX0_init, Cond.instanceMethod yX0_init, Cond.code yX0_init cX0_init 1 none, Cond.methodLink RX0 3 objectInit, Cond.fieldLink RX0 9 "TradeWords$Beach" "words" "[I"]
def wsL_law_r4 : List Cond := [Cond.fieldLink RX0 15 "TradeWords$Beach" "heard" "[I", Cond.fieldLink RX0 18 "TradeWords$Beach" "canSay" "[I", Cond.fieldLink RX0 21 "TradeWords$Beach" "instead" "[I", Cond.fieldLink RX0 24 "TradeWords$Beach" "traders" "[I", Cond.fieldLink RX0 27 "TradeWords$Beach" "takes" "[I", Cond.classLink RX0 30 RX4, Cond.instantiable RX4 5, Cond.initialized RX4, Cond.fieldLink RX0 33 "TradeWords$Beach" "needs" "LTradeWords$Needs;", Cond.instanceMethod yX4_init, Cond.code yX4_init cX4_init 1 none, Cond.methodLink RX4 3 objectInit, Cond.fieldLink RX4 9 "TradeWords$Needs" "joinedMeaning" "[I", Cond.fieldLink RX4 15 "TradeWords$Needs" "joinedPair" "[I", Cond.methodLink RX0 37 yX0_clear, Cond.instanceMethod yX0_clear, Cond.selects RX0 yX0_clear yX0_clear, Cond.code yX0_clear cX0_clear 1 none, Cond.constant RX0 48 (65535), Cond.fieldLink RX0 50 "TradeWords$Beach" "speaks" "I", Cond.fieldLink RX0 54 "TradeWords$Beach" "alikeFrom" "I", Cond.methodLink RX0 42 yJ7_fill_53178, Cond.static yJ7_fill_53178, Cond.initialized RJ7]
def wsL_law_r5 : List Cond := [Cond.code yJ7_fill_53178 cJ7_fill_53178 4 none, Cond.methodLink RX0 49 yX4_clear, Cond.instanceMethod yX4_clear, Cond.selects RX4 yX4_clear yX4_clear, Cond.code yX4_clear cX4_clear 1 none, Cond.fieldLink RX4 18 "TradeWords$Needs" "joinedTold" "I", Cond.fieldLink RX4 22 "TradeWords$Needs" "needsTold" "I", Cond.fieldLink RX4 25 "TradeWords$Needs" "needed" "I", Cond.methodLink RL 12 yX10_init, Cond.instanceMethod yX10_init, Cond.code yX10_init cX10_init 1 none, Cond.methodLink RX10 1 objectInit, Cond.fieldLink RX10 7 "TradeWordsModel" "text" "[I", Cond.fieldLink RX10 13 "TradeWordsModel" "read" "[I", Cond.fieldLink RX10 16 "TradeWordsModel" "l" "[I", Cond.fieldLink RX10 19 "TradeWordsModel" "stands" "[I", Cond.fieldLink RX10 22 "TradeWordsModel" "kept" "[I", Cond.fieldLink RX10 25 "TradeWordsModel" "one" "[I", Cond.fieldLink RX10 28 "TradeWordsModel" "two" "[I", Cond.fieldLink RX10 31 "TradeWordsModel" "ways" "[I", Cond.fieldLink RX10 34 "TradeWordsModel" "now" "[J", Cond.fieldLink RX10 38 "TradeWordsModel" "then" "[J", Cond.methodLink RX10 41 yX10_begin, Cond.instanceMethod yX10_begin]
def wsL_law_r6 : List Cond := [Cond.selects RX10 yX10_begin yX10_begin, Cond.code yX10_begin cX10_begin 2 none, Cond.constant RX10 59 (65535), Cond.methodLink RX10 44 yX10_layRead, Cond.instanceMethod yX10_layRead, Cond.selects RX10 yX10_layRead yX10_layRead, Cond.code yX10_layRead cX10_layRead 2 none, Cond.methodLink RL 15 yX9_write, Cond.instanceMethod yX9_write, Cond.selects RX9 yX9_write yX9_write, Cond.code yX9_write cX9_write 5 (some .int), Cond.methodLink RX9 56 yX7_length, Cond.instanceMethod yX7_length, Cond.selects RX7 yX7_length yX7_length, Cond.code yX7_length cX7_length 1 (some .int), Cond.fieldLink RX7 15 "TradeWords$Text" "length" "I", Cond.methodLink RX9 60 yX7_append, Cond.instanceMethod yX7_append, Cond.selects RX7 yX7_append yX7_append, Cond.code yX7_append cX7_append 2 none, Cond.methodLink RL 19 yX10_write, Cond.instanceMethod yX10_write, Cond.selects RX10 yX10_write yX10_write, Cond.code yX10_write cX10_write 5 (some .int)]
def wsL_law_r7 : List Cond := [Cond.constantLong RX10 47 (8), Cond.fieldLink RX10 53 "TradeWordsModel" "size" "I", Cond.constantLong RX10 57 (255), Cond.methodLink RX10 49 yX10_in, Cond.static yX10_in, Cond.code yX10_in cX10_in 6 (some .boolean), Cond.methodLink RL 20 yX9_wipe, Cond.instanceMethod yX9_wipe, Cond.selects RX9 yX9_wipe yX9_wipe, Cond.code yX9_wipe cX9_wipe 2 (some .int), Cond.methodLink RX9 64 yX7_clear, Cond.instanceMethod yX7_clear, Cond.selects RX7 yX7_clear yX7_clear, Cond.code yX7_clear cX7_clear 1 none, Cond.methodLink RL 24 yX10_wipe, Cond.instanceMethod yX10_wipe, Cond.selects RX10 yX10_wipe yX10_wipe, Cond.code yX10_wipe cX10_wipe 2 (some .int), Cond.methodLink RL 25 yX9_fault, Cond.instanceMethod yX9_fault, Cond.selects RX9 yX9_fault yX9_fault, Cond.code yX9_fault cX9_fault 1 (some .int), Cond.methodLink RX9 67 yX9_tryText, Cond.instanceMethod yX9_tryText]
def wsL_law_r8 : List Cond := [Cond.selects RX9 yX9_tryText yX9_tryText, Cond.code yX9_tryText cX9_tryText 3 (some .int), Cond.methodLink RX9 244 yX0_clear, Cond.methodLink RX9 245 yX2_readAt, Cond.instanceMethod yX2_readAt, Cond.selects RX2 yX2_readAt yX2_readAt, Cond.code yX2_readAt cX2_readAt 2 (some .boolean), Cond.fieldLink RX2 19 "TradeWords$Item" "place" "I", Cond.fieldLink RX2 29 "TradeWords$Item" "letter" "I", Cond.methodLink RX2 23 yX7_at, Cond.instanceMethod yX7_at, Cond.selects RX7 yX7_at yX7_at, Cond.code yX7_at cX7_at 2 (some .int), Cond.methodLink RX2 32 yX2_readTold, Cond.instanceMethod yX2_readTold, Cond.selects RX2 yX2_readTold yX2_readTold, Cond.code yX2_readTold cX2_readTold 1 (some .boolean), Cond.fieldLink RX2 45 "TradeWords$Item" "word" "I", Cond.methodLink RX2 51 yX2_readNumbers, Cond.instanceMethod yX2_readNumbers, Cond.selects RX2 yX2_readNumbers yX2_readNumbers, Cond.code yX2_readNumbers cX2_readNumbers 3 (some .boolean), Cond.methodLink RX2 58 yX2_readNumber, Cond.instanceMethod yX2_readNumber]
def wsL_law_r9 : List Cond := [Cond.selects RX2 yX2_readNumber yX2_readNumber, Cond.code yX2_readNumber cX2_readNumber 5 (some .boolean), Cond.methodLink RX2 80 yX2_isFigure, Cond.static yX2_isFigure, Cond.code yX2_isFigure cX2_isFigure 1 (some .boolean), Cond.methodLink RX2 83 yX5_put, Cond.static yX5_put, Cond.initialized RX5, Cond.code yX5_put cX5_put 3 none, Cond.methodLink RX2 36 yX2_passes, Cond.instanceMethod yX2_passes, Cond.selects RX2 yX2_passes yX2_passes, Cond.code yX2_passes cX2_passes 2 (some .boolean), Cond.methodLink RX2 55 yX2_readWord, Cond.instanceMethod yX2_readWord, Cond.selects RX2 yX2_readWord yX2_readWord, Cond.code yX2_readWord cX2_readWord 3 (some .boolean), Cond.methodLink RX2 87 yX8_with, Cond.static yX8_with, Cond.initialized RX8, Cond.code yX8_with cX8_with 3 (some .int), Cond.methodLink RX8 9 yX8_length, Cond.static yX8_length, Cond.code yX8_length cX8_length 1 (some .int)]
def wsL_law_r10 : List Cond := [Cond.methodLink RX2 62 yX2_readRising, Cond.instanceMethod yX2_readRising, Cond.selects RX2 yX2_readRising yX2_readRising, Cond.code yX2_readRising cX2_readRising 6 (some .boolean), Cond.fieldLink RX2 48 "TradeWords$Item" "bits" "I", Cond.methodLink RX2 65 yX8_length, Cond.methodLink RX2 70 yX8_soundAt, Cond.static yX8_soundAt, Cond.code yX8_soundAt cX8_soundAt 2 (some .int), Cond.methodLink RX2 74 yX2_readJoined, Cond.instanceMethod yX2_readJoined, Cond.selects RX2 yX2_readJoined yX2_readJoined, Cond.code yX2_readJoined cX2_readJoined 1 (some .boolean), Cond.methodLink RX2 77 yX2_number, Cond.instanceMethod yX2_number, Cond.selects RX2 yX2_number yX2_number, Cond.code yX2_number cX2_number 2 (some .int), Cond.methodLink RX2 40 yX5_at, Cond.static yX5_at, Cond.code yX5_at cX5_at 2 (some .int), Cond.methodLink RX9 248 yX0_accepts, Cond.instanceMethod yX0_accepts, Cond.selects RX0 yX0_accepts yX0_accepts, Cond.code yX0_accepts cX0_accepts 4 (some .boolean)]
def wsL_law_r11 : List Cond := [Cond.methodLink RX0 57 yX2_number, Cond.methodLink RX0 63 yX2_letter, Cond.instanceMethod yX2_letter, Cond.selects RX2 yX2_letter yX2_letter, Cond.code yX2_letter cX2_letter 1 (some .int), Cond.methodLink RX0 67 yX0_wordPlace, Cond.static yX0_wordPlace, Cond.code yX0_wordPlace cX0_wordPlace 2 (some .int), Cond.methodLink RX0 71 yX2_spelled, Cond.instanceMethod yX2_spelled, Cond.selects RX2 yX2_spelled yX2_spelled, Cond.code yX2_spelled cX2_spelled 1 (some .int), Cond.methodLink RX0 74 yX5_put, Cond.methodLink RX0 80 yX0_heardPlace, Cond.static yX0_heardPlace, Cond.code yX0_heardPlace cX0_heardPlace 2 (some .int), Cond.methodLink RX0 83 yX2_bits, Cond.instanceMethod yX2_bits, Cond.selects RX2 yX2_bits yX2_bits, Cond.code yX2_bits cX2_bits 1 (some .int), Cond.methodLink RX0 86 yX0_tellExchange, Cond.instanceMethod yX0_tellExchange, Cond.selects RX0 yX0_tellExchange yX0_tellExchange, Cond.code yX0_tellExchange cX0_tellExchange 2 none]
def wsL_law_r12 : List Cond := [Cond.methodLink RX0 101 yX8_soundAt, Cond.methodLink RX0 90 yX0_tellPair, Cond.static yX0_tellPair, Cond.code yX0_tellPair cX0_tellPair 3 none, Cond.methodLink RX0 93 yX4_tellJoined, Cond.instanceMethod yX4_tellJoined, Cond.selects RX4 yX4_tellJoined yX4_tellJoined, Cond.code yX4_tellJoined cX4_tellJoined 3 (some .boolean), Cond.methodLink RX4 28 yX5_put, Cond.methodLink RX0 97 yX4_tellNeed, Cond.instanceMethod yX4_tellNeed, Cond.selects RX4 yX4_tellNeed yX4_tellNeed, Cond.code yX4_tellNeed cX4_tellNeed 2 (some .boolean), Cond.methodLink RX9 252 yX2_behind, Cond.instanceMethod yX2_behind, Cond.selects RX2 yX2_behind yX2_behind, Cond.code yX2_behind cX2_behind 1 (some .int), Cond.methodLink RL 28 yX10_fault, Cond.instanceMethod yX10_fault, Cond.selects RX10 yX10_fault yX10_fault, Cond.code yX10_fault cX10_fault 2 (some .int), Cond.fieldLink RX10 60 "TradeWordsModel" "at" "I", Cond.methodLink RX10 113 yX10_item, Cond.instanceMethod yX10_item]
def wsL_law_r13 : List Cond := [Cond.selects RX10 yX10_item yX10_item, Cond.code yX10_item cX10_item 2 (some .boolean), Cond.methodLink RX10 63 yX10_byteAt, Cond.instanceMethod yX10_byteAt, Cond.selects RX10 yX10_byteAt yX10_byteAt, Cond.code yX10_byteAt cX10_byteAt 1 (some .int), Cond.methodLink RX10 89 yX10_wordItem, Cond.instanceMethod yX10_wordItem, Cond.selects RX10 yX10_wordItem yX10_wordItem, Cond.code yX10_wordItem cX10_wordItem 5 (some .boolean), Cond.methodLink RX10 76 yX10_number, Cond.instanceMethod yX10_number, Cond.selects RX10 yX10_number yX10_number, Cond.code yX10_number cX10_number 5 (some .int), Cond.constantLong RX10 67 (48), Cond.constantLong RX10 69 (57), Cond.methodLink RX10 80 yX10_takes, Cond.instanceMethod yX10_takes, Cond.selects RX10 yX10_takes yX10_takes, Cond.code yX10_takes cX10_takes 3 (some .boolean), Cond.methodLink RX10 84 yX10_word, Cond.instanceMethod yX10_word, Cond.selects RX10 yX10_word yX10_word, Cond.code yX10_word cX10_word 4 (some .boolean)]
def wsL_law_r14 : List Cond := [Cond.methodLink RX10 73 yX10_sound, Cond.instanceMethod yX10_sound, Cond.selects RX10 yX10_sound yX10_sound, Cond.code yX10_sound cX10_sound 2 (some .int), Cond.constantLong RX10 71 (15), Cond.methodLink RX10 93 yX10_soundsItem, Cond.instanceMethod yX10_soundsItem, Cond.selects RX10 yX10_soundsItem yX10_soundsItem, Cond.code yX10_soundsItem cX10_soundsItem 4 (some .boolean), Cond.methodLink RX10 97 yX10_placeItem, Cond.instanceMethod yX10_placeItem, Cond.selects RX10 yX10_placeItem yX10_placeItem, Cond.code yX10_placeItem cX10_placeItem 3 (some .boolean), Cond.methodLink RX10 100 yX10_pairItem, Cond.instanceMethod yX10_pairItem, Cond.selects RX10 yX10_pairItem yX10_pairItem, Cond.code yX10_pairItem cX10_pairItem 4 (some .boolean), Cond.methodLink RX10 104 yX10_oneItem, Cond.instanceMethod yX10_oneItem, Cond.selects RX10 yX10_oneItem yX10_oneItem, Cond.code yX10_oneItem cX10_oneItem 4 (some .boolean), Cond.methodLink RX10 107 yX10_joinItem, Cond.instanceMethod yX10_joinItem, Cond.selects RX10 yX10_joinItem yX10_joinItem]
def wsL_law_r15 : List Cond := [Cond.code yX10_joinItem cX10_joinItem 3 (some .boolean), Cond.methodLink RX10 110 yX10_needItem, Cond.instanceMethod yX10_needItem, Cond.selects RX10 yX10_needItem yX10_needItem, Cond.code yX10_needItem cX10_needItem 3 (some .boolean), Cond.constantLong RX10 87 (55), Cond.methodLink RL 29 yX9_lay, Cond.instanceMethod yX9_lay, Cond.selects RX9 yX9_lay yX9_lay, Cond.code yX9_lay cX9_lay 2 (some .int), Cond.methodLink RX9 70 yX6_clear, Cond.instanceMethod yX6_clear, Cond.selects RX6 yX6_clear yX6_clear, Cond.code yX6_clear cX6_clear 1 none, Cond.fieldLink RX6 24 "TradeWords$Stands" "kept" "I", Cond.methodLink RX6 18 yJ7_fill_53178, Cond.methodLink RX9 71 yX9_toldMeanings, Cond.instanceMethod yX9_toldMeanings, Cond.selects RX9 yX9_toldMeanings yX9_toldMeanings, Cond.code yX9_toldMeanings cX9_toldMeanings 3 (some .int), Cond.methodLink RX9 99 yX0_isTold, Cond.instanceMethod yX0_isTold, Cond.selects RX0 yX0_isTold yX0_isTold, Cond.code yX0_isTold cX0_isTold 2 (some .boolean)]
def wsL_law_r16 : List Cond := [Cond.methodLink RX0 108 yX0_wordOf, Cond.instanceMethod yX0_wordOf, Cond.selects RX0 yX0_wordOf yX0_wordOf, Cond.code yX0_wordOf cX0_wordOf 3 (some .int), Cond.methodLink RX0 104 yX5_at, Cond.methodLink RL 32 yX10_lay, Cond.instanceMethod yX10_lay, Cond.selects RX10 yX10_lay yX10_lay, Cond.code yX10_lay cX10_lay 2 (some .int), Cond.fieldLink RX10 119 "TradeWordsModel" "keptMany" "I", Cond.methodLink RX10 116 yX10_fault, Cond.methodLink RX10 122 yX10_toldSet, Cond.instanceMethod yX10_toldSet, Cond.selects RX10 yX10_toldSet yX10_toldSet, Cond.code yX10_toldSet cX10_toldSet 3 (some .int), Cond.methodLink RX10 132 yX10_isTold, Cond.instanceMethod yX10_isTold, Cond.selects RX10 yX10_isTold yX10_isTold, Cond.code yX10_isTold cX10_isTold 2 (some .boolean), Cond.methodLink RX10 129 yX10_wordAt, Cond.static yX10_wordAt, Cond.code yX10_wordAt cX10_wordAt 2 (some .int), Cond.methodLink RX10 125 yX10_ones, Cond.static yX10_ones]
def wsL_law_r17 : List Cond := [Cond.code yX10_ones cX10_ones 3 (some .int), Cond.methodLink RL 33 yX9_word, Cond.instanceMethod yX9_word, Cond.selects RX9 yX9_word yX9_word, Cond.code yX9_word cX9_word 6 (some .int), Cond.methodLink RX9 74 yX9_isPeople, Cond.static yX9_isPeople, Cond.code yX9_isPeople cX9_isPeople 1 (some .boolean), Cond.methodLink RX9 78 yX9_isMeaning, Cond.static yX9_isMeaning, Cond.code yX9_isMeaning cX9_isMeaning 1 (some .boolean), Cond.methodLink RX9 81 yX0_wordOf, Cond.methodLink RX9 85 yX0_saidBy, Cond.instanceMethod yX0_saidBy, Cond.selects RX0 yX0_saidBy yX0_saidBy, Cond.code yX0_saidBy cX0_saidBy 6 (some .int), Cond.methodLink RX0 111 yX8_length, Cond.methodLink RX0 114 yX0_soundSaidBy, Cond.instanceMethod yX0_soundSaidBy, Cond.selects RX0 yX0_soundSaidBy yX0_soundSaidBy, Cond.code yX0_soundSaidBy cX0_soundSaidBy 5 (some .int), Cond.methodLink RX0 117 yX8_with, Cond.methodLink RX9 88 yX8_length, Cond.methodLink RX9 93 yX8_soundAt]
def wsL_law_r18 : List Cond := [Cond.methodLink RL 37 yX10_word_, Cond.instanceMethod yX10_word_, Cond.selects RX10 yX10_word_ yX10_word_, Cond.code yX10_word_ cX10_word_ 5 (some .int), Cond.constantLong RX10 162 (-1), Cond.constantLong RX10 164 (5), Cond.methodLink RX10 159 yX10_isMeaning, Cond.static yX10_isMeaning, Cond.code yX10_isMeaning cX10_isMeaning 1 (some .boolean), Cond.constantLong RX10 135 (7), Cond.methodLink RX10 149 yX10_say, Cond.instanceMethod yX10_say, Cond.selects RX10 yX10_say yX10_say, Cond.code yX10_say cX10_say 8 none, Cond.methodLink RX10 140 yX10_said, Cond.instanceMethod yX10_said, Cond.selects RX10 yX10_said yX10_said, Cond.code yX10_said cX10_said 4 (some .int), Cond.methodLink RX10 137 yX10_has, Cond.static yX10_has, Cond.code yX10_has cX10_has 2 (some .boolean), Cond.methodLink RL 38 yX9_far, Cond.instanceMethod yX9_far, Cond.selects RX9 yX9_far yX9_far]
def wsL_law_r19 : List Cond := [Cond.code yX9_far cX9_far 7 (some .int), Cond.methodLink RX9 96 yX3_apart, Cond.instanceMethod yX3_apart, Cond.selects RX3 yX3_apart yX3_apart, Cond.code yX3_apart cX3_apart 8 (some .int), Cond.methodLink RX3 21 Lib.Math.min.name, Cond.static Lib.Math.min.name, Cond.initialized "java/lang/Math", Cond.code Lib.Math.min.name Lib.Math.min.code 2 (some .int), Cond.methodLink RX3 15 yX8_length, Cond.methodLink RX3 27 yX8_soundAt, Cond.methodLink RL 41 yX10_far, Cond.instanceMethod yX10_far, Cond.selects RX10 yX10_far yX10_far, Cond.code yX10_far cX10_far 5 (some .int), Cond.methodLink RX10 146 yX10_farOf, Cond.instanceMethod yX10_farOf, Cond.selects RX10 yX10_farOf yX10_farOf, Cond.code yX10_farOf cX10_farOf 5 (some .int), Cond.methodLink RX10 143 yX10_least, Cond.static yX10_least, Cond.code yX10_least cX10_least 2 (some .int), Cond.methodLink RL 42 yX9_like, Cond.instanceMethod yX9_like]
def wsL_law_r20 : List Cond := [Cond.selects RX9 yX9_like yX9_like, Cond.code yX9_like cX9_like 2 (some .int), Cond.methodLink RX9 102 yX9_likeOfMeaning, Cond.instanceMethod yX9_likeOfMeaning, Cond.selects RX9 yX9_likeOfMeaning yX9_likeOfMeaning, Cond.code yX9_likeOfMeaning cX9_likeOfMeaning 2 (some .int), Cond.methodLink RX9 199 yX3_likeness, Cond.instanceMethod yX3_likeness, Cond.selects RX3 yX3_likeness yX3_likeness, Cond.code yX3_likeness cX3_likeness 4 (some .int), Cond.methodLink RX3 30 Lib.Math.max.name, Cond.static Lib.Math.max.name, Cond.code Lib.Math.max.name Lib.Math.max.code 2 (some .int), Cond.methodLink RX3 33 yX3_apart, Cond.methodLink RL 46 yX10_like, Cond.instanceMethod yX10_like, Cond.selects RX10 yX10_like yX10_like, Cond.code yX10_like cX10_like 2 (some .int), Cond.methodLink RX10 156 yX10_likeFor, Cond.instanceMethod yX10_likeFor, Cond.selects RX10 yX10_likeFor yX10_likeFor, Cond.code yX10_likeFor cX10_likeFor 2 (some .int), Cond.methodLink RX10 153 yX10_likeOf, Cond.instanceMethod yX10_likeOf]
def wsL_law_r21 : List Cond := [Cond.selects RX10 yX10_likeOf yX10_likeOf, Cond.code yX10_likeOf cX10_likeOf 2 (some .int), Cond.methodLink RL 47 yX9_stand, Cond.instanceMethod yX9_stand, Cond.selects RX9 yX9_stand yX9_stand, Cond.code yX9_stand cX9_stand 3 (some .int), Cond.methodLink RX9 105 yX6_of, Cond.instanceMethod yX6_of, Cond.selects RX6 yX6_of yX6_of, Cond.code yX6_of cX6_of 3 (some .int), Cond.methodLink RX6 28 yX5_at, Cond.methodLink RL 51 yX10_stand, Cond.instanceMethod yX10_stand, Cond.selects RX10 yX10_stand yX10_stand, Cond.code yX10_stand cX10_stand 3 (some .int), Cond.methodLink RL 52 yX9_set, Cond.instanceMethod yX9_set, Cond.selects RX9 yX9_set yX9_set, Cond.code yX9_set cX9_set 4 (some .int), Cond.methodLink RX9 108 yX9_isStand, Cond.instanceMethod yX9_isStand, Cond.selects RX9 yX9_isStand yX9_isStand, Cond.code yX9_isStand cX9_isStand 3 (some .boolean), Cond.methodLink RX9 168 yX0_tradersOf]
def wsL_law_r22 : List Cond := [Cond.instanceMethod yX0_tradersOf, Cond.selects RX0 yX0_tradersOf yX0_tradersOf, Cond.code yX0_tradersOf cX0_tradersOf 2 (some .int), Cond.methodLink RX9 112 yX6_put, Cond.instanceMethod yX6_put, Cond.selects RX6 yX6_put yX6_put, Cond.code yX6_put cX6_put 4 none, Cond.methodLink RX6 34 yX5_put, Cond.methodLink RL 56 yX10_set, Cond.instanceMethod yX10_set, Cond.selects RX10 yX10_set yX10_set, Cond.code yX10_set cX10_set 4 (some .int), Cond.methodLink RX10 185 yX10_isStand, Cond.instanceMethod yX10_isStand, Cond.selects RX10 yX10_isStand yX10_isStand, Cond.code yX10_isStand cX10_isStand 3 (some .boolean), Cond.methodLink RL 57 yX9_million, Cond.instanceMethod yX9_million, Cond.selects RX9 yX9_million yX9_million, Cond.code yX9_million cX9_million 5 (some .int), Cond.methodLink RX9 116 yX9_isMeetings, Cond.static yX9_isMeetings, Cond.code yX9_isMeetings cX9_isMeetings 1 (some .boolean), Cond.methodLink RX9 119 yX9_startCrowdAsNow]
def wsL_law_r23 : List Cond := [Cond.instanceMethod yX9_startCrowdAsNow, Cond.selects RX9 yX9_startCrowdAsNow yX9_startCrowdAsNow, Cond.code yX9_startCrowdAsNow cX9_startCrowdAsNow 2 none, Cond.methodLink RX9 148 yX9_isAlike, Cond.instanceMethod yX9_isAlike, Cond.selects RX9 yX9_isAlike yX9_isAlike, Cond.code yX9_isAlike cX9_isAlike 2 (some .boolean), Cond.methodLink RX9 196 yX0_alikeFrom, Cond.instanceMethod yX0_alikeFrom, Cond.selects RX0 yX0_alikeFrom yX0_alikeFrom, Cond.code yX0_alikeFrom cX0_alikeFrom 1 (some .int), Cond.methodLink RX9 151 yX0_speaksOfTen, Cond.instanceMethod yX0_speaksOfTen, Cond.selects RX0 yX0_speaksOfTen yX0_speaksOfTen, Cond.code yX0_speaksOfTen cX0_speaksOfTen 1 (some .int), Cond.methodLink RX9 154 yX0_takesOfTen, Cond.instanceMethod yX0_takesOfTen, Cond.selects RX0 yX0_takesOfTen yX0_takesOfTen, Cond.code yX0_takesOfTen cX0_takesOfTen 2 (some .int), Cond.methodLink RX9 157 yX1_habits, Cond.instanceMethod yX1_habits, Cond.selects RX1 yX1_habits yX1_habits, Cond.code yX1_habits cX1_habits 5 none, Cond.fieldLink RX1 34 "TradeWords$Crowd" "zeroHears" "I"]
def wsL_law_r24 : List Cond := [Cond.fieldLink RX1 37 "TradeWords$Crowd" "oneHears" "I", Cond.methodLink RX9 161 yX1_gather, Cond.instanceMethod yX1_gather, Cond.selects RX1 yX1_gather yX1_gather, Cond.code yX1_gather cX1_gather 3 none, Cond.methodLink RX1 25 Lib.Math.min.name, Cond.methodLink RX1 31 Lib.Math.max.name, Cond.methodLink RX9 165 yX1_begin, Cond.instanceMethod yX1_begin, Cond.selects RX1 yX1_begin yX1_begin, Cond.code yX1_begin cX1_begin 3 none, Cond.constantLong RX1 49 (1000000), Cond.methodLink RX1 40 yJ7_fill_d0a16, Cond.static yJ7_fill_d0a16, Cond.code yJ7_fill_d0a16 cJ7_fill_d0a16 5 none, Cond.methodLink RX1 46 yX1_place, Cond.static yX1_place, Cond.code yX1_place cX1_place 2 (some .int), Cond.methodLink RX1 51 yX5_add, Cond.static yX5_add, Cond.code yX5_add cX5_add 4 none, Cond.methodLink RX9 122 yX1_meet, Cond.instanceMethod yX1_meet, Cond.selects RX1 yX1_meet yX1_meet]
def wsL_law_r25 : List Cond := [Cond.code yX1_meet cX1_meet 4 none, Cond.methodLink RX1 57 yX1_meetOnce, Cond.instanceMethod yX1_meetOnce, Cond.selects RX1 yX1_meetOnce yX1_meetOnce, Cond.code yX1_meetOnce cX1_meetOnce 3 (some .boolean), Cond.fieldLink RX1 61 "TradeWords$Crowd" "moved" "Z", Cond.methodLink RX1 65 arraycopyName, Cond.native arraycopyName, Cond.static arraycopyName, Cond.initialized "java/lang/System", Cond.methodLink RX1 71 yX1_part, Cond.instanceMethod yX1_part, Cond.selects RX1 yX1_part yX1_part, Cond.code yX1_part cX1_part 10 none, Cond.methodLink RX1 75 yX5_at_, Cond.static yX5_at_, Cond.code yX5_at_ cX5_at_ 2 (some .long), Cond.methodLink RX1 83 yX1_go, Cond.instanceMethod yX1_go, Cond.selects RX1 yX1_go yX1_go, Cond.code yX1_go cX1_go 9 none, Cond.constantLong RX1 87 (100), Cond.methodLink RX9 125 yX1_inStand, Cond.instanceMethod yX1_inStand]
def wsL_law_r26 : List Cond := [Cond.selects RX1 yX1_inStand yX1_inStand, Cond.code yX1_inStand cX1_inStand 3 (some .long), Cond.methodLink RL 60 yX10_million, Cond.instanceMethod yX10_million, Cond.selects RX10 yX10_million yX10_million, Cond.code yX10_million cX10_million 5 (some .int), Cond.constantLong RX10 188 (200), Cond.methodLink RX10 190 yX10_goAsTold, Cond.instanceMethod yX10_goAsTold, Cond.selects RX10 yX10_goAsTold yX10_goAsTold, Cond.code yX10_goAsTold cX10_goAsTold 3 none, Cond.methodLink RX10 177 yX10_beginAt, Cond.instanceMethod yX10_beginAt, Cond.selects RX10 yX10_beginAt yX10_beginAt, Cond.code yX10_beginAt cX10_beginAt 4 none, Cond.constantLong RX10 166 (1000000), Cond.methodLink RX10 181 yX10_goOn, Cond.instanceMethod yX10_goOn, Cond.selects RX10 yX10_goOn yX10_goOn, Cond.code yX10_goOn cX10_goOn 9 none, Cond.methodLink RX10 170 yX10_isAlike, Cond.instanceMethod yX10_isAlike, Cond.selects RX10 yX10_isAlike yX10_isAlike, Cond.code yX10_isAlike cX10_isAlike 2 (some .boolean)]
def wsL_law_r27 : List Cond := [Cond.methodLink RX10 173 yX10_meet, Cond.instanceMethod yX10_meet, Cond.selects RX10 yX10_meet yX10_meet, Cond.code yX10_meet cX10_meet 20 none, Cond.constantLong RX10 168 (100), Cond.methodLink RL 61 yX9_won, Cond.instanceMethod yX9_won, Cond.selects RX9 yX9_won yX9_won, Cond.code yX9_won cX9_won 4 (some .int), Cond.methodLink RX9 129 yX1_allSaying, Cond.instanceMethod yX1_allSaying, Cond.selects RX1 yX1_allSaying yX1_allSaying, Cond.code yX1_allSaying cX1_allSaying 2 (some .long), Cond.methodLink RX1 79 yX1_inStand, Cond.methodLink RL 64 yX10_won, Cond.instanceMethod yX10_won, Cond.selects RX10 yX10_won yX10_won, Cond.code yX10_won cX10_won 4 (some .int), Cond.methodLink RX10 193 yX10_wonBy, Cond.instanceMethod yX10_wonBy, Cond.selects RX10 yX10_wonBy yX10_wonBy, Cond.code yX10_wonBy cX10_wonBy 4 (some .long), Cond.methodLink RL 65 yX9_soon, Cond.instanceMethod yX9_soon]
def wsL_law_r28 : List Cond := [Cond.selects RX9 yX9_soon yX9_soon, Cond.code yX9_soon cX9_soon 4 (some .int), Cond.constantLong RX9 136 (10000), Cond.methodLink RX9 133 yX9_isHundredths, Cond.static yX9_isHundredths, Cond.code yX9_isHundredths cX9_isHundredths 1 (some .boolean), Cond.methodLink RX9 138 yX1_meetOnce, Cond.methodLink RL 68 yX10_soon, Cond.instanceMethod yX10_soon, Cond.selects RX10 yX10_soon yX10_soon, Cond.code yX10_soon cX10_soon 4 (some .int), Cond.methodLink RX10 197 yX10_isEnough, Cond.static yX10_isEnough, Cond.code yX10_isEnough cX10_isEnough 3 (some .boolean), Cond.methodLink RL 69 yX9_use, Cond.instanceMethod yX9_use, Cond.selects RX9 yX9_use yX9_use, Cond.code yX9_use cX9_use 3 (some .int), Cond.constantLong RX9 146 (1000), Cond.methodLink RX9 142 yX1_sayingWordZero, Cond.instanceMethod yX1_sayingWordZero, Cond.selects RX1 yX1_sayingWordZero yX1_sayingWordZero, Cond.code yX1_sayingWordZero cX1_sayingWordZero 5 (some .long), Cond.methodLink RL 72 yX10_use]
def wsL_law_r29 : List Cond := [Cond.instanceMethod yX10_use, Cond.selects RX10 yX10_use yX10_use, Cond.code yX10_use cX10_use 7 (some .int), Cond.constantLong RX10 201 (1000), Cond.methodLink RL 73 yX9_traders, Cond.instanceMethod yX9_traders, Cond.selects RX9 yX9_traders yX9_traders, Cond.code yX9_traders cX9_traders 6 (some .int), Cond.methodLink RL 76 yX10_traders, Cond.instanceMethod yX10_traders, Cond.selects RX10 yX10_traders yX10_traders, Cond.code yX10_traders cX10_traders 6 (some .int), Cond.methodLink RL 77 yX9_ready, Cond.instanceMethod yX9_ready, Cond.selects RX9 yX9_ready yX9_ready, Cond.code yX9_ready cX9_ready 7 (some .int), Cond.methodLink RL 80 yX10_ready, Cond.instanceMethod yX10_ready, Cond.selects RX10 yX10_ready yX10_ready, Cond.code yX10_ready cX10_ready 6 (some .int), Cond.methodLink RL 81 yX9_summer, Cond.instanceMethod yX9_summer, Cond.selects RX9 yX9_summer yX9_summer, Cond.code yX9_summer cX9_summer 5 (some .int)]
def wsL_law_r30 : List Cond := [Cond.methodLink RX9 171 yX9_meetByDraw, Cond.instanceMethod yX9_meetByDraw, Cond.selects RX9 yX9_meetByDraw yX9_meetByDraw, Cond.code yX9_meetByDraw cX9_meetByDraw 7 none, Cond.methodLink RX9 265 yX9_draw, Cond.static yX9_draw, Cond.code yX9_draw cX9_draw 6 (some .int), Cond.constantLong RX9 255 (7919), Cond.constantLong RX9 257 (6151), Cond.constantLong RX9 259 (3571), Cond.constantLong RX9 261 (2011), Cond.constantLong RX9 263 (65521), Cond.methodLink RX9 269 yX9_saysOther, Cond.static yX9_saysOther, Cond.code yX9_saysOther cX9_saysOther 3 (some .boolean), Cond.methodLink RX9 273 yX6_change, Cond.instanceMethod yX6_change, Cond.selects RX6 yX6_change yX6_change, Cond.code yX6_change cX6_change 4 none, Cond.methodLink RX6 38 yX6_of, Cond.methodLink RX9 174 yX9_tongueBits, Cond.instanceMethod yX9_tongueBits, Cond.selects RX9 yX9_tongueBits yX9_tongueBits, Cond.code yX9_tongueBits cX9_tongueBits 6 (some .int)]
def wsL_law_r31 : List Cond := [Cond.methodLink RX9 177 yJ6_bitCount_0f7a4, Cond.static yJ6_bitCount_0f7a4, Cond.initialized RJ6, Cond.code yJ6_bitCount_0f7a4 cJ6_bitCount_0f7a4 1 (some .int), Cond.constant RJ6 265 (1431655765), Cond.constant RJ6 266 (858993459), Cond.constant RJ6 267 (252645135), Cond.methodLink RL 84 yX10_summer, Cond.instanceMethod yX10_summer, Cond.selects RX10 yX10_summer yX10_summer, Cond.code yX10_summer cX10_summer 6 (some .int), Cond.constantLong RX10 217 (9999), Cond.constantLong RX10 219 (99), Cond.methodLink RX10 221 yX10_meetBy, Cond.instanceMethod yX10_meetBy, Cond.selects RX10 yX10_meetBy yX10_meetBy, Cond.code yX10_meetBy cX10_meetBy 10 none, Cond.methodLink RX10 213 yX10_draw, Cond.static yX10_draw, Cond.code yX10_draw cX10_draw 6 (some .int), Cond.constantLong RX10 203 (7919), Cond.constantLong RX10 205 (6151), Cond.constantLong RX10 207 (3571), Cond.constantLong RX10 209 (2011)]
def wsL_law_r32 : List Cond := [Cond.constantLong RX10 211 (65521), Cond.methodLink RX10 225 yX10_tongueBy, Cond.instanceMethod yX10_tongueBy, Cond.selects RX10 yX10_tongueBy yX10_tongueBy, Cond.code yX10_tongueBy cX10_tongueBy 7 (some .int), Cond.methodLink RL 85 yX9_tongue, Cond.instanceMethod yX9_tongue, Cond.selects RX9 yX9_tongue yX9_tongue, Cond.code yX9_tongue cX9_tongue 2 (some .int), Cond.methodLink RL 88 yX10_tongue, Cond.instanceMethod yX10_tongue, Cond.selects RX10 yX10_tongue yX10_tongue, Cond.code yX10_tongue cX10_tongue 2 (some .int), Cond.methodLink RL 89 yX9_from, Cond.instanceMethod yX9_from, Cond.selects RX9 yX9_from yX9_from, Cond.code yX9_from cX9_from 6 (some .int), Cond.methodLink RX9 191 Lib.Math.max.name, Cond.methodLink RX9 182 yX9_isEar, Cond.static yX9_isEar, Cond.code yX9_isEar cX9_isEar 1 (some .boolean), Cond.methodLink RX9 185 yX0_heardBy, Cond.instanceMethod yX0_heardBy, Cond.selects RX0 yX0_heardBy yX0_heardBy]
def wsL_law_r33 : List Cond := [Cond.code yX0_heardBy cX0_heardBy 3 (some .int), Cond.methodLink RX9 188 yX9_likeOfWordThere, Cond.instanceMethod yX9_likeOfWordThere, Cond.selects RX9 yX9_likeOfWordThere yX9_likeOfWordThere, Cond.code yX9_likeOfWordThere cX9_likeOfWordThere 3 (some .int), Cond.methodLink RL 92 yX10_from, Cond.instanceMethod yX10_from, Cond.selects RX10 yX10_from yX10_from, Cond.code yX10_from cX10_from 7 (some .int), Cond.constantLong RX10 228 (2), Cond.methodLink RX10 230 yX10_earAt, Cond.static yX10_earAt, Cond.code yX10_earAt cX10_earAt 2 (some .int), Cond.methodLink RL 93 yX9_chance, Cond.instanceMethod yX9_chance, Cond.selects RX9 yX9_chance yX9_chance, Cond.code yX9_chance cX9_chance 10 (some .int), Cond.methodLink RL 96 yX10_chance, Cond.instanceMethod yX10_chance, Cond.selects RX10 yX10_chance yX10_chance, Cond.code yX10_chance cX10_chance 8 (some .int), Cond.methodLink RL 97 yX9_joined, Cond.instanceMethod yX9_joined, Cond.selects RX9 yX9_joined yX9_joined]
def wsL_law_r34 : List Cond := [Cond.code yX9_joined cX9_joined 6 (some .int), Cond.methodLink RX9 202 yX9_apartFromOtherEars, Cond.instanceMethod yX9_apartFromOtherEars, Cond.selects RX9 yX9_apartFromOtherEars yX9_apartFromOtherEars, Cond.code yX9_apartFromOtherEars cX9_apartFromOtherEars 6 (some .int), Cond.methodLink RL 100 yX10_joined, Cond.instanceMethod yX10_joined, Cond.selects RX10 yX10_joined yX10_joined, Cond.code yX10_joined cX10_joined 7 (some .int), Cond.methodLink RL 101 yX9_children, Cond.instanceMethod yX9_children, Cond.selects RX9 yX9_children yX9_children, Cond.code yX9_children cX9_children 6 (some .int), Cond.methodLink RX9 205 yX9_isOfThousand, Cond.static yX9_isOfThousand, Cond.code yX9_isOfThousand cX9_isOfThousand 1 (some .boolean), Cond.methodLink RX9 208 yX9_isBent, Cond.static yX9_isBent, Cond.code yX9_isBent cX9_isBent 1 (some .boolean), Cond.methodLink RX9 211 yX9_nextGeneration, Cond.static yX9_nextGeneration, Cond.code yX9_nextGeneration cX9_nextGeneration 8 (some .int), Cond.methodLink RL 104 yX10_children, Cond.instanceMethod yX10_children]
def wsL_law_r35 : List Cond := [Cond.selects RX10 yX10_children yX10_children, Cond.code yX10_children cX10_children 6 (some .int), Cond.constantLong RX10 233 (3), Cond.constantLong RX10 235 (20), Cond.methodLink RX10 237 yX10_hear, Cond.static yX10_hear, Cond.code yX10_hear cX10_hear 7 (some .int), Cond.methodLink RL 105 yX9_even, Cond.instanceMethod yX9_even, Cond.selects RX9 yX9_even yX9_even, Cond.code yX9_even cX9_even 5 (some .int), Cond.methodLink RL 108 yX10_even, Cond.instanceMethod yX10_even, Cond.selects RX10 yX10_even yX10_even, Cond.code yX10_even cX10_even 5 (some .int), Cond.methodLink RL 109 yX9_fewest, Cond.instanceMethod yX9_fewest, Cond.selects RX9 yX9_fewest yX9_fewest, Cond.code yX9_fewest cX9_fewest 3 (some .int), Cond.methodLink RX9 214 yX0_needs, Cond.instanceMethod yX0_needs, Cond.selects RX0 yX0_needs yX0_needs, Cond.code yX0_needs cX0_needs 1 (some (.object "TradeWords$Needs")), Cond.methodLink RX9 218 yX4_leastSet]
def wsL_law_r36 : List Cond := [Cond.instanceMethod yX4_leastSet, Cond.selects RX4 yX4_leastSet yX4_leastSet, Cond.code yX4_leastSet cX4_leastSet 4 (some .int), Cond.methodLink RX4 38 yJ6_bitCount_0f7a4, Cond.methodLink RX4 44 yX4_sayableBy, Cond.instanceMethod yX4_sayableBy, Cond.selects RX4 yX4_sayableBy yX4_sayableBy, Cond.code yX4_sayableBy cX4_sayableBy 4 (some .int), Cond.methodLink RX4 34 yX5_at, Cond.methodLink RL 112 yX10_fewest, Cond.instanceMethod yX10_fewest, Cond.selects RX10 yX10_fewest yX10_fewest, Cond.code yX10_fewest cX10_fewest 4 (some .int), Cond.methodLink RX10 243 yX10_isEnoughFor, Cond.instanceMethod yX10_isEnoughFor, Cond.selects RX10 yX10_isEnoughFor yX10_isEnoughFor, Cond.code yX10_isEnoughFor cX10_isEnoughFor 5 (some .boolean), Cond.methodLink RX10 240 yX10_canSay, Cond.instanceMethod yX10_canSay, Cond.selects RX10 yX10_canSay yX10_canSay, Cond.code yX10_canSay cX10_canSay 6 (some .boolean), Cond.methodLink RL 113 yX9_both, Cond.instanceMethod yX9_both, Cond.selects RX9 yX9_both yX9_both]
def wsL_law_r37 : List Cond := [Cond.code yX9_both cX9_both 1 (some .int), Cond.methodLink RX9 223 yX0_soundsOf, Cond.instanceMethod yX0_soundsOf, Cond.selects RX0 yX0_soundsOf yX0_soundsOf, Cond.code yX0_soundsOf cX0_soundsOf 2 (some .int), Cond.methodLink RL 116 yX10_both, Cond.instanceMethod yX10_both, Cond.selects RX10 yX10_both yX10_both, Cond.code yX10_both cX10_both 1 (some .int), Cond.methodLink RL 117 yX9_lost, Cond.instanceMethod yX9_lost, Cond.selects RX9 yX9_lost yX9_lost, Cond.code yX9_lost cX9_lost 7 (some .int), Cond.methodLink RX9 226 yX0_soundSaidBy, Cond.methodLink RL 120 yX10_lost, Cond.instanceMethod yX10_lost, Cond.selects RX10 yX10_lost yX10_lost, Cond.code yX10_lost cX10_lost 7 (some .int), Cond.methodLink RL 121 yX9_keep, Cond.instanceMethod yX9_keep, Cond.selects RX9 yX9_keep yX9_keep, Cond.code yX9_keep cX9_keep 1 (some .int), Cond.methodLink RX9 229 yX6_push, Cond.instanceMethod yX6_push]
def wsL_law_r38 : List Cond := [Cond.selects RX6 yX6_push yX6_push, Cond.code yX6_push cX6_push 1 (some .boolean), Cond.methodLink RX6 42 arraycopyName, Cond.methodLink RX9 232 yX6_kept, Cond.instanceMethod yX6_kept, Cond.selects RX6 yX6_kept yX6_kept, Cond.code yX6_kept cX6_kept 1 (some .int), Cond.methodLink RL 124 yX10_keep, Cond.instanceMethod yX10_keep, Cond.selects RX10 yX10_keep yX10_keep, Cond.code yX10_keep cX10_keep 2 (some .int), Cond.methodLink RL 125 yX9_back, Cond.instanceMethod yX9_back, Cond.selects RX9 yX9_back yX9_back, Cond.code yX9_back cX9_back 1 (some .int), Cond.methodLink RX9 235 yX6_pop, Cond.instanceMethod yX6_pop, Cond.selects RX6 yX6_pop yX6_pop, Cond.code yX6_pop cX6_pop 1 (some .boolean), Cond.methodLink RL 128 yX10_back, Cond.instanceMethod yX10_back, Cond.selects RX10 yX10_back yX10_back, Cond.code yX10_back cX10_back 2 (some .int), Cond.methodLink RL 129 yX9_count]
def wsL_law_r39 : List Cond := [Cond.instanceMethod yX9_count, Cond.selects RX9 yX9_count yX9_count, Cond.code yX9_count cX9_count 2 (some .int), Cond.methodLink RX9 238 yX4_needsTold, Cond.instanceMethod yX4_needsTold, Cond.selects RX4 yX4_needsTold yX4_needsTold, Cond.code yX4_needsTold cX4_needsTold 1 (some .int), Cond.methodLink RX9 241 yX4_joinedTold, Cond.instanceMethod yX4_joinedTold, Cond.selects RX4 yX4_joinedTold yX4_joinedTold, Cond.code yX4_joinedTold cX4_joinedTold 1 (some .int), Cond.methodLink RL 132 yX10_count, Cond.instanceMethod yX10_count, Cond.selects RX10 yX10_count yX10_count, Cond.code yX10_count cX10_count 2 (some .int)]
def wsL_law : List Cond := (wsL_law_r1 ++ (wsL_law_r2 ++ (wsL_law_r3 ++ (wsL_law_r4 ++ (wsL_law_r5 ++ (wsL_law_r6 ++ (wsL_law_r7 ++ (wsL_law_r8 ++ (wsL_law_r9 ++ (wsL_law_r10 ++ (wsL_law_r11 ++ (wsL_law_r12 ++ (wsL_law_r13 ++ (wsL_law_r14 ++ (wsL_law_r15 ++ (wsL_law_r16 ++ (wsL_law_r17 ++ (wsL_law_r18 ++ (wsL_law_r19 ++ (wsL_law_r20 ++ (wsL_law_r21 ++ (wsL_law_r22 ++ (wsL_law_r23 ++ (wsL_law_r24 ++ (wsL_law_r25 ++ (wsL_law_r26 ++ (wsL_law_r27 ++ (wsL_law_r28 ++ (wsL_law_r29 ++ (wsL_law_r30 ++ (wsL_law_r31 ++ (wsL_law_r32 ++ (wsL_law_r33 ++ (wsL_law_r34 ++ (wsL_law_r35 ++ (wsL_law_r36 ++ (wsL_law_r37 ++ (wsL_law_r38 ++ wsL_law_r39)))))))))))))))))))))))))))))))))))))) ++ wsX90 ++ wsX100 ++ wsX70 ++ wsX20 ++ wsX60 ++ wsX10 ++ wsX30 ++ wsX00 ++ wsX40 ++ ([] : List Cond)
set_option maxRecDepth 20000 in
theorem ggX0_init_X4_init : GoodIn wsX0_init wsX4_init := goodIn_r _ [16, 17, 2, 3, 4, 18, 19, 48, 49, 50, 51, 52] (by decide +kernel) (by decide +kernel)
set_option maxRecDepth 20000 in
theorem gX0_init_X4_init_n32 : GoodIn wsX0_init (wsX4_init) := ggX0_init_X4_init
set_option maxRecDepth 20000 in
theorem ggX0_init_X0_clear : GoodIn wsX0_init wsX0_clear := goodIn_r _ [24, 5, 6, 7, 25, 8, 9, 10, 14, 26, 27, 28, 29, 30, 31, 32, 33, 34, 13, 35, 36, 37, 38, 39, 40, 41, 42, 43, 44, 45, 46, 47, 48, 49, 50, 51, 52] (by decide +kernel) (by decide +kernel)
set_option maxRecDepth 20000 in
theorem gX0_init_X0_clear : GoodIn wsX0_init (wsV RX0 37 RX0 yX0_clear wsX0_clear) := goodIn_app (goodIn_of _ (by decide +kernel)) ggX0_init_X0_clear
theorem dX0_init_0 : decode cX0_init 0 = .ok (.aload_n 0, 1) := by decide +kernel
theorem dX0_init_1 : decode cX0_init 1 = .ok (.invokespecial 3, 3) := by decide +kernel
theorem dX0_init_4 : decode cX0_init 4 = .ok (.aload_n 0, 1) := by decide +kernel
theorem dX0_init_5 : decode cX0_init 5 = .ok (.bipush 16, 2) := by decide +kernel
theorem dX0_init_7 : decode cX0_init 7 = .ok (.newarray .int, 2) := by decide +kernel
theorem dX0_init_9 : decode cX0_init 9 = .ok (.putfield 9, 3) := by decide +kernel
theorem dX0_init_12 : decode cX0_init 12 = .ok (.aload_n 0, 1) := by decide +kernel
theorem dX0_init_13 : decode cX0_init 13 = .ok (.bipush 24, 2) := by decide +kernel
theorem dX0_init_15 : decode cX0_init 15 = .ok (.newarray .int, 2) := by decide +kernel
theorem dX0_init_17 : decode cX0_init 17 = .ok (.putfield 15, 3) := by decide +kernel
theorem dX0_init_20 : decode cX0_init 20 = .ok (.aload_n 0, 1) := by decide +kernel
theorem dX0_init_21 : decode cX0_init 21 = .ok (.iconst 2, 1) := by decide +kernel
theorem dX0_init_22 : decode cX0_init 22 = .ok (.newarray .int, 2) := by decide +kernel
theorem dX0_init_24 : decode cX0_init 24 = .ok (.putfield 18, 3) := by decide +kernel
theorem dX0_init_27 : decode cX0_init 27 = .ok (.aload_n 0, 1) := by decide +kernel
theorem dX0_init_28 : decode cX0_init 28 = .ok (.bipush 16, 2) := by decide +kernel
theorem dX0_init_30 : decode cX0_init 30 = .ok (.newarray .int, 2) := by decide +kernel
theorem dX0_init_32 : decode cX0_init 32 = .ok (.putfield 21, 3) := by decide +kernel
theorem dX0_init_35 : decode cX0_init 35 = .ok (.aload_n 0, 1) := by decide +kernel
theorem dX0_init_36 : decode cX0_init 36 = .ok (.iconst 2, 1) := by decide +kernel
theorem dX0_init_37 : decode cX0_init 37 = .ok (.newarray .int, 2) := by decide +kernel
theorem dX0_init_39 : decode cX0_init 39 = .ok (.putfield 24, 3) := by decide +kernel
theorem dX0_init_42 : decode cX0_init 42 = .ok (.aload_n 0, 1) := by decide +kernel
theorem dX0_init_43 : decode cX0_init 43 = .ok (.iconst 2, 1) := by decide +kernel
theorem dX0_init_44 : decode cX0_init 44 = .ok (.newarray .int, 2) := by decide +kernel
theorem dX0_init_46 : decode cX0_init 46 = .ok (.putfield 27, 3) := by decide +kernel
theorem dX0_init_49 : decode cX0_init 49 = .ok (.aload_n 0, 1) := by decide +kernel
theorem dX0_init_50 : decode cX0_init 50 = .ok (.new 30, 3) := by decide +kernel
theorem dX0_init_53 : decode cX0_init 53 = .ok (.dup, 1) := by decide +kernel
theorem dX0_init_54 : decode cX0_init 54 = .ok (.invokespecial 32, 3) := by decide +kernel
theorem dX0_init_57 : decode cX0_init 57 = .ok (.putfield 33, 3) := by decide +kernel
theorem dX0_init_60 : decode cX0_init 60 = .ok (.aload_n 0, 1) := by decide +kernel
theorem dX0_init_61 : decode cX0_init 61 = .ok (.invokevirtual 37, 3) := by decide +kernel
theorem dX0_init_64 : decode cX0_init 64 = .ok (.return_, 1) := by decide +kernel
set_option maxRecDepth 20000 in
theorem ggX0_clear_J7_fill_53178 : GoodIn wsX0_clear wsJ7_fill_53178 := goodIn_r _ [14] (by decide +kernel) (by decide +kernel)
set_option maxRecDepth 20000 in
theorem gX0_clear_J7_fill_53178 : GoodIn wsX0_clear (va_wsS RX0 42 yJ7_fill_53178 wsJ7_fill_53178) := goodIn_app (goodIn_of _ (by decide +kernel)) ggX0_clear_J7_fill_53178
set_option maxRecDepth 20000 in
theorem ggX0_clear_X4_clear : GoodIn wsX0_clear wsX4_clear := goodIn_r _ [19, 20, 21, 22, 32, 33, 34, 35, 36] (by decide +kernel) (by decide +kernel)
set_option maxRecDepth 20000 in
theorem gX0_clear_X4_clear : GoodIn wsX0_clear (wsV RX0 49 RX4 yX4_clear wsX4_clear) := goodIn_app (goodIn_of _ (by decide +kernel)) ggX0_clear_X4_clear
theorem dX0_clear_0 : decode cX0_clear 0 = .ok (.aload_n 0, 1) := by decide +kernel
theorem dX0_clear_1 : decode cX0_clear 1 = .ok (.getfield 9, 3) := by decide +kernel
theorem dX0_clear_4 : decode cX0_clear 4 = .ok (.iconst 0, 1) := by decide +kernel
theorem dX0_clear_5 : decode cX0_clear 5 = .ok (.invokestatic 42, 3) := by decide +kernel
theorem dX0_clear_8 : decode cX0_clear 8 = .ok (.aload_n 0, 1) := by decide +kernel
theorem dX0_clear_9 : decode cX0_clear 9 = .ok (.getfield 15, 3) := by decide +kernel
theorem dX0_clear_12 : decode cX0_clear 12 = .ok (.iconst 0, 1) := by decide +kernel
theorem dX0_clear_13 : decode cX0_clear 13 = .ok (.invokestatic 42, 3) := by decide +kernel
theorem dX0_clear_16 : decode cX0_clear 16 = .ok (.aload_n 0, 1) := by decide +kernel
theorem dX0_clear_17 : decode cX0_clear 17 = .ok (.getfield 18, 3) := by decide +kernel
theorem dX0_clear_20 : decode cX0_clear 20 = .ok (.ldc 48, 2) := by decide +kernel
theorem dX0_clear_22 : decode cX0_clear 22 = .ok (.invokestatic 42, 3) := by decide +kernel
theorem dX0_clear_25 : decode cX0_clear 25 = .ok (.aload_n 0, 1) := by decide +kernel
theorem dX0_clear_26 : decode cX0_clear 26 = .ok (.getfield 21, 3) := by decide +kernel
theorem dX0_clear_29 : decode cX0_clear 29 = .ok (.bipush (-4), 2) := by decide +kernel
theorem dX0_clear_31 : decode cX0_clear 31 = .ok (.invokestatic 42, 3) := by decide +kernel
theorem dX0_clear_34 : decode cX0_clear 34 = .ok (.aload_n 0, 1) := by decide +kernel
theorem dX0_clear_35 : decode cX0_clear 35 = .ok (.getfield 24, 3) := by decide +kernel
theorem dX0_clear_38 : decode cX0_clear 38 = .ok (.iconst 4, 1) := by decide +kernel
theorem dX0_clear_39 : decode cX0_clear 39 = .ok (.invokestatic 42, 3) := by decide +kernel
theorem dX0_clear_42 : decode cX0_clear 42 = .ok (.aload_n 0, 1) := by decide +kernel
theorem dX0_clear_43 : decode cX0_clear 43 = .ok (.getfield 27, 3) := by decide +kernel
theorem dX0_clear_46 : decode cX0_clear 46 = .ok (.iconst 5, 1) := by decide +kernel
theorem dX0_clear_47 : decode cX0_clear 47 = .ok (.invokestatic 42, 3) := by decide +kernel
theorem dX0_clear_50 : decode cX0_clear 50 = .ok (.aload_n 0, 1) := by decide +kernel
theorem dX0_clear_51 : decode cX0_clear 51 = .ok (.getfield 33, 3) := by decide +kernel
theorem dX0_clear_54 : decode cX0_clear 54 = .ok (.invokevirtual 49, 3) := by decide +kernel
theorem dX0_clear_57 : decode cX0_clear 57 = .ok (.aload_n 0, 1) := by decide +kernel
theorem dX0_clear_58 : decode cX0_clear 58 = .ok (.iconst 5, 1) := by decide +kernel
theorem dX0_clear_59 : decode cX0_clear 59 = .ok (.putfield 50, 3) := by decide +kernel
theorem dX0_clear_62 : decode cX0_clear 62 = .ok (.aload_n 0, 1) := by decide +kernel
theorem dX0_clear_63 : decode cX0_clear 63 = .ok (.bipush 70, 2) := by decide +kernel
theorem dX0_clear_65 : decode cX0_clear 65 = .ok (.putfield 54, 3) := by decide +kernel
theorem dX0_clear_68 : decode cX0_clear 68 = .ok (.return_, 1) := by decide +kernel
set_option maxRecDepth 20000 in
theorem ggX0_accepts_X2_number : GoodIn wsX0_accepts wsX2_number := goodIn_r _ [13, 14, 15, 16, 17, 18, 80, 81, 82, 83, 84, 85] (by decide +kernel) (by decide +kernel)
set_option maxRecDepth 20000 in
theorem gX0_accepts_X2_number : GoodIn wsX0_accepts (wsV RX0 57 RX2 yX2_number wsX2_number) := goodIn_app (goodIn_of _ (by decide +kernel)) ggX0_accepts_X2_number
set_option maxRecDepth 20000 in
theorem ggX0_accepts_X2_letter : GoodIn wsX0_accepts wsX2_letter := goodIn_r _ [22, 23, 80, 81, 82, 83, 84, 85] (by decide +kernel) (by decide +kernel)
set_option maxRecDepth 20000 in
theorem gX0_accepts_X2_letter : GoodIn wsX0_accepts (wsV RX0 63 RX2 yX2_letter wsX2_letter) := goodIn_app (goodIn_of _ (by decide +kernel)) ggX0_accepts_X2_letter
set_option maxRecDepth 20000 in
theorem ggX0_accepts_X0_wordPlace : GoodIn wsX0_accepts wsX0_wordPlace := goodIn_r _ [27] (by decide +kernel) (by decide +kernel)
set_option maxRecDepth 20000 in
theorem gX0_accepts_X0_wordPlace : GoodIn wsX0_accepts (va_wsS RX0 67 yX0_wordPlace wsX0_wordPlace) := goodIn_app (goodIn_of _ (by decide +kernel)) ggX0_accepts_X0_wordPlace
set_option maxRecDepth 20000 in
theorem ggX0_accepts_X2_spelled : GoodIn wsX0_accepts wsX2_spelled := goodIn_r _ [31, 32, 80, 81, 82, 83, 84, 85] (by decide +kernel) (by decide +kernel)
set_option maxRecDepth 20000 in
theorem gX0_accepts_X2_spelled : GoodIn wsX0_accepts (wsV RX0 71 RX2 yX2_spelled wsX2_spelled) := goodIn_app (goodIn_of _ (by decide +kernel)) ggX0_accepts_X2_spelled
set_option maxRecDepth 20000 in
theorem ggX0_accepts_X5_put : GoodIn wsX0_accepts wsX5_put := goodIn_r _ [35] (by decide +kernel) (by decide +kernel)
set_option maxRecDepth 20000 in
theorem gX0_accepts_X5_put : GoodIn wsX0_accepts (va_wsS RX0 74 yX5_put wsX5_put) := goodIn_app (goodIn_of _ (by decide +kernel)) ggX0_accepts_X5_put
set_option maxRecDepth 20000 in
theorem ggX0_accepts_X0_heardPlace : GoodIn wsX0_accepts wsX0_heardPlace := goodIn_r _ [38] (by decide +kernel) (by decide +kernel)
set_option maxRecDepth 20000 in
theorem gX0_accepts_X0_heardPlace : GoodIn wsX0_accepts (va_wsS RX0 80 yX0_heardPlace wsX0_heardPlace) := goodIn_app (goodIn_of _ (by decide +kernel)) ggX0_accepts_X0_heardPlace
set_option maxRecDepth 20000 in
theorem ggX0_accepts_X2_bits : GoodIn wsX0_accepts wsX2_bits := goodIn_r _ [42, 43, 80, 81, 82, 83, 84, 85] (by decide +kernel) (by decide +kernel)
set_option maxRecDepth 20000 in
theorem gX0_accepts_X2_bits : GoodIn wsX0_accepts (wsV RX0 83 RX2 yX2_bits wsX2_bits) := goodIn_app (goodIn_of _ (by decide +kernel)) ggX0_accepts_X2_bits
set_option maxRecDepth 20000 in
theorem ggX0_accepts_X0_tellExchange : GoodIn wsX0_accepts wsX0_tellExchange := goodIn_r _ [47, 48, 49, 50, 51, 52, 33, 34, 17, 35, 71, 72, 73, 74, 75, 76, 77, 78, 79] (by decide +kernel) (by decide +kernel)
set_option maxRecDepth 20000 in
theorem gX0_accepts_X0_tellExchange : GoodIn wsX0_accepts (wsV RX0 86 RX0 yX0_tellExchange wsX0_tellExchange) := goodIn_app (goodIn_of _ (by decide +kernel)) ggX0_accepts_X0_tellExchange
set_option maxRecDepth 20000 in
theorem ggX0_accepts_X0_tellPair : GoodIn wsX0_accepts wsX0_tellPair := goodIn_r _ [55, 33, 34, 17, 35] (by decide +kernel) (by decide +kernel)
set_option maxRecDepth 20000 in
theorem gX0_accepts_X0_tellPair : GoodIn wsX0_accepts (va_wsS RX0 90 yX0_tellPair wsX0_tellPair) := goodIn_app (goodIn_of _ (by decide +kernel)) ggX0_accepts_X0_tellPair
set_option maxRecDepth 20000 in
theorem ggX0_accepts_X4_tellJoined : GoodIn wsX0_accepts wsX4_tellJoined := goodIn_r _ [60, 61, 62, 63, 64, 34, 17, 35, 86, 87, 88, 89, 90] (by decide +kernel) (by decide +kernel)
set_option maxRecDepth 20000 in
theorem gX0_accepts_X4_tellJoined : GoodIn wsX0_accepts (wsV RX0 93 RX4 yX4_tellJoined wsX4_tellJoined) := goodIn_app (goodIn_of _ (by decide +kernel)) ggX0_accepts_X4_tellJoined
set_option maxRecDepth 20000 in
theorem ggX0_accepts_X4_tellNeed : GoodIn wsX0_accepts wsX4_tellNeed := goodIn_r _ [68, 69, 70, 86, 87, 88, 89, 90] (by decide +kernel) (by decide +kernel)
set_option maxRecDepth 20000 in
theorem gX0_accepts_X4_tellNeed : GoodIn wsX0_accepts (wsV RX0 97 RX4 yX4_tellNeed wsX4_tellNeed) := goodIn_app (goodIn_of _ (by decide +kernel)) ggX0_accepts_X4_tellNeed
theorem dX0_accepts_0 : decode cX0_accepts 0 = .ok (.aload_n 1, 1) := by decide +kernel
theorem dX0_accepts_1 : decode cX0_accepts 1 = .ok (.iconst 0, 1) := by decide +kernel
theorem dX0_accepts_2 : decode cX0_accepts 2 = .ok (.invokevirtual 57, 3) := by decide +kernel
theorem dX0_accepts_5 : decode cX0_accepts 5 = .ok (.istore_n 2, 1) := by decide +kernel
theorem dX0_accepts_6 : decode cX0_accepts 6 = .ok (.aload_n 1, 1) := by decide +kernel
theorem dX0_accepts_7 : decode cX0_accepts 7 = .ok (.iconst 1, 1) := by decide +kernel
theorem dX0_accepts_8 : decode cX0_accepts 8 = .ok (.invokevirtual 57, 3) := by decide +kernel
theorem dX0_accepts_11 : decode cX0_accepts 11 = .ok (.istore_n 3, 1) := by decide +kernel
theorem dX0_accepts_12 : decode cX0_accepts 12 = .ok (.aload_n 1, 1) := by decide +kernel
theorem dX0_accepts_13 : decode cX0_accepts 13 = .ok (.invokevirtual 63, 3) := by decide +kernel
theorem dX0_accepts_16 : decode cX0_accepts 16 = .ok (.tableswitch 220 101 119 #[110, 220, 181, 220, 220, 188, 163, 220, 220, 152, 174, 220, 220, 142, 128, 220, 208, 220, 92], 92) := by decide +kernel
theorem dX0_accepts_108 : decode cX0_accepts 108 = .ok (.aload_n 0, 1) := by decide +kernel
theorem dX0_accepts_109 : decode cX0_accepts 109 = .ok (.getfield 9, 3) := by decide +kernel
theorem dX0_accepts_112 : decode cX0_accepts 112 = .ok (.iload_n 2, 1) := by decide +kernel
theorem dX0_accepts_113 : decode cX0_accepts 113 = .ok (.iload_n 3, 1) := by decide +kernel
theorem dX0_accepts_114 : decode cX0_accepts 114 = .ok (.invokestatic 67, 3) := by decide +kernel
theorem dX0_accepts_117 : decode cX0_accepts 117 = .ok (.aload_n 1, 1) := by decide +kernel
theorem dX0_accepts_118 : decode cX0_accepts 118 = .ok (.invokevirtual 71, 3) := by decide +kernel
theorem dX0_accepts_121 : decode cX0_accepts 121 = .ok (.invokestatic 74, 3) := by decide +kernel
theorem dX0_accepts_124 : decode cX0_accepts 124 = .ok (.iconst 1, 1) := by decide +kernel
theorem dX0_accepts_125 : decode cX0_accepts 125 = .ok (.ireturn, 1) := by decide +kernel
theorem dX0_accepts_126 : decode cX0_accepts 126 = .ok (.aload_n 0, 1) := by decide +kernel
theorem dX0_accepts_127 : decode cX0_accepts 127 = .ok (.getfield 15, 3) := by decide +kernel
theorem dX0_accepts_130 : decode cX0_accepts 130 = .ok (.iload_n 2, 1) := by decide +kernel
theorem dX0_accepts_131 : decode cX0_accepts 131 = .ok (.iload_n 3, 1) := by decide +kernel
theorem dX0_accepts_132 : decode cX0_accepts 132 = .ok (.invokestatic 80, 3) := by decide +kernel
theorem dX0_accepts_135 : decode cX0_accepts 135 = .ok (.aload_n 1, 1) := by decide +kernel
theorem dX0_accepts_136 : decode cX0_accepts 136 = .ok (.invokevirtual 71, 3) := by decide +kernel
theorem dX0_accepts_139 : decode cX0_accepts 139 = .ok (.invokestatic 74, 3) := by decide +kernel
theorem dX0_accepts_142 : decode cX0_accepts 142 = .ok (.iconst 1, 1) := by decide +kernel
theorem dX0_accepts_143 : decode cX0_accepts 143 = .ok (.ireturn, 1) := by decide +kernel
theorem dX0_accepts_144 : decode cX0_accepts 144 = .ok (.aload_n 0, 1) := by decide +kernel
theorem dX0_accepts_145 : decode cX0_accepts 145 = .ok (.getfield 18, 3) := by decide +kernel
theorem dX0_accepts_148 : decode cX0_accepts 148 = .ok (.iload_n 2, 1) := by decide +kernel
theorem dX0_accepts_149 : decode cX0_accepts 149 = .ok (.aload_n 1, 1) := by decide +kernel
theorem dX0_accepts_150 : decode cX0_accepts 150 = .ok (.invokevirtual 83, 3) := by decide +kernel
theorem dX0_accepts_153 : decode cX0_accepts 153 = .ok (.invokestatic 74, 3) := by decide +kernel
theorem dX0_accepts_156 : decode cX0_accepts 156 = .ok (.iconst 1, 1) := by decide +kernel
theorem dX0_accepts_157 : decode cX0_accepts 157 = .ok (.ireturn, 1) := by decide +kernel
theorem dX0_accepts_158 : decode cX0_accepts 158 = .ok (.aload_n 0, 1) := by decide +kernel
theorem dX0_accepts_159 : decode cX0_accepts 159 = .ok (.aload_n 1, 1) := by decide +kernel
theorem dX0_accepts_160 : decode cX0_accepts 160 = .ok (.invokevirtual 71, 3) := by decide +kernel
theorem dX0_accepts_163 : decode cX0_accepts 163 = .ok (.invokevirtual 86, 3) := by decide +kernel
theorem dX0_accepts_166 : decode cX0_accepts 166 = .ok (.iconst 1, 1) := by decide +kernel
theorem dX0_accepts_167 : decode cX0_accepts 167 = .ok (.ireturn, 1) := by decide +kernel
theorem dX0_accepts_168 : decode cX0_accepts 168 = .ok (.aload_n 0, 1) := by decide +kernel
theorem dX0_accepts_169 : decode cX0_accepts 169 = .ok (.getfield 24, 3) := by decide +kernel
theorem dX0_accepts_172 : decode cX0_accepts 172 = .ok (.iload_n 2, 1) := by decide +kernel
theorem dX0_accepts_173 : decode cX0_accepts 173 = .ok (.iload_n 3, 1) := by decide +kernel
theorem dX0_accepts_174 : decode cX0_accepts 174 = .ok (.invokestatic 90, 3) := by decide +kernel
theorem dX0_accepts_177 : decode cX0_accepts 177 = .ok (.iconst 1, 1) := by decide +kernel
theorem dX0_accepts_178 : decode cX0_accepts 178 = .ok (.ireturn, 1) := by decide +kernel
theorem dX0_accepts_179 : decode cX0_accepts 179 = .ok (.aload_n 0, 1) := by decide +kernel
theorem dX0_accepts_180 : decode cX0_accepts 180 = .ok (.getfield 27, 3) := by decide +kernel
theorem dX0_accepts_183 : decode cX0_accepts 183 = .ok (.iload_n 2, 1) := by decide +kernel
theorem dX0_accepts_184 : decode cX0_accepts 184 = .ok (.iload_n 3, 1) := by decide +kernel
theorem dX0_accepts_185 : decode cX0_accepts 185 = .ok (.invokestatic 90, 3) := by decide +kernel
theorem dX0_accepts_188 : decode cX0_accepts 188 = .ok (.iconst 1, 1) := by decide +kernel
theorem dX0_accepts_189 : decode cX0_accepts 189 = .ok (.ireturn, 1) := by decide +kernel
theorem dX0_accepts_190 : decode cX0_accepts 190 = .ok (.aload_n 0, 1) := by decide +kernel
theorem dX0_accepts_191 : decode cX0_accepts 191 = .ok (.iload_n 2, 1) := by decide +kernel
theorem dX0_accepts_192 : decode cX0_accepts 192 = .ok (.putfield 50, 3) := by decide +kernel
theorem dX0_accepts_195 : decode cX0_accepts 195 = .ok (.iconst 1, 1) := by decide +kernel
theorem dX0_accepts_196 : decode cX0_accepts 196 = .ok (.ireturn, 1) := by decide +kernel
theorem dX0_accepts_197 : decode cX0_accepts 197 = .ok (.aload_n 0, 1) := by decide +kernel
theorem dX0_accepts_198 : decode cX0_accepts 198 = .ok (.iload_n 2, 1) := by decide +kernel
theorem dX0_accepts_199 : decode cX0_accepts 199 = .ok (.putfield 54, 3) := by decide +kernel
theorem dX0_accepts_202 : decode cX0_accepts 202 = .ok (.iconst 1, 1) := by decide +kernel
theorem dX0_accepts_203 : decode cX0_accepts 203 = .ok (.ireturn, 1) := by decide +kernel
theorem dX0_accepts_204 : decode cX0_accepts 204 = .ok (.aload_n 0, 1) := by decide +kernel
theorem dX0_accepts_205 : decode cX0_accepts 205 = .ok (.getfield 33, 3) := by decide +kernel
theorem dX0_accepts_208 : decode cX0_accepts 208 = .ok (.iload_n 2, 1) := by decide +kernel
theorem dX0_accepts_209 : decode cX0_accepts 209 = .ok (.iconst 1, 1) := by decide +kernel
theorem dX0_accepts_210 : decode cX0_accepts 210 = .ok (.iload_n 3, 1) := by decide +kernel
theorem dX0_accepts_211 : decode cX0_accepts 211 = .ok (.ishl, 1) := by decide +kernel
theorem dX0_accepts_212 : decode cX0_accepts 212 = .ok (.iconst 1, 1) := by decide +kernel
theorem dX0_accepts_213 : decode cX0_accepts 213 = .ok (.aload_n 1, 1) := by decide +kernel
theorem dX0_accepts_214 : decode cX0_accepts 214 = .ok (.iconst 2, 1) := by decide +kernel
theorem dX0_accepts_215 : decode cX0_accepts 215 = .ok (.invokevirtual 57, 3) := by decide +kernel
theorem dX0_accepts_218 : decode cX0_accepts 218 = .ok (.ishl, 1) := by decide +kernel
theorem dX0_accepts_219 : decode cX0_accepts 219 = .ok (.ior, 1) := by decide +kernel
theorem dX0_accepts_220 : decode cX0_accepts 220 = .ok (.invokevirtual 93, 3) := by decide +kernel
theorem dX0_accepts_223 : decode cX0_accepts 223 = .ok (.ireturn, 1) := by decide +kernel
theorem dX0_accepts_224 : decode cX0_accepts 224 = .ok (.aload_n 0, 1) := by decide +kernel
theorem dX0_accepts_225 : decode cX0_accepts 225 = .ok (.getfield 33, 3) := by decide +kernel
theorem dX0_accepts_228 : decode cX0_accepts 228 = .ok (.aload_n 1, 1) := by decide +kernel
theorem dX0_accepts_229 : decode cX0_accepts 229 = .ok (.invokevirtual 83, 3) := by decide +kernel
theorem dX0_accepts_232 : decode cX0_accepts 232 = .ok (.invokevirtual 97, 3) := by decide +kernel
theorem dX0_accepts_235 : decode cX0_accepts 235 = .ok (.ireturn, 1) := by decide +kernel
theorem dX0_accepts_236 : decode cX0_accepts 236 = .ok (.iconst 0, 1) := by decide +kernel
theorem dX0_accepts_237 : decode cX0_accepts 237 = .ok (.ireturn, 1) := by decide +kernel
set_option maxRecDepth 20000 in
theorem ggX0_tellExchange_X8_soundAt : GoodIn wsX0_tellExchange wsX8_soundAt := goodIn_r _ [5] (by decide +kernel) (by decide +kernel)
set_option maxRecDepth 20000 in
theorem gX0_tellExchange_X8_soundAt : GoodIn wsX0_tellExchange (va_wsS RX0 101 yX8_soundAt wsX8_soundAt) := goodIn_app (goodIn_of _ (by decide +kernel)) ggX0_tellExchange_X8_soundAt
set_option maxRecDepth 20000 in
theorem ggX0_tellExchange_X5_put : GoodIn wsX0_tellExchange wsX5_put := goodIn_r _ [9] (by decide +kernel) (by decide +kernel)
set_option maxRecDepth 20000 in
theorem gX0_tellExchange_X5_put : GoodIn wsX0_tellExchange (va_wsS RX0 74 yX5_put wsX5_put) := goodIn_app (goodIn_of _ (by decide +kernel)) ggX0_tellExchange_X5_put
theorem dX0_tellExchange_0 : decode cX0_tellExchange 0 = .ok (.aload_n 0, 1) := by decide +kernel
theorem dX0_tellExchange_1 : decode cX0_tellExchange 1 = .ok (.getfield 21, 3) := by decide +kernel
theorem dX0_tellExchange_4 : decode cX0_tellExchange 4 = .ok (.iload_n 1, 1) := by decide +kernel
theorem dX0_tellExchange_5 : decode cX0_tellExchange 5 = .ok (.iconst 0, 1) := by decide +kernel
theorem dX0_tellExchange_6 : decode cX0_tellExchange 6 = .ok (.invokestatic 101, 3) := by decide +kernel
theorem dX0_tellExchange_9 : decode cX0_tellExchange 9 = .ok (.iload_n 1, 1) := by decide +kernel
theorem dX0_tellExchange_10 : decode cX0_tellExchange 10 = .ok (.iconst 1, 1) := by decide +kernel
theorem dX0_tellExchange_11 : decode cX0_tellExchange 11 = .ok (.invokestatic 101, 3) := by decide +kernel
theorem dX0_tellExchange_14 : decode cX0_tellExchange 14 = .ok (.invokestatic 74, 3) := by decide +kernel
theorem dX0_tellExchange_17 : decode cX0_tellExchange 17 = .ok (.return_, 1) := by decide +kernel
set_option maxRecDepth 20000 in
theorem ggX0_tellPair_X5_put : GoodIn wsX0_tellPair wsX5_put := goodIn_r _ [4] (by decide +kernel) (by decide +kernel)
set_option maxRecDepth 20000 in
theorem gX0_tellPair_X5_put : GoodIn wsX0_tellPair (va_wsS RX0 74 yX5_put wsX5_put) := goodIn_app (goodIn_of _ (by decide +kernel)) ggX0_tellPair_X5_put
theorem dX0_tellPair_0 : decode cX0_tellPair 0 = .ok (.aload_n 0, 1) := by decide +kernel
theorem dX0_tellPair_1 : decode cX0_tellPair 1 = .ok (.iconst 0, 1) := by decide +kernel
theorem dX0_tellPair_2 : decode cX0_tellPair 2 = .ok (.iload_n 1, 1) := by decide +kernel
theorem dX0_tellPair_3 : decode cX0_tellPair 3 = .ok (.invokestatic 74, 3) := by decide +kernel
theorem dX0_tellPair_6 : decode cX0_tellPair 6 = .ok (.aload_n 0, 1) := by decide +kernel
theorem dX0_tellPair_7 : decode cX0_tellPair 7 = .ok (.iconst 1, 1) := by decide +kernel
theorem dX0_tellPair_8 : decode cX0_tellPair 8 = .ok (.iload_n 2, 1) := by decide +kernel
theorem dX0_tellPair_9 : decode cX0_tellPair 9 = .ok (.invokestatic 74, 3) := by decide +kernel
theorem dX0_tellPair_12 : decode cX0_tellPair 12 = .ok (.return_, 1) := by decide +kernel
theorem dX0_wordPlace_0 : decode cX0_wordPlace 0 = .ok (.iload_n 0, 1) := by decide +kernel
theorem dX0_wordPlace_1 : decode cX0_wordPlace 1 = .ok (.bipush 8, 2) := by decide +kernel
theorem dX0_wordPlace_3 : decode cX0_wordPlace 3 = .ok (.imul, 1) := by decide +kernel
theorem dX0_wordPlace_4 : decode cX0_wordPlace 4 = .ok (.iload_n 1, 1) := by decide +kernel
theorem dX0_wordPlace_5 : decode cX0_wordPlace 5 = .ok (.iadd, 1) := by decide +kernel
theorem dX0_wordPlace_6 : decode cX0_wordPlace 6 = .ok (.ireturn, 1) := by decide +kernel
theorem dX0_heardPlace_0 : decode cX0_heardPlace 0 = .ok (.iload_n 0, 1) := by decide +kernel
theorem dX0_heardPlace_1 : decode cX0_heardPlace 1 = .ok (.bipush 8, 2) := by decide +kernel
theorem dX0_heardPlace_3 : decode cX0_heardPlace 3 = .ok (.imul, 1) := by decide +kernel
theorem dX0_heardPlace_4 : decode cX0_heardPlace 4 = .ok (.iload_n 1, 1) := by decide +kernel
theorem dX0_heardPlace_5 : decode cX0_heardPlace 5 = .ok (.iadd, 1) := by decide +kernel
theorem dX0_heardPlace_6 : decode cX0_heardPlace 6 = .ok (.ireturn, 1) := by decide +kernel
set_option maxRecDepth 20000 in
theorem ggX0_wordOf_X0_wordPlace : GoodIn wsX0_wordOf wsX0_wordPlace := goodIn_r _ [5] (by decide +kernel) (by decide +kernel)
set_option maxRecDepth 20000 in
theorem gX0_wordOf_X0_wordPlace : GoodIn wsX0_wordOf (va_wsS RX0 67 yX0_wordPlace wsX0_wordPlace) := goodIn_app (goodIn_of _ (by decide +kernel)) ggX0_wordOf_X0_wordPlace
set_option maxRecDepth 20000 in
theorem ggX0_wordOf_X5_at : GoodIn wsX0_wordOf wsX5_at := goodIn_r _ [9] (by decide +kernel) (by decide +kernel)
set_option maxRecDepth 20000 in
theorem gX0_wordOf_X5_at : GoodIn wsX0_wordOf (va_wsS RX0 104 yX5_at wsX5_at) := goodIn_app (goodIn_of _ (by decide +kernel)) ggX0_wordOf_X5_at
theorem dX0_wordOf_0 : decode cX0_wordOf 0 = .ok (.aload_n 0, 1) := by decide +kernel
theorem dX0_wordOf_1 : decode cX0_wordOf 1 = .ok (.getfield 9, 3) := by decide +kernel
theorem dX0_wordOf_4 : decode cX0_wordOf 4 = .ok (.iload_n 1, 1) := by decide +kernel
theorem dX0_wordOf_5 : decode cX0_wordOf 5 = .ok (.iload_n 2, 1) := by decide +kernel
theorem dX0_wordOf_6 : decode cX0_wordOf 6 = .ok (.invokestatic 67, 3) := by decide +kernel
theorem dX0_wordOf_9 : decode cX0_wordOf 9 = .ok (.invokestatic 104, 3) := by decide +kernel
theorem dX0_wordOf_12 : decode cX0_wordOf 12 = .ok (.ireturn, 1) := by decide +kernel
set_option maxRecDepth 20000 in
theorem ggX0_heardBy_X0_heardPlace : GoodIn wsX0_heardBy wsX0_heardPlace := goodIn_r _ [5] (by decide +kernel) (by decide +kernel)
set_option maxRecDepth 20000 in
theorem gX0_heardBy_X0_heardPlace : GoodIn wsX0_heardBy (va_wsS RX0 80 yX0_heardPlace wsX0_heardPlace) := goodIn_app (goodIn_of _ (by decide +kernel)) ggX0_heardBy_X0_heardPlace
set_option maxRecDepth 20000 in
theorem ggX0_heardBy_X5_at : GoodIn wsX0_heardBy wsX5_at := goodIn_r _ [9] (by decide +kernel) (by decide +kernel)
set_option maxRecDepth 20000 in
theorem gX0_heardBy_X5_at : GoodIn wsX0_heardBy (va_wsS RX0 104 yX5_at wsX5_at) := goodIn_app (goodIn_of _ (by decide +kernel)) ggX0_heardBy_X5_at
theorem dX0_heardBy_0 : decode cX0_heardBy 0 = .ok (.aload_n 0, 1) := by decide +kernel
theorem dX0_heardBy_1 : decode cX0_heardBy 1 = .ok (.getfield 15, 3) := by decide +kernel
theorem dX0_heardBy_4 : decode cX0_heardBy 4 = .ok (.iload_n 1, 1) := by decide +kernel
theorem dX0_heardBy_5 : decode cX0_heardBy 5 = .ok (.iload_n 2, 1) := by decide +kernel
theorem dX0_heardBy_6 : decode cX0_heardBy 6 = .ok (.invokestatic 80, 3) := by decide +kernel
theorem dX0_heardBy_9 : decode cX0_heardBy 9 = .ok (.invokestatic 104, 3) := by decide +kernel
theorem dX0_heardBy_12 : decode cX0_heardBy 12 = .ok (.ireturn, 1) := by decide +kernel
set_option maxRecDepth 20000 in
theorem ggX0_isTold_X0_wordOf : GoodIn wsX0_isTold wsX0_wordOf := goodIn_r _ [5, 6, 7, 8, 4, 9, 10, 11, 12, 13, 14, 15, 16, 17, 18, 19, 20, 21, 22] (by decide +kernel) (by decide +kernel)
set_option maxRecDepth 20000 in
theorem gX0_isTold_X0_wordOf : GoodIn wsX0_isTold (wsV RX0 108 RX0 yX0_wordOf wsX0_wordOf) := goodIn_app (goodIn_of _ (by decide +kernel)) ggX0_isTold_X0_wordOf
theorem dX0_isTold_0 : decode cX0_isTold 0 = .ok (.aload_n 0, 1) := by decide +kernel
theorem dX0_isTold_1 : decode cX0_isTold 1 = .ok (.iconst 0, 1) := by decide +kernel
theorem dX0_isTold_2 : decode cX0_isTold 2 = .ok (.iload_n 1, 1) := by decide +kernel
theorem dX0_isTold_3 : decode cX0_isTold 3 = .ok (.invokevirtual 108, 3) := by decide +kernel
theorem dX0_isTold_6 : decode cX0_isTold 6 = .ok (.ifCond .eq 16, 3) := by decide +kernel
theorem dX0_isTold_9 : decode cX0_isTold 9 = .ok (.aload_n 0, 1) := by decide +kernel
theorem dX0_isTold_10 : decode cX0_isTold 10 = .ok (.iconst 1, 1) := by decide +kernel
theorem dX0_isTold_11 : decode cX0_isTold 11 = .ok (.iload_n 1, 1) := by decide +kernel
theorem dX0_isTold_12 : decode cX0_isTold 12 = .ok (.invokevirtual 108, 3) := by decide +kernel
theorem dX0_isTold_15 : decode cX0_isTold 15 = .ok (.ifCond .eq 7, 3) := by decide +kernel
theorem dX0_isTold_18 : decode cX0_isTold 18 = .ok (.iconst 1, 1) := by decide +kernel
theorem dX0_isTold_19 : decode cX0_isTold 19 = .ok (.goto 4, 3) := by decide +kernel
theorem dX0_isTold_22 : decode cX0_isTold 22 = .ok (.iconst 0, 1) := by decide +kernel
theorem dX0_isTold_23 : decode cX0_isTold 23 = .ok (.ireturn, 1) := by decide +kernel
set_option maxRecDepth 20000 in
theorem ggX0_soundsOf_X5_at : GoodIn wsX0_soundsOf wsX5_at := goodIn_r _ [5] (by decide +kernel) (by decide +kernel)
set_option maxRecDepth 20000 in
theorem gX0_soundsOf_X5_at : GoodIn wsX0_soundsOf (va_wsS RX0 104 yX5_at wsX5_at) := goodIn_app (goodIn_of _ (by decide +kernel)) ggX0_soundsOf_X5_at
theorem dX0_soundsOf_0 : decode cX0_soundsOf 0 = .ok (.aload_n 0, 1) := by decide +kernel
theorem dX0_soundsOf_1 : decode cX0_soundsOf 1 = .ok (.getfield 18, 3) := by decide +kernel
theorem dX0_soundsOf_4 : decode cX0_soundsOf 4 = .ok (.iload_n 1, 1) := by decide +kernel
theorem dX0_soundsOf_5 : decode cX0_soundsOf 5 = .ok (.invokestatic 104, 3) := by decide +kernel
theorem dX0_soundsOf_8 : decode cX0_soundsOf 8 = .ok (.ireturn, 1) := by decide +kernel
set_option maxRecDepth 20000 in
theorem ggX0_tradersOf_X5_at : GoodIn wsX0_tradersOf wsX5_at := goodIn_r _ [5] (by decide +kernel) (by decide +kernel)
set_option maxRecDepth 20000 in
theorem gX0_tradersOf_X5_at : GoodIn wsX0_tradersOf (va_wsS RX0 104 yX5_at wsX5_at) := goodIn_app (goodIn_of _ (by decide +kernel)) ggX0_tradersOf_X5_at
theorem dX0_tradersOf_0 : decode cX0_tradersOf 0 = .ok (.aload_n 0, 1) := by decide +kernel
theorem dX0_tradersOf_1 : decode cX0_tradersOf 1 = .ok (.getfield 24, 3) := by decide +kernel
theorem dX0_tradersOf_4 : decode cX0_tradersOf 4 = .ok (.iload_n 1, 1) := by decide +kernel
theorem dX0_tradersOf_5 : decode cX0_tradersOf 5 = .ok (.invokestatic 104, 3) := by decide +kernel
theorem dX0_tradersOf_8 : decode cX0_tradersOf 8 = .ok (.ireturn, 1) := by decide +kernel
set_option maxRecDepth 20000 in
theorem ggX0_takesOfTen_X5_at : GoodIn wsX0_takesOfTen wsX5_at := goodIn_r _ [5] (by decide +kernel) (by decide +kernel)
set_option maxRecDepth 20000 in
theorem gX0_takesOfTen_X5_at : GoodIn wsX0_takesOfTen (va_wsS RX0 104 yX5_at wsX5_at) := goodIn_app (goodIn_of _ (by decide +kernel)) ggX0_takesOfTen_X5_at
theorem dX0_takesOfTen_0 : decode cX0_takesOfTen 0 = .ok (.aload_n 0, 1) := by decide +kernel
theorem dX0_takesOfTen_1 : decode cX0_takesOfTen 1 = .ok (.getfield 27, 3) := by decide +kernel
theorem dX0_takesOfTen_4 : decode cX0_takesOfTen 4 = .ok (.iload_n 1, 1) := by decide +kernel
theorem dX0_takesOfTen_5 : decode cX0_takesOfTen 5 = .ok (.invokestatic 104, 3) := by decide +kernel
theorem dX0_takesOfTen_8 : decode cX0_takesOfTen 8 = .ok (.ireturn, 1) := by decide +kernel
theorem dX0_speaksOfTen_0 : decode cX0_speaksOfTen 0 = .ok (.aload_n 0, 1) := by decide +kernel
theorem dX0_speaksOfTen_1 : decode cX0_speaksOfTen 1 = .ok (.getfield 50, 3) := by decide +kernel
theorem dX0_speaksOfTen_4 : decode cX0_speaksOfTen 4 = .ok (.ireturn, 1) := by decide +kernel
theorem dX0_alikeFrom_0 : decode cX0_alikeFrom 0 = .ok (.aload_n 0, 1) := by decide +kernel
theorem dX0_alikeFrom_1 : decode cX0_alikeFrom 1 = .ok (.getfield 54, 3) := by decide +kernel
theorem dX0_alikeFrom_4 : decode cX0_alikeFrom 4 = .ok (.ireturn, 1) := by decide +kernel
theorem dX0_needs_0 : decode cX0_needs 0 = .ok (.aload_n 0, 1) := by decide +kernel
theorem dX0_needs_1 : decode cX0_needs 1 = .ok (.getfield 33, 3) := by decide +kernel
theorem dX0_needs_4 : decode cX0_needs 4 = .ok (.areturn, 1) := by decide +kernel
set_option maxRecDepth 20000 in
theorem ggX0_soundSaidBy_X5_at : GoodIn wsX0_soundSaidBy wsX5_at := goodIn_r _ [6] (by decide +kernel) (by decide +kernel)
set_option maxRecDepth 20000 in
theorem gX0_soundSaidBy_X5_at : GoodIn wsX0_soundSaidBy (va_wsS RX0 104 yX5_at wsX5_at) := goodIn_app (goodIn_of _ (by decide +kernel)) ggX0_soundSaidBy_X5_at
theorem dX0_soundSaidBy_0 : decode cX0_soundSaidBy 0 = .ok (.aload_n 0, 1) := by decide +kernel
theorem dX0_soundSaidBy_1 : decode cX0_soundSaidBy 1 = .ok (.getfield 18, 3) := by decide +kernel
theorem dX0_soundSaidBy_4 : decode cX0_soundSaidBy 4 = .ok (.iload_n 1, 1) := by decide +kernel
theorem dX0_soundSaidBy_5 : decode cX0_soundSaidBy 5 = .ok (.invokestatic 104, 3) := by decide +kernel
theorem dX0_soundSaidBy_8 : decode cX0_soundSaidBy 8 = .ok (.istore_n 3, 1) := by decide +kernel
theorem dX0_soundSaidBy_9 : decode cX0_soundSaidBy 9 = .ok (.iload_n 3, 1) := by decide +kernel
theorem dX0_soundSaidBy_10 : decode cX0_soundSaidBy 10 = .ok (.iload_n 2, 1) := by decide +kernel
theorem dX0_soundSaidBy_11 : decode cX0_soundSaidBy 11 = .ok (.ishr, 1) := by decide +kernel
theorem dX0_soundSaidBy_12 : decode cX0_soundSaidBy 12 = .ok (.iconst 1, 1) := by decide +kernel
theorem dX0_soundSaidBy_13 : decode cX0_soundSaidBy 13 = .ok (.iand, 1) := by decide +kernel
theorem dX0_soundSaidBy_14 : decode cX0_soundSaidBy 14 = .ok (.ifCond .eq 5, 3) := by decide +kernel
theorem dX0_soundSaidBy_17 : decode cX0_soundSaidBy 17 = .ok (.iload_n 2, 1) := by decide +kernel
theorem dX0_soundSaidBy_18 : decode cX0_soundSaidBy 18 = .ok (.ireturn, 1) := by decide +kernel
theorem dX0_soundSaidBy_19 : decode cX0_soundSaidBy 19 = .ok (.aload_n 0, 1) := by decide +kernel
theorem dX0_soundSaidBy_20 : decode cX0_soundSaidBy 20 = .ok (.getfield 21, 3) := by decide +kernel
theorem dX0_soundSaidBy_23 : decode cX0_soundSaidBy 23 = .ok (.iload_n 2, 1) := by decide +kernel
theorem dX0_soundSaidBy_24 : decode cX0_soundSaidBy 24 = .ok (.invokestatic 104, 3) := by decide +kernel
theorem dX0_soundSaidBy_27 : decode cX0_soundSaidBy 27 = .ok (.istore 4, 2) := by decide +kernel
theorem dX0_soundSaidBy_29 : decode cX0_soundSaidBy 29 = .ok (.iload 4, 2) := by decide +kernel
theorem dX0_soundSaidBy_31 : decode cX0_soundSaidBy 31 = .ok (.bipush (-4), 2) := by decide +kernel
theorem dX0_soundSaidBy_33 : decode cX0_soundSaidBy 33 = .ok (.if_icmp .eq 17, 3) := by decide +kernel
theorem dX0_soundSaidBy_36 : decode cX0_soundSaidBy 36 = .ok (.iload_n 3, 1) := by decide +kernel
theorem dX0_soundSaidBy_37 : decode cX0_soundSaidBy 37 = .ok (.iload 4, 2) := by decide +kernel
theorem dX0_soundSaidBy_39 : decode cX0_soundSaidBy 39 = .ok (.ishr, 1) := by decide +kernel
theorem dX0_soundSaidBy_40 : decode cX0_soundSaidBy 40 = .ok (.iconst 1, 1) := by decide +kernel
theorem dX0_soundSaidBy_41 : decode cX0_soundSaidBy 41 = .ok (.iand, 1) := by decide +kernel
theorem dX0_soundSaidBy_42 : decode cX0_soundSaidBy 42 = .ok (.ifCond .eq 8, 3) := by decide +kernel
theorem dX0_soundSaidBy_45 : decode cX0_soundSaidBy 45 = .ok (.iload 4, 2) := by decide +kernel
theorem dX0_soundSaidBy_47 : decode cX0_soundSaidBy 47 = .ok (.goto 5, 3) := by decide +kernel
theorem dX0_soundSaidBy_50 : decode cX0_soundSaidBy 50 = .ok (.bipush (-4), 2) := by decide +kernel
theorem dX0_soundSaidBy_52 : decode cX0_soundSaidBy 52 = .ok (.ireturn, 1) := by decide +kernel
set_option maxRecDepth 20000 in
theorem ggX0_saidBy_X8_length : GoodIn wsX0_saidBy wsX8_length := goodIn_r _ [4] (by decide +kernel) (by decide +kernel)
set_option maxRecDepth 20000 in
theorem gX0_saidBy_X8_length : GoodIn wsX0_saidBy (va_wsS RX0 111 yX8_length wsX8_length) := goodIn_app (goodIn_of _ (by decide +kernel)) ggX0_saidBy_X8_length
set_option maxRecDepth 20000 in
theorem ggX0_saidBy_X8_soundAt : GoodIn wsX0_saidBy wsX8_soundAt := goodIn_r _ [7] (by decide +kernel) (by decide +kernel)
set_option maxRecDepth 20000 in
theorem gX0_saidBy_X8_soundAt : GoodIn wsX0_saidBy (va_wsS RX0 101 yX8_soundAt wsX8_soundAt) := goodIn_app (goodIn_of _ (by decide +kernel)) ggX0_saidBy_X8_soundAt
set_option maxRecDepth 20000 in
theorem ggX0_saidBy_X0_soundSaidBy : GoodIn wsX0_saidBy wsX0_soundSaidBy := goodIn_r _ [12, 13, 14, 15, 16, 17, 18, 23, 24, 25, 26, 27, 28, 29, 30, 31] (by decide +kernel) (by decide +kernel)
set_option maxRecDepth 20000 in
theorem gX0_saidBy_X0_soundSaidBy : GoodIn wsX0_saidBy (wsV RX0 114 RX0 yX0_soundSaidBy wsX0_soundSaidBy) := goodIn_app (goodIn_of _ (by decide +kernel)) ggX0_saidBy_X0_soundSaidBy
set_option maxRecDepth 20000 in
theorem ggX0_saidBy_X8_with : GoodIn wsX0_saidBy wsX8_with := goodIn_r _ [21, 22, 2, 3, 4] (by decide +kernel) (by decide +kernel)
set_option maxRecDepth 20000 in
theorem gX0_saidBy_X8_with : GoodIn wsX0_saidBy (va_wsS RX0 117 yX8_with wsX8_with) := goodIn_app (goodIn_of _ (by decide +kernel)) ggX0_saidBy_X8_with
theorem dX0_saidBy_0 : decode cX0_saidBy 0 = .ok (.iconst 0, 1) := by decide +kernel
theorem dX0_saidBy_1 : decode cX0_saidBy 1 = .ok (.istore_n 3, 1) := by decide +kernel
theorem dX0_saidBy_2 : decode cX0_saidBy 2 = .ok (.iconst 0, 1) := by decide +kernel
theorem dX0_saidBy_3 : decode cX0_saidBy 3 = .ok (.istore 4, 2) := by decide +kernel
theorem dX0_saidBy_5 : decode cX0_saidBy 5 = .ok (.iload 4, 2) := by decide +kernel
theorem dX0_saidBy_7 : decode cX0_saidBy 7 = .ok (.iload_n 2, 1) := by decide +kernel
theorem dX0_saidBy_8 : decode cX0_saidBy 8 = .ok (.invokestatic 111, 3) := by decide +kernel
theorem dX0_saidBy_11 : decode cX0_saidBy 11 = .ok (.if_icmp .ge 36, 3) := by decide +kernel
theorem dX0_saidBy_14 : decode cX0_saidBy 14 = .ok (.aload_n 0, 1) := by decide +kernel
theorem dX0_saidBy_15 : decode cX0_saidBy 15 = .ok (.iload_n 1, 1) := by decide +kernel
theorem dX0_saidBy_16 : decode cX0_saidBy 16 = .ok (.iload_n 2, 1) := by decide +kernel
theorem dX0_saidBy_17 : decode cX0_saidBy 17 = .ok (.iload 4, 2) := by decide +kernel
theorem dX0_saidBy_19 : decode cX0_saidBy 19 = .ok (.invokestatic 101, 3) := by decide +kernel
theorem dX0_saidBy_22 : decode cX0_saidBy 22 = .ok (.invokevirtual 114, 3) := by decide +kernel
theorem dX0_saidBy_25 : decode cX0_saidBy 25 = .ok (.istore 5, 2) := by decide +kernel
theorem dX0_saidBy_27 : decode cX0_saidBy 27 = .ok (.iload 5, 2) := by decide +kernel
theorem dX0_saidBy_29 : decode cX0_saidBy 29 = .ok (.bipush (-4), 2) := by decide +kernel
theorem dX0_saidBy_31 : decode cX0_saidBy 31 = .ok (.if_icmp .eq 10, 3) := by decide +kernel
theorem dX0_saidBy_34 : decode cX0_saidBy 34 = .ok (.iload_n 3, 1) := by decide +kernel
theorem dX0_saidBy_35 : decode cX0_saidBy 35 = .ok (.iload 5, 2) := by decide +kernel
theorem dX0_saidBy_37 : decode cX0_saidBy 37 = .ok (.invokestatic 117, 3) := by decide +kernel
theorem dX0_saidBy_40 : decode cX0_saidBy 40 = .ok (.istore_n 3, 1) := by decide +kernel
theorem dX0_saidBy_41 : decode cX0_saidBy 41 = .ok (.iinc 4 1, 3) := by decide +kernel
theorem dX0_saidBy_44 : decode cX0_saidBy 44 = .ok (.goto (-39), 3) := by decide +kernel
theorem dX0_saidBy_47 : decode cX0_saidBy 47 = .ok (.iload_n 3, 1) := by decide +kernel
theorem dX0_saidBy_48 : decode cX0_saidBy 48 = .ok (.ireturn, 1) := by decide +kernel
theorem dX1_init_0 : decode cX1_init 0 = .ok (.aload_n 0, 1) := by decide +kernel
theorem dX1_init_1 : decode cX1_init 1 = .ok (.invokespecial 3, 3) := by decide +kernel
theorem dX1_init_4 : decode cX1_init 4 = .ok (.aload_n 0, 1) := by decide +kernel
theorem dX1_init_5 : decode cX1_init 5 = .ok (.bipush 81, 2) := by decide +kernel
theorem dX1_init_7 : decode cX1_init 7 = .ok (.newarray .long, 2) := by decide +kernel
theorem dX1_init_9 : decode cX1_init 9 = .ok (.putfield 11, 3) := by decide +kernel
theorem dX1_init_12 : decode cX1_init 12 = .ok (.aload_n 0, 1) := by decide +kernel
theorem dX1_init_13 : decode cX1_init 13 = .ok (.bipush 81, 2) := by decide +kernel
theorem dX1_init_15 : decode cX1_init 15 = .ok (.newarray .long, 2) := by decide +kernel
theorem dX1_init_17 : decode cX1_init 17 = .ok (.putfield 15, 3) := by decide +kernel
theorem dX1_init_20 : decode cX1_init 20 = .ok (.aload_n 0, 1) := by decide +kernel
theorem dX1_init_21 : decode cX1_init 21 = .ok (.iconst 1, 1) := by decide +kernel
theorem dX1_init_22 : decode cX1_init 22 = .ok (.putfield 18, 3) := by decide +kernel
theorem dX1_init_25 : decode cX1_init 25 = .ok (.aload_n 0, 1) := by decide +kernel
theorem dX1_init_26 : decode cX1_init 26 = .ok (.iconst 1, 1) := by decide +kernel
theorem dX1_init_27 : decode cX1_init 27 = .ok (.putfield 22, 3) := by decide +kernel
theorem dX1_init_30 : decode cX1_init 30 = .ok (.return_, 1) := by decide +kernel
theorem dX1_gather_0 : decode cX1_gather 0 = .ok (.aload_n 0, 1) := by decide +kernel
theorem dX1_gather_1 : decode cX1_gather 1 = .ok (.iconst 1, 1) := by decide +kernel
theorem dX1_gather_2 : decode cX1_gather 2 = .ok (.iload_n 1, 1) := by decide +kernel
theorem dX1_gather_3 : decode cX1_gather 3 = .ok (.bipush 8, 2) := by decide +kernel
theorem dX1_gather_5 : decode cX1_gather 5 = .ok (.invokestatic 25, 3) := by decide +kernel
theorem dX1_gather_8 : decode cX1_gather 8 = .ok (.invokestatic 31, 3) := by decide +kernel
theorem dX1_gather_11 : decode cX1_gather 11 = .ok (.putfield 18, 3) := by decide +kernel
theorem dX1_gather_14 : decode cX1_gather 14 = .ok (.aload_n 0, 1) := by decide +kernel
theorem dX1_gather_15 : decode cX1_gather 15 = .ok (.iconst 1, 1) := by decide +kernel
theorem dX1_gather_16 : decode cX1_gather 16 = .ok (.iload_n 2, 1) := by decide +kernel
theorem dX1_gather_17 : decode cX1_gather 17 = .ok (.bipush 8, 2) := by decide +kernel
theorem dX1_gather_19 : decode cX1_gather 19 = .ok (.invokestatic 25, 3) := by decide +kernel
theorem dX1_gather_22 : decode cX1_gather 22 = .ok (.invokestatic 31, 3) := by decide +kernel
theorem dX1_gather_25 : decode cX1_gather 25 = .ok (.putfield 22, 3) := by decide +kernel
theorem dX1_gather_28 : decode cX1_gather 28 = .ok (.return_, 1) := by decide +kernel
theorem dX1_habits_0 : decode cX1_habits 0 = .ok (.aload_n 0, 1) := by decide +kernel
theorem dX1_habits_1 : decode cX1_habits 1 = .ok (.iload_n 1, 1) := by decide +kernel
theorem dX1_habits_2 : decode cX1_habits 2 = .ok (.ifCond .eq 7, 3) := by decide +kernel
theorem dX1_habits_5 : decode cX1_habits 5 = .ok (.iconst 0, 1) := by decide +kernel
theorem dX1_habits_6 : decode cX1_habits 6 = .ok (.goto 9, 3) := by decide +kernel
theorem dX1_habits_9 : decode cX1_habits 9 = .ok (.bipush 10, 2) := by decide +kernel
theorem dX1_habits_11 : decode cX1_habits 11 = .ok (.iload_n 2, 1) := by decide +kernel
theorem dX1_habits_12 : decode cX1_habits 12 = .ok (.isub, 1) := by decide +kernel
theorem dX1_habits_13 : decode cX1_habits 13 = .ok (.iload_n 3, 1) := by decide +kernel
theorem dX1_habits_14 : decode cX1_habits 14 = .ok (.imul, 1) := by decide +kernel
theorem dX1_habits_15 : decode cX1_habits 15 = .ok (.putfield 34, 3) := by decide +kernel
theorem dX1_habits_18 : decode cX1_habits 18 = .ok (.aload_n 0, 1) := by decide +kernel
theorem dX1_habits_19 : decode cX1_habits 19 = .ok (.iload_n 1, 1) := by decide +kernel
theorem dX1_habits_20 : decode cX1_habits 20 = .ok (.ifCond .eq 7, 3) := by decide +kernel
theorem dX1_habits_23 : decode cX1_habits 23 = .ok (.iconst 0, 1) := by decide +kernel
theorem dX1_habits_24 : decode cX1_habits 24 = .ok (.goto 7, 3) := by decide +kernel
theorem dX1_habits_27 : decode cX1_habits 27 = .ok (.iload_n 2, 1) := by decide +kernel
theorem dX1_habits_28 : decode cX1_habits 28 = .ok (.iload 4, 2) := by decide +kernel
theorem dX1_habits_30 : decode cX1_habits 30 = .ok (.imul, 1) := by decide +kernel
theorem dX1_habits_31 : decode cX1_habits 31 = .ok (.putfield 37, 3) := by decide +kernel
theorem dX1_habits_34 : decode cX1_habits 34 = .ok (.return_, 1) := by decide +kernel
set_option maxRecDepth 20000 in
theorem ggX1_begin_J7_fill_d0a16 : GoodIn wsX1_begin wsJ7_fill_d0a16 := goodIn_r _ [6] (by decide +kernel) (by decide +kernel)
set_option maxRecDepth 20000 in
theorem gX1_begin_J7_fill_d0a16 : GoodIn wsX1_begin (va_wsS RX1 40 yJ7_fill_d0a16 wsJ7_fill_d0a16) := goodIn_app (goodIn_of _ (by decide +kernel)) ggX1_begin_J7_fill_d0a16
set_option maxRecDepth 20000 in
theorem ggX1_begin_X1_place : GoodIn wsX1_begin wsX1_place := goodIn_r _ [10] (by decide +kernel) (by decide +kernel)
set_option maxRecDepth 20000 in
theorem gX1_begin_X1_place : GoodIn wsX1_begin (va_wsS RX1 46 yX1_place wsX1_place) := goodIn_app (goodIn_of _ (by decide +kernel)) ggX1_begin_X1_place
set_option maxRecDepth 20000 in
theorem ggX1_begin_X5_add : GoodIn wsX1_begin wsX5_add := goodIn_r _ [14] (by decide +kernel) (by decide +kernel)
set_option maxRecDepth 20000 in
theorem gX1_begin_X5_add : GoodIn wsX1_begin (va_wsS RX1 51 yX5_add wsX5_add) := goodIn_app (goodIn_of _ (by decide +kernel)) ggX1_begin_X5_add
theorem dX1_begin_0 : decode cX1_begin 0 = .ok (.aload_n 0, 1) := by decide +kernel
theorem dX1_begin_1 : decode cX1_begin 1 = .ok (.getfield 11, 3) := by decide +kernel
theorem dX1_begin_4 : decode cX1_begin 4 = .ok (.lconst 0, 1) := by decide +kernel
theorem dX1_begin_5 : decode cX1_begin 5 = .ok (.invokestatic 40, 3) := by decide +kernel
theorem dX1_begin_8 : decode cX1_begin 8 = .ok (.aload_n 0, 1) := by decide +kernel
theorem dX1_begin_9 : decode cX1_begin 9 = .ok (.getfield 11, 3) := by decide +kernel
theorem dX1_begin_12 : decode cX1_begin 12 = .ok (.iload_n 1, 1) := by decide +kernel
theorem dX1_begin_13 : decode cX1_begin 13 = .ok (.iload_n 2, 1) := by decide +kernel
theorem dX1_begin_14 : decode cX1_begin 14 = .ok (.invokestatic 46, 3) := by decide +kernel
theorem dX1_begin_17 : decode cX1_begin 17 = .ok (.ldc2_w 49, 3) := by decide +kernel
theorem dX1_begin_20 : decode cX1_begin 20 = .ok (.invokestatic 51, 3) := by decide +kernel
theorem dX1_begin_23 : decode cX1_begin 23 = .ok (.return_, 1) := by decide +kernel
set_option maxRecDepth 20000 in
theorem ggX1_meet_X1_meetOnce : GoodIn wsX1_meet wsX1_meetOnce := goodIn_r _ [5, 6, 7, 8, 9, 10, 11, 12, 13, 14, 15, 16, 17, 4, 18, 19, 20, 21, 22, 23, 24, 25, 26, 27, 28, 29, 30, 31, 32, 33, 34, 35, 36, 37, 38, 39, 40, 41, 42] (by decide +kernel) (by decide +kernel)
set_option maxRecDepth 20000 in
theorem gX1_meet_X1_meetOnce : GoodIn wsX1_meet (wsV RX1 57 RX1 yX1_meetOnce wsX1_meetOnce) := goodIn_app (goodIn_of _ (by decide +kernel)) ggX1_meet_X1_meetOnce
theorem dX1_meet_0 : decode cX1_meet 0 = .ok (.iconst 1, 1) := by decide +kernel
theorem dX1_meet_1 : decode cX1_meet 1 = .ok (.istore_n 2, 1) := by decide +kernel
theorem dX1_meet_2 : decode cX1_meet 2 = .ok (.iconst 0, 1) := by decide +kernel
theorem dX1_meet_3 : decode cX1_meet 3 = .ok (.istore_n 3, 1) := by decide +kernel
theorem dX1_meet_4 : decode cX1_meet 4 = .ok (.iload_n 3, 1) := by decide +kernel
theorem dX1_meet_5 : decode cX1_meet 5 = .ok (.iload_n 1, 1) := by decide +kernel
theorem dX1_meet_6 : decode cX1_meet 6 = .ok (.if_icmp .ge 18, 3) := by decide +kernel
theorem dX1_meet_9 : decode cX1_meet 9 = .ok (.iload_n 2, 1) := by decide +kernel
theorem dX1_meet_10 : decode cX1_meet 10 = .ok (.ifCond .eq 14, 3) := by decide +kernel
theorem dX1_meet_13 : decode cX1_meet 13 = .ok (.aload_n 0, 1) := by decide +kernel
theorem dX1_meet_14 : decode cX1_meet 14 = .ok (.invokevirtual 57, 3) := by decide +kernel
theorem dX1_meet_17 : decode cX1_meet 17 = .ok (.istore_n 2, 1) := by decide +kernel
theorem dX1_meet_18 : decode cX1_meet 18 = .ok (.iinc 3 1, 3) := by decide +kernel
theorem dX1_meet_21 : decode cX1_meet 21 = .ok (.goto (-17), 3) := by decide +kernel
theorem dX1_meet_24 : decode cX1_meet 24 = .ok (.return_, 1) := by decide +kernel
set_option maxRecDepth 20000 in
theorem ggX1_meetOnce_X1_part : GoodIn wsX1_meetOnce wsX1_part := goodIn_r _ [14, 2, 8, 9, 15, 16, 17, 18, 13, 19, 20, 21, 22, 23, 24, 25, 26, 27, 28, 3, 1, 29, 30, 31, 32, 33, 34, 35, 36, 37, 38] (by decide +kernel) (by decide +kernel)
set_option maxRecDepth 20000 in
theorem gX1_meetOnce_X1_part : GoodIn wsX1_meetOnce (wsV RX1 71 RX1 yX1_part wsX1_part) := goodIn_app (goodIn_of _ (by decide +kernel)) ggX1_meetOnce_X1_part
theorem dX1_meetOnce_0 : decode cX1_meetOnce 0 = .ok (.aload_n 0, 1) := by decide +kernel
theorem dX1_meetOnce_1 : decode cX1_meetOnce 1 = .ok (.iconst 0, 1) := by decide +kernel
theorem dX1_meetOnce_2 : decode cX1_meetOnce 2 = .ok (.putfield 61, 3) := by decide +kernel
theorem dX1_meetOnce_5 : decode cX1_meetOnce 5 = .ok (.aload_n 0, 1) := by decide +kernel
theorem dX1_meetOnce_6 : decode cX1_meetOnce 6 = .ok (.getfield 11, 3) := by decide +kernel
theorem dX1_meetOnce_9 : decode cX1_meetOnce 9 = .ok (.iconst 0, 1) := by decide +kernel
theorem dX1_meetOnce_10 : decode cX1_meetOnce 10 = .ok (.aload_n 0, 1) := by decide +kernel
theorem dX1_meetOnce_11 : decode cX1_meetOnce 11 = .ok (.getfield 15, 3) := by decide +kernel
theorem dX1_meetOnce_14 : decode cX1_meetOnce 14 = .ok (.iconst 0, 1) := by decide +kernel
theorem dX1_meetOnce_15 : decode cX1_meetOnce 15 = .ok (.aload_n 0, 1) := by decide +kernel
theorem dX1_meetOnce_16 : decode cX1_meetOnce 16 = .ok (.getfield 11, 3) := by decide +kernel
theorem dX1_meetOnce_19 : decode cX1_meetOnce 19 = .ok (.arraylength, 1) := by decide +kernel
theorem dX1_meetOnce_20 : decode cX1_meetOnce 20 = .ok (.invokestatic 65, 3) := by decide +kernel
theorem dX1_meetOnce_23 : decode cX1_meetOnce 23 = .ok (.iconst 0, 1) := by decide +kernel
theorem dX1_meetOnce_24 : decode cX1_meetOnce 24 = .ok (.istore_n 1, 1) := by decide +kernel
theorem dX1_meetOnce_25 : decode cX1_meetOnce 25 = .ok (.iload_n 1, 1) := by decide +kernel
theorem dX1_meetOnce_26 : decode cX1_meetOnce 26 = .ok (.aload_n 0, 1) := by decide +kernel
theorem dX1_meetOnce_27 : decode cX1_meetOnce 27 = .ok (.getfield 18, 3) := by decide +kernel
theorem dX1_meetOnce_30 : decode cX1_meetOnce 30 = .ok (.if_icmp .gt 31, 3) := by decide +kernel
theorem dX1_meetOnce_33 : decode cX1_meetOnce 33 = .ok (.iconst 0, 1) := by decide +kernel
theorem dX1_meetOnce_34 : decode cX1_meetOnce 34 = .ok (.istore_n 2, 1) := by decide +kernel
theorem dX1_meetOnce_35 : decode cX1_meetOnce 35 = .ok (.iload_n 2, 1) := by decide +kernel
theorem dX1_meetOnce_36 : decode cX1_meetOnce 36 = .ok (.aload_n 0, 1) := by decide +kernel
theorem dX1_meetOnce_37 : decode cX1_meetOnce 37 = .ok (.getfield 22, 3) := by decide +kernel
theorem dX1_meetOnce_40 : decode cX1_meetOnce 40 = .ok (.if_icmp .gt 15, 3) := by decide +kernel
theorem dX1_meetOnce_43 : decode cX1_meetOnce 43 = .ok (.aload_n 0, 1) := by decide +kernel
theorem dX1_meetOnce_44 : decode cX1_meetOnce 44 = .ok (.iload_n 1, 1) := by decide +kernel
theorem dX1_meetOnce_45 : decode cX1_meetOnce 45 = .ok (.iload_n 2, 1) := by decide +kernel
theorem dX1_meetOnce_46 : decode cX1_meetOnce 46 = .ok (.invokevirtual 71, 3) := by decide +kernel
theorem dX1_meetOnce_49 : decode cX1_meetOnce 49 = .ok (.iinc 2 1, 3) := by decide +kernel
theorem dX1_meetOnce_52 : decode cX1_meetOnce 52 = .ok (.goto (-17), 3) := by decide +kernel
theorem dX1_meetOnce_55 : decode cX1_meetOnce 55 = .ok (.iinc 1 1, 3) := by decide +kernel
theorem dX1_meetOnce_58 : decode cX1_meetOnce 58 = .ok (.goto (-33), 3) := by decide +kernel
theorem dX1_meetOnce_61 : decode cX1_meetOnce 61 = .ok (.aload_n 0, 1) := by decide +kernel
theorem dX1_meetOnce_62 : decode cX1_meetOnce 62 = .ok (.getfield 15, 3) := by decide +kernel
theorem dX1_meetOnce_65 : decode cX1_meetOnce 65 = .ok (.iconst 0, 1) := by decide +kernel
theorem dX1_meetOnce_66 : decode cX1_meetOnce 66 = .ok (.aload_n 0, 1) := by decide +kernel
theorem dX1_meetOnce_67 : decode cX1_meetOnce 67 = .ok (.getfield 11, 3) := by decide +kernel
theorem dX1_meetOnce_70 : decode cX1_meetOnce 70 = .ok (.iconst 0, 1) := by decide +kernel
theorem dX1_meetOnce_71 : decode cX1_meetOnce 71 = .ok (.aload_n 0, 1) := by decide +kernel
theorem dX1_meetOnce_72 : decode cX1_meetOnce 72 = .ok (.getfield 11, 3) := by decide +kernel
theorem dX1_meetOnce_75 : decode cX1_meetOnce 75 = .ok (.arraylength, 1) := by decide +kernel
theorem dX1_meetOnce_76 : decode cX1_meetOnce 76 = .ok (.invokestatic 65, 3) := by decide +kernel
theorem dX1_meetOnce_79 : decode cX1_meetOnce 79 = .ok (.aload_n 0, 1) := by decide +kernel
theorem dX1_meetOnce_80 : decode cX1_meetOnce 80 = .ok (.getfield 61, 3) := by decide +kernel
theorem dX1_meetOnce_83 : decode cX1_meetOnce 83 = .ok (.ireturn, 1) := by decide +kernel
set_option maxRecDepth 20000 in
theorem ggX1_inStand_X1_place : GoodIn wsX1_inStand wsX1_place := goodIn_r _ [5] (by decide +kernel) (by decide +kernel)
set_option maxRecDepth 20000 in
theorem gX1_inStand_X1_place : GoodIn wsX1_inStand (va_wsS RX1 46 yX1_place wsX1_place) := goodIn_app (goodIn_of _ (by decide +kernel)) ggX1_inStand_X1_place
set_option maxRecDepth 20000 in
theorem ggX1_inStand_X5_at_ : GoodIn wsX1_inStand wsX5_at_ := goodIn_r _ [9] (by decide +kernel) (by decide +kernel)
set_option maxRecDepth 20000 in
theorem gX1_inStand_X5_at_ : GoodIn wsX1_inStand (va_wsS RX1 75 yX5_at_ wsX5_at_) := goodIn_app (goodIn_of _ (by decide +kernel)) ggX1_inStand_X5_at_
theorem dX1_inStand_0 : decode cX1_inStand 0 = .ok (.aload_n 0, 1) := by decide +kernel
theorem dX1_inStand_1 : decode cX1_inStand 1 = .ok (.getfield 11, 3) := by decide +kernel
theorem dX1_inStand_4 : decode cX1_inStand 4 = .ok (.iload_n 1, 1) := by decide +kernel
theorem dX1_inStand_5 : decode cX1_inStand 5 = .ok (.iload_n 2, 1) := by decide +kernel
theorem dX1_inStand_6 : decode cX1_inStand 6 = .ok (.invokestatic 46, 3) := by decide +kernel
theorem dX1_inStand_9 : decode cX1_inStand 9 = .ok (.invokestatic 75, 3) := by decide +kernel
theorem dX1_inStand_12 : decode cX1_inStand 12 = .ok (.lreturn, 1) := by decide +kernel
set_option maxRecDepth 20000 in
theorem ggX1_allSaying_X1_inStand : GoodIn wsX1_allSaying wsX1_inStand := goodIn_r _ [7, 8, 9, 10, 6, 11, 12, 13, 14, 15, 16, 17, 18, 19, 20, 21, 22] (by decide +kernel) (by decide +kernel)
set_option maxRecDepth 20000 in
theorem gX1_allSaying_X1_inStand : GoodIn wsX1_allSaying (wsV RX1 79 RX1 yX1_inStand wsX1_inStand) := goodIn_app (goodIn_of _ (by decide +kernel)) ggX1_allSaying_X1_inStand
theorem dX1_allSaying_0 : decode cX1_allSaying 0 = .ok (.iload_n 1, 1) := by decide +kernel
theorem dX1_allSaying_1 : decode cX1_allSaying 1 = .ok (.ifCond .ne 15, 3) := by decide +kernel
theorem dX1_allSaying_4 : decode cX1_allSaying 4 = .ok (.aload_n 0, 1) := by decide +kernel
theorem dX1_allSaying_5 : decode cX1_allSaying 5 = .ok (.iconst 0, 1) := by decide +kernel
theorem dX1_allSaying_6 : decode cX1_allSaying 6 = .ok (.aload_n 0, 1) := by decide +kernel
theorem dX1_allSaying_7 : decode cX1_allSaying 7 = .ok (.getfield 22, 3) := by decide +kernel
theorem dX1_allSaying_10 : decode cX1_allSaying 10 = .ok (.invokevirtual 79, 3) := by decide +kernel
theorem dX1_allSaying_13 : decode cX1_allSaying 13 = .ok (.goto 12, 3) := by decide +kernel
theorem dX1_allSaying_16 : decode cX1_allSaying 16 = .ok (.aload_n 0, 1) := by decide +kernel
theorem dX1_allSaying_17 : decode cX1_allSaying 17 = .ok (.aload_n 0, 1) := by decide +kernel
theorem dX1_allSaying_18 : decode cX1_allSaying 18 = .ok (.getfield 18, 3) := by decide +kernel
theorem dX1_allSaying_21 : decode cX1_allSaying 21 = .ok (.iconst 0, 1) := by decide +kernel
theorem dX1_allSaying_22 : decode cX1_allSaying 22 = .ok (.invokevirtual 79, 3) := by decide +kernel
theorem dX1_allSaying_25 : decode cX1_allSaying 25 = .ok (.lreturn, 1) := by decide +kernel
set_option maxRecDepth 20000 in
theorem ggX1_sayingWordZero_X1_inStand : GoodIn wsX1_sayingWordZero wsX1_inStand := goodIn_r _ [7, 8, 9, 10, 6, 11, 12, 13, 14, 15, 16, 17, 18, 19, 20, 21, 22] (by decide +kernel) (by decide +kernel)
set_option maxRecDepth 20000 in
theorem gX1_sayingWordZero_X1_inStand : GoodIn wsX1_sayingWordZero (wsV RX1 79 RX1 yX1_inStand wsX1_inStand) := goodIn_app (goodIn_of _ (by decide +kernel)) ggX1_sayingWordZero_X1_inStand
theorem dX1_sayingWordZero_0 : decode cX1_sayingWordZero 0 = .ok (.lconst 0, 1) := by decide +kernel
theorem dX1_sayingWordZero_1 : decode cX1_sayingWordZero 1 = .ok (.lstore_n 1, 1) := by decide +kernel
theorem dX1_sayingWordZero_2 : decode cX1_sayingWordZero 2 = .ok (.iconst 0, 1) := by decide +kernel
theorem dX1_sayingWordZero_3 : decode cX1_sayingWordZero 3 = .ok (.istore_n 3, 1) := by decide +kernel
theorem dX1_sayingWordZero_4 : decode cX1_sayingWordZero 4 = .ok (.iload_n 3, 1) := by decide +kernel
theorem dX1_sayingWordZero_5 : decode cX1_sayingWordZero 5 = .ok (.aload_n 0, 1) := by decide +kernel
theorem dX1_sayingWordZero_6 : decode cX1_sayingWordZero 6 = .ok (.getfield 18, 3) := by decide +kernel
theorem dX1_sayingWordZero_9 : decode cX1_sayingWordZero 9 = .ok (.if_icmp .gt 48, 3) := by decide +kernel
theorem dX1_sayingWordZero_12 : decode cX1_sayingWordZero 12 = .ok (.iconst 0, 1) := by decide +kernel
theorem dX1_sayingWordZero_13 : decode cX1_sayingWordZero 13 = .ok (.istore 4, 2) := by decide +kernel
theorem dX1_sayingWordZero_15 : decode cX1_sayingWordZero 15 = .ok (.iload 4, 2) := by decide +kernel
theorem dX1_sayingWordZero_17 : decode cX1_sayingWordZero 17 = .ok (.aload_n 0, 1) := by decide +kernel
theorem dX1_sayingWordZero_18 : decode cX1_sayingWordZero 18 = .ok (.getfield 22, 3) := by decide +kernel
theorem dX1_sayingWordZero_21 : decode cX1_sayingWordZero 21 = .ok (.if_icmp .gt 30, 3) := by decide +kernel
theorem dX1_sayingWordZero_24 : decode cX1_sayingWordZero 24 = .ok (.lload_n 1, 1) := by decide +kernel
theorem dX1_sayingWordZero_25 : decode cX1_sayingWordZero 25 = .ok (.aload_n 0, 1) := by decide +kernel
theorem dX1_sayingWordZero_26 : decode cX1_sayingWordZero 26 = .ok (.getfield 18, 3) := by decide +kernel
theorem dX1_sayingWordZero_29 : decode cX1_sayingWordZero 29 = .ok (.iload_n 3, 1) := by decide +kernel
theorem dX1_sayingWordZero_30 : decode cX1_sayingWordZero 30 = .ok (.isub, 1) := by decide +kernel
theorem dX1_sayingWordZero_31 : decode cX1_sayingWordZero 31 = .ok (.iload 4, 2) := by decide +kernel
theorem dX1_sayingWordZero_33 : decode cX1_sayingWordZero 33 = .ok (.iadd, 1) := by decide +kernel
theorem dX1_sayingWordZero_34 : decode cX1_sayingWordZero 34 = .ok (.i2l, 1) := by decide +kernel
theorem dX1_sayingWordZero_35 : decode cX1_sayingWordZero 35 = .ok (.aload_n 0, 1) := by decide +kernel
theorem dX1_sayingWordZero_36 : decode cX1_sayingWordZero 36 = .ok (.iload_n 3, 1) := by decide +kernel
theorem dX1_sayingWordZero_37 : decode cX1_sayingWordZero 37 = .ok (.iload 4, 2) := by decide +kernel
theorem dX1_sayingWordZero_39 : decode cX1_sayingWordZero 39 = .ok (.invokevirtual 79, 3) := by decide +kernel
theorem dX1_sayingWordZero_42 : decode cX1_sayingWordZero 42 = .ok (.lmul, 1) := by decide +kernel
theorem dX1_sayingWordZero_43 : decode cX1_sayingWordZero 43 = .ok (.ladd, 1) := by decide +kernel
theorem dX1_sayingWordZero_44 : decode cX1_sayingWordZero 44 = .ok (.lstore_n 1, 1) := by decide +kernel
theorem dX1_sayingWordZero_45 : decode cX1_sayingWordZero 45 = .ok (.iinc 4 1, 3) := by decide +kernel
theorem dX1_sayingWordZero_48 : decode cX1_sayingWordZero 48 = .ok (.goto (-33), 3) := by decide +kernel
theorem dX1_sayingWordZero_51 : decode cX1_sayingWordZero 51 = .ok (.iinc 3 1, 3) := by decide +kernel
theorem dX1_sayingWordZero_54 : decode cX1_sayingWordZero 54 = .ok (.goto (-50), 3) := by decide +kernel
theorem dX1_sayingWordZero_57 : decode cX1_sayingWordZero 57 = .ok (.lload_n 1, 1) := by decide +kernel
theorem dX1_sayingWordZero_58 : decode cX1_sayingWordZero 58 = .ok (.lreturn, 1) := by decide +kernel
theorem dX1_place_0 : decode cX1_place 0 = .ok (.iload_n 0, 1) := by decide +kernel
theorem dX1_place_1 : decode cX1_place 1 = .ok (.bipush 9, 2) := by decide +kernel
theorem dX1_place_3 : decode cX1_place 3 = .ok (.imul, 1) := by decide +kernel
theorem dX1_place_4 : decode cX1_place 4 = .ok (.iload_n 1, 1) := by decide +kernel
theorem dX1_place_5 : decode cX1_place 5 = .ok (.iadd, 1) := by decide +kernel
theorem dX1_place_6 : decode cX1_place 6 = .ok (.ireturn, 1) := by decide +kernel
set_option maxRecDepth 20000 in
theorem ggX1_part_X1_place : GoodIn wsX1_part wsX1_place := goodIn_r _ [9] (by decide +kernel) (by decide +kernel)
set_option maxRecDepth 20000 in
theorem gX1_part_X1_place : GoodIn wsX1_part (va_wsS RX1 46 yX1_place wsX1_place) := goodIn_app (goodIn_of _ (by decide +kernel)) ggX1_part_X1_place
set_option maxRecDepth 20000 in
theorem ggX1_part_X5_at_ : GoodIn wsX1_part wsX5_at_ := goodIn_r _ [13] (by decide +kernel) (by decide +kernel)
set_option maxRecDepth 20000 in
theorem gX1_part_X5_at_ : GoodIn wsX1_part (va_wsS RX1 75 yX5_at_ wsX5_at_) := goodIn_app (goodIn_of _ (by decide +kernel)) ggX1_part_X5_at_
set_option maxRecDepth 20000 in
theorem ggX1_part_X1_go : GoodIn wsX1_part wsX1_go := goodIn_r _ [17, 18, 2, 3, 19, 20, 21, 22, 12, 23, 24, 25, 26, 27, 28, 29, 30] (by decide +kernel) (by decide +kernel)
set_option maxRecDepth 20000 in
theorem gX1_part_X1_go : GoodIn wsX1_part (wsV RX1 83 RX1 yX1_go wsX1_go) := goodIn_app (goodIn_of _ (by decide +kernel)) ggX1_part_X1_go
theorem dX1_part_0 : decode cX1_part 0 = .ok (.iload_n 1, 1) := by decide +kernel
theorem dX1_part_1 : decode cX1_part 1 = .ok (.iload_n 2, 1) := by decide +kernel
theorem dX1_part_2 : decode cX1_part 2 = .ok (.invokestatic 46, 3) := by decide +kernel
theorem dX1_part_5 : decode cX1_part 5 = .ok (.istore_n 3, 1) := by decide +kernel
theorem dX1_part_6 : decode cX1_part 6 = .ok (.aload_n 0, 1) := by decide +kernel
theorem dX1_part_7 : decode cX1_part 7 = .ok (.getfield 11, 3) := by decide +kernel
theorem dX1_part_10 : decode cX1_part 10 = .ok (.iload_n 3, 1) := by decide +kernel
theorem dX1_part_11 : decode cX1_part 11 = .ok (.invokestatic 75, 3) := by decide +kernel
theorem dX1_part_14 : decode cX1_part 14 = .ok (.lstore 4, 2) := by decide +kernel
theorem dX1_part_16 : decode cX1_part 16 = .ok (.lload 4, 2) := by decide +kernel
theorem dX1_part_18 : decode cX1_part 18 = .ok (.aload_n 0, 1) := by decide +kernel
theorem dX1_part_19 : decode cX1_part 19 = .ok (.getfield 18, 3) := by decide +kernel
theorem dX1_part_22 : decode cX1_part 22 = .ok (.iload_n 1, 1) := by decide +kernel
theorem dX1_part_23 : decode cX1_part 23 = .ok (.isub, 1) := by decide +kernel
theorem dX1_part_24 : decode cX1_part 24 = .ok (.aload_n 0, 1) := by decide +kernel
theorem dX1_part_25 : decode cX1_part 25 = .ok (.getfield 22, 3) := by decide +kernel
theorem dX1_part_28 : decode cX1_part 28 = .ok (.iload_n 2, 1) := by decide +kernel
theorem dX1_part_29 : decode cX1_part 29 = .ok (.isub, 1) := by decide +kernel
theorem dX1_part_30 : decode cX1_part 30 = .ok (.imul, 1) := by decide +kernel
theorem dX1_part_31 : decode cX1_part 31 = .ok (.i2l, 1) := by decide +kernel
theorem dX1_part_32 : decode cX1_part 32 = .ok (.lmul, 1) := by decide +kernel
theorem dX1_part_33 : decode cX1_part 33 = .ok (.lstore 6, 2) := by decide +kernel
theorem dX1_part_35 : decode cX1_part 35 = .ok (.lload 4, 2) := by decide +kernel
theorem dX1_part_37 : decode cX1_part 37 = .ok (.iload_n 1, 1) := by decide +kernel
theorem dX1_part_38 : decode cX1_part 38 = .ok (.iload_n 2, 1) := by decide +kernel
theorem dX1_part_39 : decode cX1_part 39 = .ok (.imul, 1) := by decide +kernel
theorem dX1_part_40 : decode cX1_part 40 = .ok (.i2l, 1) := by decide +kernel
theorem dX1_part_41 : decode cX1_part 41 = .ok (.lmul, 1) := by decide +kernel
theorem dX1_part_42 : decode cX1_part 42 = .ok (.lstore 8, 2) := by decide +kernel
theorem dX1_part_44 : decode cX1_part 44 = .ok (.lload 6, 2) := by decide +kernel
theorem dX1_part_46 : decode cX1_part 46 = .ok (.lconst 0, 1) := by decide +kernel
theorem dX1_part_47 : decode cX1_part 47 = .ok (.lcmp, 1) := by decide +kernel
theorem dX1_part_48 : decode cX1_part 48 = .ok (.ifCond .le 43, 3) := by decide +kernel
theorem dX1_part_51 : decode cX1_part 51 = .ok (.aload_n 0, 1) := by decide +kernel
theorem dX1_part_52 : decode cX1_part 52 = .ok (.iload_n 3, 1) := by decide +kernel
theorem dX1_part_53 : decode cX1_part 53 = .ok (.iload_n 1, 1) := by decide +kernel
theorem dX1_part_54 : decode cX1_part 54 = .ok (.iconst 1, 1) := by decide +kernel
theorem dX1_part_55 : decode cX1_part 55 = .ok (.iadd, 1) := by decide +kernel
theorem dX1_part_56 : decode cX1_part 56 = .ok (.iload_n 2, 1) := by decide +kernel
theorem dX1_part_57 : decode cX1_part 57 = .ok (.invokestatic 46, 3) := by decide +kernel
theorem dX1_part_60 : decode cX1_part 60 = .ok (.lload 6, 2) := by decide +kernel
theorem dX1_part_62 : decode cX1_part 62 = .ok (.aload_n 0, 1) := by decide +kernel
theorem dX1_part_63 : decode cX1_part 63 = .ok (.getfield 34, 3) := by decide +kernel
theorem dX1_part_66 : decode cX1_part 66 = .ok (.i2l, 1) := by decide +kernel
theorem dX1_part_67 : decode cX1_part 67 = .ok (.lmul, 1) := by decide +kernel
theorem dX1_part_68 : decode cX1_part 68 = .ok (.invokevirtual 83, 3) := by decide +kernel
theorem dX1_part_71 : decode cX1_part 71 = .ok (.aload_n 0, 1) := by decide +kernel
theorem dX1_part_72 : decode cX1_part 72 = .ok (.iload_n 3, 1) := by decide +kernel
theorem dX1_part_73 : decode cX1_part 73 = .ok (.iload_n 1, 1) := by decide +kernel
theorem dX1_part_74 : decode cX1_part 74 = .ok (.iload_n 2, 1) := by decide +kernel
theorem dX1_part_75 : decode cX1_part 75 = .ok (.iconst 1, 1) := by decide +kernel
theorem dX1_part_76 : decode cX1_part 76 = .ok (.iadd, 1) := by decide +kernel
theorem dX1_part_77 : decode cX1_part 77 = .ok (.invokestatic 46, 3) := by decide +kernel
theorem dX1_part_80 : decode cX1_part 80 = .ok (.lload 6, 2) := by decide +kernel
theorem dX1_part_82 : decode cX1_part 82 = .ok (.aload_n 0, 1) := by decide +kernel
theorem dX1_part_83 : decode cX1_part 83 = .ok (.getfield 37, 3) := by decide +kernel
theorem dX1_part_86 : decode cX1_part 86 = .ok (.i2l, 1) := by decide +kernel
theorem dX1_part_87 : decode cX1_part 87 = .ok (.lmul, 1) := by decide +kernel
theorem dX1_part_88 : decode cX1_part 88 = .ok (.invokevirtual 83, 3) := by decide +kernel
theorem dX1_part_91 : decode cX1_part 91 = .ok (.lload 8, 2) := by decide +kernel
theorem dX1_part_93 : decode cX1_part 93 = .ok (.lconst 0, 1) := by decide +kernel
theorem dX1_part_94 : decode cX1_part 94 = .ok (.lcmp, 1) := by decide +kernel
theorem dX1_part_95 : decode cX1_part 95 = .ok (.ifCond .le 43, 3) := by decide +kernel
theorem dX1_part_98 : decode cX1_part 98 = .ok (.aload_n 0, 1) := by decide +kernel
theorem dX1_part_99 : decode cX1_part 99 = .ok (.iload_n 3, 1) := by decide +kernel
theorem dX1_part_100 : decode cX1_part 100 = .ok (.iload_n 1, 1) := by decide +kernel
theorem dX1_part_101 : decode cX1_part 101 = .ok (.iconst 1, 1) := by decide +kernel
theorem dX1_part_102 : decode cX1_part 102 = .ok (.isub, 1) := by decide +kernel
theorem dX1_part_103 : decode cX1_part 103 = .ok (.iload_n 2, 1) := by decide +kernel
theorem dX1_part_104 : decode cX1_part 104 = .ok (.invokestatic 46, 3) := by decide +kernel
theorem dX1_part_107 : decode cX1_part 107 = .ok (.lload 8, 2) := by decide +kernel
theorem dX1_part_109 : decode cX1_part 109 = .ok (.aload_n 0, 1) := by decide +kernel
theorem dX1_part_110 : decode cX1_part 110 = .ok (.getfield 34, 3) := by decide +kernel
theorem dX1_part_113 : decode cX1_part 113 = .ok (.i2l, 1) := by decide +kernel
theorem dX1_part_114 : decode cX1_part 114 = .ok (.lmul, 1) := by decide +kernel
theorem dX1_part_115 : decode cX1_part 115 = .ok (.invokevirtual 83, 3) := by decide +kernel
theorem dX1_part_118 : decode cX1_part 118 = .ok (.aload_n 0, 1) := by decide +kernel
theorem dX1_part_119 : decode cX1_part 119 = .ok (.iload_n 3, 1) := by decide +kernel
theorem dX1_part_120 : decode cX1_part 120 = .ok (.iload_n 1, 1) := by decide +kernel
theorem dX1_part_121 : decode cX1_part 121 = .ok (.iload_n 2, 1) := by decide +kernel
theorem dX1_part_122 : decode cX1_part 122 = .ok (.iconst 1, 1) := by decide +kernel
theorem dX1_part_123 : decode cX1_part 123 = .ok (.isub, 1) := by decide +kernel
theorem dX1_part_124 : decode cX1_part 124 = .ok (.invokestatic 46, 3) := by decide +kernel
theorem dX1_part_127 : decode cX1_part 127 = .ok (.lload 8, 2) := by decide +kernel
theorem dX1_part_129 : decode cX1_part 129 = .ok (.aload_n 0, 1) := by decide +kernel
theorem dX1_part_130 : decode cX1_part 130 = .ok (.getfield 37, 3) := by decide +kernel
theorem dX1_part_133 : decode cX1_part 133 = .ok (.i2l, 1) := by decide +kernel
theorem dX1_part_134 : decode cX1_part 134 = .ok (.lmul, 1) := by decide +kernel
theorem dX1_part_135 : decode cX1_part 135 = .ok (.invokevirtual 83, 3) := by decide +kernel
theorem dX1_part_138 : decode cX1_part 138 = .ok (.return_, 1) := by decide +kernel
set_option maxRecDepth 20000 in
theorem ggX1_go_X5_add : GoodIn wsX1_go wsX5_add := goodIn_r _ [9] (by decide +kernel) (by decide +kernel)
set_option maxRecDepth 20000 in
theorem gX1_go_X5_add : GoodIn wsX1_go (va_wsS RX1 51 yX5_add wsX5_add) := goodIn_app (goodIn_of _ (by decide +kernel)) ggX1_go_X5_add
theorem dX1_go_0 : decode cX1_go 0 = .ok (.ldc2_w 87, 3) := by decide +kernel
theorem dX1_go_3 : decode cX1_go 3 = .ok (.aload_n 0, 1) := by decide +kernel
theorem dX1_go_4 : decode cX1_go 4 = .ok (.getfield 18, 3) := by decide +kernel
theorem dX1_go_7 : decode cX1_go 7 = .ok (.i2l, 1) := by decide +kernel
theorem dX1_go_8 : decode cX1_go 8 = .ok (.lmul, 1) := by decide +kernel
theorem dX1_go_9 : decode cX1_go 9 = .ok (.aload_n 0, 1) := by decide +kernel
theorem dX1_go_10 : decode cX1_go 10 = .ok (.getfield 22, 3) := by decide +kernel
theorem dX1_go_13 : decode cX1_go 13 = .ok (.i2l, 1) := by decide +kernel
theorem dX1_go_14 : decode cX1_go 14 = .ok (.lmul, 1) := by decide +kernel
theorem dX1_go_15 : decode cX1_go 15 = .ok (.lstore 5, 2) := by decide +kernel
theorem dX1_go_17 : decode cX1_go 17 = .ok (.lload 5, 2) := by decide +kernel
theorem dX1_go_19 : decode cX1_go 19 = .ok (.lconst 0, 1) := by decide +kernel
theorem dX1_go_20 : decode cX1_go 20 = .ok (.lcmp, 1) := by decide +kernel
theorem dX1_go_21 : decode cX1_go 21 = .ok (.ifCond .le 10, 3) := by decide +kernel
theorem dX1_go_24 : decode cX1_go 24 = .ok (.lload_n 3, 1) := by decide +kernel
theorem dX1_go_25 : decode cX1_go 25 = .ok (.lload 5, 2) := by decide +kernel
theorem dX1_go_27 : decode cX1_go 27 = .ok (.ldiv, 1) := by decide +kernel
theorem dX1_go_28 : decode cX1_go 28 = .ok (.goto 4, 3) := by decide +kernel
theorem dX1_go_31 : decode cX1_go 31 = .ok (.lconst 0, 1) := by decide +kernel
theorem dX1_go_32 : decode cX1_go 32 = .ok (.lstore 7, 2) := by decide +kernel
theorem dX1_go_34 : decode cX1_go 34 = .ok (.lload 7, 2) := by decide +kernel
theorem dX1_go_36 : decode cX1_go 36 = .ok (.lconst 0, 1) := by decide +kernel
theorem dX1_go_37 : decode cX1_go 37 = .ok (.lcmp, 1) := by decide +kernel
theorem dX1_go_38 : decode cX1_go 38 = .ok (.ifCond .le 29, 3) := by decide +kernel
theorem dX1_go_41 : decode cX1_go 41 = .ok (.aload_n 0, 1) := by decide +kernel
theorem dX1_go_42 : decode cX1_go 42 = .ok (.getfield 15, 3) := by decide +kernel
theorem dX1_go_45 : decode cX1_go 45 = .ok (.iload_n 1, 1) := by decide +kernel
theorem dX1_go_46 : decode cX1_go 46 = .ok (.lload 7, 2) := by decide +kernel
theorem dX1_go_48 : decode cX1_go 48 = .ok (.lneg, 1) := by decide +kernel
theorem dX1_go_49 : decode cX1_go 49 = .ok (.invokestatic 51, 3) := by decide +kernel
theorem dX1_go_52 : decode cX1_go 52 = .ok (.aload_n 0, 1) := by decide +kernel
theorem dX1_go_53 : decode cX1_go 53 = .ok (.getfield 15, 3) := by decide +kernel
theorem dX1_go_56 : decode cX1_go 56 = .ok (.iload_n 2, 1) := by decide +kernel
theorem dX1_go_57 : decode cX1_go 57 = .ok (.lload 7, 2) := by decide +kernel
theorem dX1_go_59 : decode cX1_go 59 = .ok (.invokestatic 51, 3) := by decide +kernel
theorem dX1_go_62 : decode cX1_go 62 = .ok (.aload_n 0, 1) := by decide +kernel
theorem dX1_go_63 : decode cX1_go 63 = .ok (.iconst 1, 1) := by decide +kernel
theorem dX1_go_64 : decode cX1_go 64 = .ok (.putfield 61, 3) := by decide +kernel
theorem dX1_go_67 : decode cX1_go 67 = .ok (.return_, 1) := by decide +kernel
theorem dX2_init_0 : decode cX2_init 0 = .ok (.aload_n 0, 1) := by decide +kernel
theorem dX2_init_1 : decode cX2_init 1 = .ok (.invokespecial 3, 3) := by decide +kernel
theorem dX2_init_4 : decode cX2_init 4 = .ok (.aload_n 0, 1) := by decide +kernel
theorem dX2_init_5 : decode cX2_init 5 = .ok (.iconst 3, 1) := by decide +kernel
theorem dX2_init_6 : decode cX2_init 6 = .ok (.newarray .int, 2) := by decide +kernel
theorem dX2_init_8 : decode cX2_init 8 = .ok (.putfield 9, 3) := by decide +kernel
theorem dX2_init_11 : decode cX2_init 11 = .ok (.aload_n 0, 1) := by decide +kernel
theorem dX2_init_12 : decode cX2_init 12 = .ok (.aload_n 1, 1) := by decide +kernel
theorem dX2_init_13 : decode cX2_init 13 = .ok (.putfield 15, 3) := by decide +kernel
theorem dX2_init_16 : decode cX2_init 16 = .ok (.return_, 1) := by decide +kernel
set_option maxRecDepth 20000 in
theorem ggX2_readAt_X7_at : GoodIn wsX2_readAt wsX7_at := goodIn_r _ [8, 9, 10, 74, 75] (by decide +kernel) (by decide +kernel)
set_option maxRecDepth 20000 in
theorem gX2_readAt_X7_at : GoodIn wsX2_readAt (wsV RX2 23 RX7 yX7_at wsX7_at) := goodIn_app (goodIn_of _ (by decide +kernel)) ggX2_readAt_X7_at
set_option maxRecDepth 20000 in
theorem ggX2_readAt_X2_readTold : GoodIn wsX2_readAt wsX2_readTold := goodIn_r _ [15, 3, 16, 17, 18, 19, 14, 20, 21, 22, 23, 24, 2, 1, 25, 4, 5, 6, 7, 8, 9, 10, 26, 27, 28, 29, 30, 31, 32, 33, 34, 35, 36, 37, 38, 39, 40, 41, 42, 43, 44, 45, 46, 47, 48, 49, 50, 51, 52, 53, 54, 55, 56, 57, 58, 59, 60, 61, 62, 63, 64, 65, 66, 67, 68, 69, 70, 71, 72, 73, 74, 75] (by decide +kernel) (by decide +kernel)
set_option maxRecDepth 20000 in
theorem gX2_readAt_X2_readTold : GoodIn wsX2_readAt (wsV RX2 32 RX2 yX2_readTold wsX2_readTold) := goodIn_app (goodIn_of _ (by decide +kernel)) ggX2_readAt_X2_readTold
set_option maxRecDepth 20000 in
theorem ggX2_readAt_X2_passes : GoodIn wsX2_readAt wsX2_passes := goodIn_r _ [36, 2, 1, 4, 5, 6, 7, 8, 9, 10, 68, 69, 70, 71, 72, 73, 74, 75] (by decide +kernel) (by decide +kernel)
set_option maxRecDepth 20000 in
theorem gX2_readAt_X2_passes : GoodIn wsX2_readAt (wsV RX2 36 RX2 yX2_passes wsX2_passes) := goodIn_app (goodIn_of _ (by decide +kernel)) ggX2_readAt_X2_passes
theorem dX2_readAt_0 : decode cX2_readAt 0 = .ok (.aload_n 0, 1) := by decide +kernel
theorem dX2_readAt_1 : decode cX2_readAt 1 = .ok (.iload_n 1, 1) := by decide +kernel
theorem dX2_readAt_2 : decode cX2_readAt 2 = .ok (.putfield 19, 3) := by decide +kernel
theorem dX2_readAt_5 : decode cX2_readAt 5 = .ok (.aload_n 0, 1) := by decide +kernel
theorem dX2_readAt_6 : decode cX2_readAt 6 = .ok (.aload_n 0, 1) := by decide +kernel
theorem dX2_readAt_7 : decode cX2_readAt 7 = .ok (.getfield 15, 3) := by decide +kernel
theorem dX2_readAt_10 : decode cX2_readAt 10 = .ok (.aload_n 0, 1) := by decide +kernel
theorem dX2_readAt_11 : decode cX2_readAt 11 = .ok (.getfield 19, 3) := by decide +kernel
theorem dX2_readAt_14 : decode cX2_readAt 14 = .ok (.invokevirtual 23, 3) := by decide +kernel
theorem dX2_readAt_17 : decode cX2_readAt 17 = .ok (.putfield 29, 3) := by decide +kernel
theorem dX2_readAt_20 : decode cX2_readAt 20 = .ok (.aload_n 0, 1) := by decide +kernel
theorem dX2_readAt_21 : decode cX2_readAt 21 = .ok (.dup, 1) := by decide +kernel
theorem dX2_readAt_22 : decode cX2_readAt 22 = .ok (.getfield 19, 3) := by decide +kernel
theorem dX2_readAt_25 : decode cX2_readAt 25 = .ok (.iconst 1, 1) := by decide +kernel
theorem dX2_readAt_26 : decode cX2_readAt 26 = .ok (.iadd, 1) := by decide +kernel
theorem dX2_readAt_27 : decode cX2_readAt 27 = .ok (.putfield 19, 3) := by decide +kernel
theorem dX2_readAt_30 : decode cX2_readAt 30 = .ok (.aload_n 0, 1) := by decide +kernel
theorem dX2_readAt_31 : decode cX2_readAt 31 = .ok (.invokevirtual 32, 3) := by decide +kernel
theorem dX2_readAt_34 : decode cX2_readAt 34 = .ok (.ifCond .eq 16, 3) := by decide +kernel
theorem dX2_readAt_37 : decode cX2_readAt 37 = .ok (.aload_n 0, 1) := by decide +kernel
theorem dX2_readAt_38 : decode cX2_readAt 38 = .ok (.bipush 59, 2) := by decide +kernel
theorem dX2_readAt_40 : decode cX2_readAt 40 = .ok (.invokevirtual 36, 3) := by decide +kernel
theorem dX2_readAt_43 : decode cX2_readAt 43 = .ok (.ifCond .eq 7, 3) := by decide +kernel
theorem dX2_readAt_46 : decode cX2_readAt 46 = .ok (.iconst 1, 1) := by decide +kernel
theorem dX2_readAt_47 : decode cX2_readAt 47 = .ok (.goto 4, 3) := by decide +kernel
theorem dX2_readAt_50 : decode cX2_readAt 50 = .ok (.iconst 0, 1) := by decide +kernel
theorem dX2_readAt_51 : decode cX2_readAt 51 = .ok (.ireturn, 1) := by decide +kernel
theorem dX2_letter_0 : decode cX2_letter 0 = .ok (.aload_n 0, 1) := by decide +kernel
theorem dX2_letter_1 : decode cX2_letter 1 = .ok (.getfield 29, 3) := by decide +kernel
theorem dX2_letter_4 : decode cX2_letter 4 = .ok (.ireturn, 1) := by decide +kernel
set_option maxRecDepth 20000 in
theorem ggX2_number_X5_at : GoodIn wsX2_number wsX5_at := goodIn_r _ [5] (by decide +kernel) (by decide +kernel)
set_option maxRecDepth 20000 in
theorem gX2_number_X5_at : GoodIn wsX2_number (va_wsS RX2 40 yX5_at wsX5_at) := goodIn_app (goodIn_of _ (by decide +kernel)) ggX2_number_X5_at
theorem dX2_number_0 : decode cX2_number 0 = .ok (.aload_n 0, 1) := by decide +kernel
theorem dX2_number_1 : decode cX2_number 1 = .ok (.getfield 9, 3) := by decide +kernel
theorem dX2_number_4 : decode cX2_number 4 = .ok (.iload_n 1, 1) := by decide +kernel
theorem dX2_number_5 : decode cX2_number 5 = .ok (.invokestatic 40, 3) := by decide +kernel
theorem dX2_number_8 : decode cX2_number 8 = .ok (.ireturn, 1) := by decide +kernel
theorem dX2_spelled_0 : decode cX2_spelled 0 = .ok (.aload_n 0, 1) := by decide +kernel
theorem dX2_spelled_1 : decode cX2_spelled 1 = .ok (.getfield 45, 3) := by decide +kernel
theorem dX2_spelled_4 : decode cX2_spelled 4 = .ok (.ireturn, 1) := by decide +kernel
theorem dX2_bits_0 : decode cX2_bits 0 = .ok (.aload_n 0, 1) := by decide +kernel
theorem dX2_bits_1 : decode cX2_bits 1 = .ok (.getfield 48, 3) := by decide +kernel
theorem dX2_bits_4 : decode cX2_bits 4 = .ok (.ireturn, 1) := by decide +kernel
theorem dX2_behind_0 : decode cX2_behind 0 = .ok (.aload_n 0, 1) := by decide +kernel
theorem dX2_behind_1 : decode cX2_behind 1 = .ok (.getfield 19, 3) := by decide +kernel
theorem dX2_behind_4 : decode cX2_behind 4 = .ok (.ireturn, 1) := by decide +kernel
set_option maxRecDepth 20000 in
theorem ggX2_readTold_X2_readNumbers : GoodIn wsX2_readTold wsX2_readNumbers := goodIn_r _ [7, 8, 9, 10, 6, 11, 12, 13, 14, 15, 16, 17, 18, 19, 20, 21, 22, 23, 24, 25, 26, 27, 28, 29, 30, 31, 32, 64, 65, 66, 67, 68, 69, 70, 71] (by decide +kernel) (by decide +kernel)
set_option maxRecDepth 20000 in
theorem gX2_readTold_X2_readNumbers : GoodIn wsX2_readTold (wsV RX2 51 RX2 yX2_readNumbers wsX2_readNumbers) := goodIn_app (goodIn_of _ (by decide +kernel)) ggX2_readTold_X2_readNumbers
set_option maxRecDepth 20000 in
theorem ggX2_readTold_X2_passes : GoodIn wsX2_readTold wsX2_passes := goodIn_r _ [32, 12, 13, 15, 16, 17, 18, 19, 20, 21, 64, 65, 66, 67, 68, 69, 70, 71] (by decide +kernel) (by decide +kernel)
set_option maxRecDepth 20000 in
theorem gX2_readTold_X2_passes : GoodIn wsX2_readTold (wsV RX2 36 RX2 yX2_passes wsX2_passes) := goodIn_app (goodIn_of _ (by decide +kernel)) ggX2_readTold_X2_passes
set_option maxRecDepth 20000 in
theorem ggX2_readTold_X2_readWord : GoodIn wsX2_readTold wsX2_readWord := goodIn_r _ [36, 2, 12, 13, 15, 16, 17, 18, 19, 20, 21, 37, 38, 39, 40, 41, 42, 43, 64, 65, 66, 67, 68, 69, 70, 71] (by decide +kernel) (by decide +kernel)
set_option maxRecDepth 20000 in
theorem gX2_readTold_X2_readWord : GoodIn wsX2_readTold (wsV RX2 55 RX2 yX2_readWord wsX2_readWord) := goodIn_app (goodIn_of _ (by decide +kernel)) ggX2_readTold_X2_readWord
set_option maxRecDepth 20000 in
theorem ggX2_readTold_X2_readNumber : GoodIn wsX2_readTold wsX2_readNumber := goodIn_r _ [11, 12, 13, 14, 15, 16, 17, 18, 19, 20, 21, 22, 23, 6, 24, 25, 26, 27, 28, 64, 65, 66, 67, 68, 69, 70, 71] (by decide +kernel) (by decide +kernel)
set_option maxRecDepth 20000 in
theorem gX2_readTold_X2_readNumber : GoodIn wsX2_readTold (wsV RX2 58 RX2 yX2_readNumber wsX2_readNumber) := goodIn_app (goodIn_of _ (by decide +kernel)) ggX2_readTold_X2_readNumber
set_option maxRecDepth 20000 in
theorem ggX2_readTold_X2_readRising : GoodIn wsX2_readTold wsX2_readRising := goodIn_r _ [47, 48, 12, 13, 15, 16, 17, 18, 19, 20, 21, 64, 65, 66, 67, 68, 69, 70, 71] (by decide +kernel) (by decide +kernel)
set_option maxRecDepth 20000 in
theorem gX2_readTold_X2_readRising : GoodIn wsX2_readTold (wsV RX2 62 RX2 yX2_readRising wsX2_readRising) := goodIn_app (goodIn_of _ (by decide +kernel)) ggX2_readTold_X2_readRising
set_option maxRecDepth 20000 in
theorem ggX2_readTold_X8_length : GoodIn wsX2_readTold wsX8_length := goodIn_r _ [43] (by decide +kernel) (by decide +kernel)
set_option maxRecDepth 20000 in
theorem gX2_readTold_X8_length : GoodIn wsX2_readTold (va_wsS RX2 65 yX8_length wsX8_length) := goodIn_app (goodIn_of _ (by decide +kernel)) ggX2_readTold_X8_length
set_option maxRecDepth 20000 in
theorem ggX2_readTold_X8_soundAt : GoodIn wsX2_readTold wsX8_soundAt := goodIn_r _ [52] (by decide +kernel) (by decide +kernel)
set_option maxRecDepth 20000 in
theorem gX2_readTold_X8_soundAt : GoodIn wsX2_readTold (va_wsS RX2 70 yX8_soundAt wsX8_soundAt) := goodIn_app (goodIn_of _ (by decide +kernel)) ggX2_readTold_X8_soundAt
set_option maxRecDepth 20000 in
theorem ggX2_readTold_X2_readJoined : GoodIn wsX2_readTold wsX2_readJoined := goodIn_r _ [56, 8, 9, 10, 6, 11, 12, 13, 14, 15, 16, 17, 18, 19, 20, 21, 22, 23, 24, 25, 26, 27, 28, 29, 30, 31, 32, 57, 58, 59, 60, 61, 62, 63, 64, 65, 66, 67, 68, 69, 70, 71] (by decide +kernel) (by decide +kernel)
set_option maxRecDepth 20000 in
theorem gX2_readTold_X2_readJoined : GoodIn wsX2_readTold (wsV RX2 74 RX2 yX2_readJoined wsX2_readJoined) := goodIn_app (goodIn_of _ (by decide +kernel)) ggX2_readTold_X2_readJoined
theorem dX2_readTold_0 : decode cX2_readTold 0 = .ok (.aload_n 0, 1) := by decide +kernel
theorem dX2_readTold_1 : decode cX2_readTold 1 = .ok (.getfield 29, 3) := by decide +kernel
theorem dX2_readTold_4 : decode cX2_readTold 4 = .ok (.tableswitch 313 101 119 #[124, 313, 290, 313, 313, 299, 272, 313, 313, 235, 281, 313, 313, 192, 156, 313, 304, 313, 92], 92) := by decide +kernel
theorem dX2_readTold_96 : decode cX2_readTold 96 = .ok (.aload_n 0, 1) := by decide +kernel
theorem dX2_readTold_97 : decode cX2_readTold 97 = .ok (.iconst 1, 1) := by decide +kernel
theorem dX2_readTold_98 : decode cX2_readTold 98 = .ok (.bipush 7, 2) := by decide +kernel
theorem dX2_readTold_100 : decode cX2_readTold 100 = .ok (.invokevirtual 51, 3) := by decide +kernel
theorem dX2_readTold_103 : decode cX2_readTold 103 = .ok (.ifCond .eq 23, 3) := by decide +kernel
theorem dX2_readTold_106 : decode cX2_readTold 106 = .ok (.aload_n 0, 1) := by decide +kernel
theorem dX2_readTold_107 : decode cX2_readTold 107 = .ok (.bipush 44, 2) := by decide +kernel
theorem dX2_readTold_109 : decode cX2_readTold 109 = .ok (.invokevirtual 36, 3) := by decide +kernel
theorem dX2_readTold_112 : decode cX2_readTold 112 = .ok (.ifCond .eq 14, 3) := by decide +kernel
theorem dX2_readTold_115 : decode cX2_readTold 115 = .ok (.aload_n 0, 1) := by decide +kernel
theorem dX2_readTold_116 : decode cX2_readTold 116 = .ok (.invokevirtual 55, 3) := by decide +kernel
theorem dX2_readTold_119 : decode cX2_readTold 119 = .ok (.ifCond .eq 7, 3) := by decide +kernel
theorem dX2_readTold_122 : decode cX2_readTold 122 = .ok (.iconst 1, 1) := by decide +kernel
theorem dX2_readTold_123 : decode cX2_readTold 123 = .ok (.goto 4, 3) := by decide +kernel
theorem dX2_readTold_126 : decode cX2_readTold 126 = .ok (.iconst 0, 1) := by decide +kernel
theorem dX2_readTold_127 : decode cX2_readTold 127 = .ok (.ireturn, 1) := by decide +kernel
theorem dX2_readTold_128 : decode cX2_readTold 128 = .ok (.aload_n 0, 1) := by decide +kernel
theorem dX2_readTold_129 : decode cX2_readTold 129 = .ok (.iconst 2, 1) := by decide +kernel
theorem dX2_readTold_130 : decode cX2_readTold 130 = .ok (.bipush 7, 2) := by decide +kernel
theorem dX2_readTold_132 : decode cX2_readTold 132 = .ok (.invokevirtual 51, 3) := by decide +kernel
theorem dX2_readTold_135 : decode cX2_readTold 135 = .ok (.ifCond .eq 23, 3) := by decide +kernel
theorem dX2_readTold_138 : decode cX2_readTold 138 = .ok (.aload_n 0, 1) := by decide +kernel
theorem dX2_readTold_139 : decode cX2_readTold 139 = .ok (.bipush 44, 2) := by decide +kernel
theorem dX2_readTold_141 : decode cX2_readTold 141 = .ok (.invokevirtual 36, 3) := by decide +kernel
theorem dX2_readTold_144 : decode cX2_readTold 144 = .ok (.ifCond .eq 14, 3) := by decide +kernel
theorem dX2_readTold_147 : decode cX2_readTold 147 = .ok (.aload_n 0, 1) := by decide +kernel
theorem dX2_readTold_148 : decode cX2_readTold 148 = .ok (.invokevirtual 55, 3) := by decide +kernel
theorem dX2_readTold_151 : decode cX2_readTold 151 = .ok (.ifCond .eq 7, 3) := by decide +kernel
theorem dX2_readTold_154 : decode cX2_readTold 154 = .ok (.iconst 1, 1) := by decide +kernel
theorem dX2_readTold_155 : decode cX2_readTold 155 = .ok (.goto 4, 3) := by decide +kernel
theorem dX2_readTold_158 : decode cX2_readTold 158 = .ok (.iconst 0, 1) := by decide +kernel
theorem dX2_readTold_159 : decode cX2_readTold 159 = .ok (.ireturn, 1) := by decide +kernel
theorem dX2_readTold_160 : decode cX2_readTold 160 = .ok (.aload_n 0, 1) := by decide +kernel
theorem dX2_readTold_161 : decode cX2_readTold 161 = .ok (.iconst 0, 1) := by decide +kernel
theorem dX2_readTold_162 : decode cX2_readTold 162 = .ok (.iconst 0, 1) := by decide +kernel
theorem dX2_readTold_163 : decode cX2_readTold 163 = .ok (.iconst 1, 1) := by decide +kernel
theorem dX2_readTold_164 : decode cX2_readTold 164 = .ok (.invokevirtual 58, 3) := by decide +kernel
theorem dX2_readTold_167 : decode cX2_readTold 167 = .ok (.ifCond .eq 27, 3) := by decide +kernel
theorem dX2_readTold_170 : decode cX2_readTold 170 = .ok (.aload_n 0, 1) := by decide +kernel
theorem dX2_readTold_171 : decode cX2_readTold 171 = .ok (.bipush 44, 2) := by decide +kernel
theorem dX2_readTold_173 : decode cX2_readTold 173 = .ok (.invokevirtual 36, 3) := by decide +kernel
theorem dX2_readTold_176 : decode cX2_readTold 176 = .ok (.ifCond .eq 18, 3) := by decide +kernel
theorem dX2_readTold_179 : decode cX2_readTold 179 = .ok (.aload_n 0, 1) := by decide +kernel
theorem dX2_readTold_180 : decode cX2_readTold 180 = .ok (.bipush 97, 2) := by decide +kernel
theorem dX2_readTold_182 : decode cX2_readTold 182 = .ok (.bipush 16, 2) := by decide +kernel
theorem dX2_readTold_184 : decode cX2_readTold 184 = .ok (.invokevirtual 62, 3) := by decide +kernel
theorem dX2_readTold_187 : decode cX2_readTold 187 = .ok (.ifCond .eq 7, 3) := by decide +kernel
theorem dX2_readTold_190 : decode cX2_readTold 190 = .ok (.iconst 1, 1) := by decide +kernel
theorem dX2_readTold_191 : decode cX2_readTold 191 = .ok (.goto 4, 3) := by decide +kernel
theorem dX2_readTold_194 : decode cX2_readTold 194 = .ok (.iconst 0, 1) := by decide +kernel
theorem dX2_readTold_195 : decode cX2_readTold 195 = .ok (.ireturn, 1) := by decide +kernel
theorem dX2_readTold_196 : decode cX2_readTold 196 = .ok (.aload_n 0, 1) := by decide +kernel
theorem dX2_readTold_197 : decode cX2_readTold 197 = .ok (.invokevirtual 55, 3) := by decide +kernel
theorem dX2_readTold_200 : decode cX2_readTold 200 = .ok (.ifCond .eq 37, 3) := by decide +kernel
theorem dX2_readTold_203 : decode cX2_readTold 203 = .ok (.aload_n 0, 1) := by decide +kernel
theorem dX2_readTold_204 : decode cX2_readTold 204 = .ok (.getfield 45, 3) := by decide +kernel
theorem dX2_readTold_207 : decode cX2_readTold 207 = .ok (.invokestatic 65, 3) := by decide +kernel
theorem dX2_readTold_210 : decode cX2_readTold 210 = .ok (.iconst 2, 1) := by decide +kernel
theorem dX2_readTold_211 : decode cX2_readTold 211 = .ok (.if_icmp .ne 26, 3) := by decide +kernel
theorem dX2_readTold_214 : decode cX2_readTold 214 = .ok (.aload_n 0, 1) := by decide +kernel
theorem dX2_readTold_215 : decode cX2_readTold 215 = .ok (.getfield 45, 3) := by decide +kernel
theorem dX2_readTold_218 : decode cX2_readTold 218 = .ok (.iconst 0, 1) := by decide +kernel
theorem dX2_readTold_219 : decode cX2_readTold 219 = .ok (.invokestatic 70, 3) := by decide +kernel
theorem dX2_readTold_222 : decode cX2_readTold 222 = .ok (.aload_n 0, 1) := by decide +kernel
theorem dX2_readTold_223 : decode cX2_readTold 223 = .ok (.getfield 45, 3) := by decide +kernel
theorem dX2_readTold_226 : decode cX2_readTold 226 = .ok (.iconst 1, 1) := by decide +kernel
theorem dX2_readTold_227 : decode cX2_readTold 227 = .ok (.invokestatic 70, 3) := by decide +kernel
theorem dX2_readTold_230 : decode cX2_readTold 230 = .ok (.if_icmp .eq 7, 3) := by decide +kernel
theorem dX2_readTold_233 : decode cX2_readTold 233 = .ok (.iconst 1, 1) := by decide +kernel
theorem dX2_readTold_234 : decode cX2_readTold 234 = .ok (.goto 4, 3) := by decide +kernel
theorem dX2_readTold_237 : decode cX2_readTold 237 = .ok (.iconst 0, 1) := by decide +kernel
theorem dX2_readTold_238 : decode cX2_readTold 238 = .ok (.ireturn, 1) := by decide +kernel
theorem dX2_readTold_239 : decode cX2_readTold 239 = .ok (.aload_n 0, 1) := by decide +kernel
theorem dX2_readTold_240 : decode cX2_readTold 240 = .ok (.iconst 0, 1) := by decide +kernel
theorem dX2_readTold_241 : decode cX2_readTold 241 = .ok (.iconst 1, 1) := by decide +kernel
theorem dX2_readTold_242 : decode cX2_readTold 242 = .ok (.bipush 8, 2) := by decide +kernel
theorem dX2_readTold_244 : decode cX2_readTold 244 = .ok (.invokevirtual 58, 3) := by decide +kernel
theorem dX2_readTold_247 : decode cX2_readTold 247 = .ok (.ifCond .eq 27, 3) := by decide +kernel
theorem dX2_readTold_250 : decode cX2_readTold 250 = .ok (.aload_n 0, 1) := by decide +kernel
theorem dX2_readTold_251 : decode cX2_readTold 251 = .ok (.bipush 44, 2) := by decide +kernel
theorem dX2_readTold_253 : decode cX2_readTold 253 = .ok (.invokevirtual 36, 3) := by decide +kernel
theorem dX2_readTold_256 : decode cX2_readTold 256 = .ok (.ifCond .eq 18, 3) := by decide +kernel
theorem dX2_readTold_259 : decode cX2_readTold 259 = .ok (.aload_n 0, 1) := by decide +kernel
theorem dX2_readTold_260 : decode cX2_readTold 260 = .ok (.iconst 1, 1) := by decide +kernel
theorem dX2_readTold_261 : decode cX2_readTold 261 = .ok (.iconst 1, 1) := by decide +kernel
theorem dX2_readTold_262 : decode cX2_readTold 262 = .ok (.bipush 8, 2) := by decide +kernel
theorem dX2_readTold_264 : decode cX2_readTold 264 = .ok (.invokevirtual 58, 3) := by decide +kernel
theorem dX2_readTold_267 : decode cX2_readTold 267 = .ok (.ifCond .eq 7, 3) := by decide +kernel
theorem dX2_readTold_270 : decode cX2_readTold 270 = .ok (.iconst 1, 1) := by decide +kernel
theorem dX2_readTold_271 : decode cX2_readTold 271 = .ok (.goto 4, 3) := by decide +kernel
theorem dX2_readTold_274 : decode cX2_readTold 274 = .ok (.iconst 0, 1) := by decide +kernel
theorem dX2_readTold_275 : decode cX2_readTold 275 = .ok (.ireturn, 1) := by decide +kernel
theorem dX2_readTold_276 : decode cX2_readTold 276 = .ok (.aload_n 0, 1) := by decide +kernel
theorem dX2_readTold_277 : decode cX2_readTold 277 = .ok (.bipush 10, 2) := by decide +kernel
theorem dX2_readTold_279 : decode cX2_readTold 279 = .ok (.bipush 10, 2) := by decide +kernel
theorem dX2_readTold_281 : decode cX2_readTold 281 = .ok (.invokevirtual 51, 3) := by decide +kernel
theorem dX2_readTold_284 : decode cX2_readTold 284 = .ok (.ireturn, 1) := by decide +kernel
theorem dX2_readTold_285 : decode cX2_readTold 285 = .ok (.aload_n 0, 1) := by decide +kernel
theorem dX2_readTold_286 : decode cX2_readTold 286 = .ok (.iconst 0, 1) := by decide +kernel
theorem dX2_readTold_287 : decode cX2_readTold 287 = .ok (.iconst 0, 1) := by decide +kernel
theorem dX2_readTold_288 : decode cX2_readTold 288 = .ok (.bipush 10, 2) := by decide +kernel
theorem dX2_readTold_290 : decode cX2_readTold 290 = .ok (.invokevirtual 58, 3) := by decide +kernel
theorem dX2_readTold_293 : decode cX2_readTold 293 = .ok (.ireturn, 1) := by decide +kernel
theorem dX2_readTold_294 : decode cX2_readTold 294 = .ok (.aload_n 0, 1) := by decide +kernel
theorem dX2_readTold_295 : decode cX2_readTold 295 = .ok (.iconst 0, 1) := by decide +kernel
theorem dX2_readTold_296 : decode cX2_readTold 296 = .ok (.iconst 1, 1) := by decide +kernel
theorem dX2_readTold_297 : decode cX2_readTold 297 = .ok (.bipush 99, 2) := by decide +kernel
theorem dX2_readTold_299 : decode cX2_readTold 299 = .ok (.invokevirtual 58, 3) := by decide +kernel
theorem dX2_readTold_302 : decode cX2_readTold 302 = .ok (.ireturn, 1) := by decide +kernel
theorem dX2_readTold_303 : decode cX2_readTold 303 = .ok (.aload_n 0, 1) := by decide +kernel
theorem dX2_readTold_304 : decode cX2_readTold 304 = .ok (.invokevirtual 74, 3) := by decide +kernel
theorem dX2_readTold_307 : decode cX2_readTold 307 = .ok (.ireturn, 1) := by decide +kernel
theorem dX2_readTold_308 : decode cX2_readTold 308 = .ok (.aload_n 0, 1) := by decide +kernel
theorem dX2_readTold_309 : decode cX2_readTold 309 = .ok (.bipush 48, 2) := by decide +kernel
theorem dX2_readTold_311 : decode cX2_readTold 311 = .ok (.bipush 8, 2) := by decide +kernel
theorem dX2_readTold_313 : decode cX2_readTold 313 = .ok (.invokevirtual 62, 3) := by decide +kernel
theorem dX2_readTold_316 : decode cX2_readTold 316 = .ok (.ireturn, 1) := by decide +kernel
theorem dX2_readTold_317 : decode cX2_readTold 317 = .ok (.iconst 0, 1) := by decide +kernel
theorem dX2_readTold_318 : decode cX2_readTold 318 = .ok (.ireturn, 1) := by decide +kernel
set_option maxRecDepth 20000 in
theorem ggX2_readJoined_X2_readNumber : GoodIn wsX2_readJoined wsX2_readNumber := goodIn_r _ [5, 6, 7, 8, 9, 10, 11, 12, 13, 14, 15, 16, 17, 4, 18, 19, 20, 21, 22, 34, 35, 36, 37, 38, 39, 40, 41] (by decide +kernel) (by decide +kernel)
set_option maxRecDepth 20000 in
theorem gX2_readJoined_X2_readNumber : GoodIn wsX2_readJoined (wsV RX2 58 RX2 yX2_readNumber wsX2_readNumber) := goodIn_app (goodIn_of _ (by decide +kernel)) ggX2_readJoined_X2_readNumber
set_option maxRecDepth 20000 in
theorem ggX2_readJoined_X2_passes : GoodIn wsX2_readJoined wsX2_passes := goodIn_r _ [26, 6, 7, 9, 10, 11, 12, 13, 14, 15, 34, 35, 36, 37, 38, 39, 40, 41] (by decide +kernel) (by decide +kernel)
set_option maxRecDepth 20000 in
theorem gX2_readJoined_X2_passes : GoodIn wsX2_readJoined (wsV RX2 36 RX2 yX2_passes wsX2_passes) := goodIn_app (goodIn_of _ (by decide +kernel)) ggX2_readJoined_X2_passes
set_option maxRecDepth 20000 in
theorem ggX2_readJoined_X2_number : GoodIn wsX2_readJoined wsX2_number := goodIn_r _ [30, 8, 31, 32, 21, 33, 34, 35, 36, 37, 38, 39] (by decide +kernel) (by decide +kernel)
set_option maxRecDepth 20000 in
theorem gX2_readJoined_X2_number : GoodIn wsX2_readJoined (wsV RX2 77 RX2 yX2_number wsX2_number) := goodIn_app (goodIn_of _ (by decide +kernel)) ggX2_readJoined_X2_number
theorem dX2_readJoined_0 : decode cX2_readJoined 0 = .ok (.aload_n 0, 1) := by decide +kernel
theorem dX2_readJoined_1 : decode cX2_readJoined 1 = .ok (.iconst 0, 1) := by decide +kernel
theorem dX2_readJoined_2 : decode cX2_readJoined 2 = .ok (.iconst 0, 1) := by decide +kernel
theorem dX2_readJoined_3 : decode cX2_readJoined 3 = .ok (.bipush 7, 2) := by decide +kernel
theorem dX2_readJoined_5 : decode cX2_readJoined 5 = .ok (.invokevirtual 58, 3) := by decide +kernel
theorem dX2_readJoined_8 : decode cX2_readJoined 8 = .ok (.ifCond .eq 86, 3) := by decide +kernel
theorem dX2_readJoined_11 : decode cX2_readJoined 11 = .ok (.aload_n 0, 1) := by decide +kernel
theorem dX2_readJoined_12 : decode cX2_readJoined 12 = .ok (.bipush 44, 2) := by decide +kernel
theorem dX2_readJoined_14 : decode cX2_readJoined 14 = .ok (.invokevirtual 36, 3) := by decide +kernel
theorem dX2_readJoined_17 : decode cX2_readJoined 17 = .ok (.ifCond .eq 77, 3) := by decide +kernel
theorem dX2_readJoined_20 : decode cX2_readJoined 20 = .ok (.aload_n 0, 1) := by decide +kernel
theorem dX2_readJoined_21 : decode cX2_readJoined 21 = .ok (.iconst 1, 1) := by decide +kernel
theorem dX2_readJoined_22 : decode cX2_readJoined 22 = .ok (.iconst 0, 1) := by decide +kernel
theorem dX2_readJoined_23 : decode cX2_readJoined 23 = .ok (.bipush 7, 2) := by decide +kernel
theorem dX2_readJoined_25 : decode cX2_readJoined 25 = .ok (.invokevirtual 58, 3) := by decide +kernel
theorem dX2_readJoined_28 : decode cX2_readJoined 28 = .ok (.ifCond .eq 66, 3) := by decide +kernel
theorem dX2_readJoined_31 : decode cX2_readJoined 31 = .ok (.aload_n 0, 1) := by decide +kernel
theorem dX2_readJoined_32 : decode cX2_readJoined 32 = .ok (.bipush 44, 2) := by decide +kernel
theorem dX2_readJoined_34 : decode cX2_readJoined 34 = .ok (.invokevirtual 36, 3) := by decide +kernel
theorem dX2_readJoined_37 : decode cX2_readJoined 37 = .ok (.ifCond .eq 57, 3) := by decide +kernel
theorem dX2_readJoined_40 : decode cX2_readJoined 40 = .ok (.aload_n 0, 1) := by decide +kernel
theorem dX2_readJoined_41 : decode cX2_readJoined 41 = .ok (.iconst 2, 1) := by decide +kernel
theorem dX2_readJoined_42 : decode cX2_readJoined 42 = .ok (.iconst 0, 1) := by decide +kernel
theorem dX2_readJoined_43 : decode cX2_readJoined 43 = .ok (.bipush 7, 2) := by decide +kernel
theorem dX2_readJoined_45 : decode cX2_readJoined 45 = .ok (.invokevirtual 58, 3) := by decide +kernel
theorem dX2_readJoined_48 : decode cX2_readJoined 48 = .ok (.ifCond .eq 46, 3) := by decide +kernel
theorem dX2_readJoined_51 : decode cX2_readJoined 51 = .ok (.aload_n 0, 1) := by decide +kernel
theorem dX2_readJoined_52 : decode cX2_readJoined 52 = .ok (.iconst 0, 1) := by decide +kernel
theorem dX2_readJoined_53 : decode cX2_readJoined 53 = .ok (.invokevirtual 77, 3) := by decide +kernel
theorem dX2_readJoined_56 : decode cX2_readJoined 56 = .ok (.aload_n 0, 1) := by decide +kernel
theorem dX2_readJoined_57 : decode cX2_readJoined 57 = .ok (.iconst 1, 1) := by decide +kernel
theorem dX2_readJoined_58 : decode cX2_readJoined 58 = .ok (.invokevirtual 77, 3) := by decide +kernel
theorem dX2_readJoined_61 : decode cX2_readJoined 61 = .ok (.if_icmp .eq 33, 3) := by decide +kernel
theorem dX2_readJoined_64 : decode cX2_readJoined 64 = .ok (.aload_n 0, 1) := by decide +kernel
theorem dX2_readJoined_65 : decode cX2_readJoined 65 = .ok (.iconst 0, 1) := by decide +kernel
theorem dX2_readJoined_66 : decode cX2_readJoined 66 = .ok (.invokevirtual 77, 3) := by decide +kernel
theorem dX2_readJoined_69 : decode cX2_readJoined 69 = .ok (.aload_n 0, 1) := by decide +kernel
theorem dX2_readJoined_70 : decode cX2_readJoined 70 = .ok (.iconst 2, 1) := by decide +kernel
theorem dX2_readJoined_71 : decode cX2_readJoined 71 = .ok (.invokevirtual 77, 3) := by decide +kernel
theorem dX2_readJoined_74 : decode cX2_readJoined 74 = .ok (.if_icmp .eq 20, 3) := by decide +kernel
theorem dX2_readJoined_77 : decode cX2_readJoined 77 = .ok (.aload_n 0, 1) := by decide +kernel
theorem dX2_readJoined_78 : decode cX2_readJoined 78 = .ok (.iconst 1, 1) := by decide +kernel
theorem dX2_readJoined_79 : decode cX2_readJoined 79 = .ok (.invokevirtual 77, 3) := by decide +kernel
theorem dX2_readJoined_82 : decode cX2_readJoined 82 = .ok (.aload_n 0, 1) := by decide +kernel
theorem dX2_readJoined_83 : decode cX2_readJoined 83 = .ok (.iconst 2, 1) := by decide +kernel
theorem dX2_readJoined_84 : decode cX2_readJoined 84 = .ok (.invokevirtual 77, 3) := by decide +kernel
theorem dX2_readJoined_87 : decode cX2_readJoined 87 = .ok (.if_icmp .eq 7, 3) := by decide +kernel
theorem dX2_readJoined_90 : decode cX2_readJoined 90 = .ok (.iconst 1, 1) := by decide +kernel
theorem dX2_readJoined_91 : decode cX2_readJoined 91 = .ok (.goto 4, 3) := by decide +kernel
theorem dX2_readJoined_94 : decode cX2_readJoined 94 = .ok (.iconst 0, 1) := by decide +kernel
theorem dX2_readJoined_95 : decode cX2_readJoined 95 = .ok (.ireturn, 1) := by decide +kernel
set_option maxRecDepth 20000 in
theorem ggX2_passes_X7_at : GoodIn wsX2_passes wsX7_at := goodIn_r _ [7, 8, 9, 16, 17] (by decide +kernel) (by decide +kernel)
set_option maxRecDepth 20000 in
theorem gX2_passes_X7_at : GoodIn wsX2_passes (wsV RX2 23 RX7 yX7_at wsX7_at) := goodIn_app (goodIn_of _ (by decide +kernel)) ggX2_passes_X7_at
theorem dX2_passes_0 : decode cX2_passes 0 = .ok (.aload_n 0, 1) := by decide +kernel
theorem dX2_passes_1 : decode cX2_passes 1 = .ok (.getfield 15, 3) := by decide +kernel
theorem dX2_passes_4 : decode cX2_passes 4 = .ok (.aload_n 0, 1) := by decide +kernel
theorem dX2_passes_5 : decode cX2_passes 5 = .ok (.getfield 19, 3) := by decide +kernel
theorem dX2_passes_8 : decode cX2_passes 8 = .ok (.invokevirtual 23, 3) := by decide +kernel
theorem dX2_passes_11 : decode cX2_passes 11 = .ok (.iload_n 1, 1) := by decide +kernel
theorem dX2_passes_12 : decode cX2_passes 12 = .ok (.if_icmp .eq 5, 3) := by decide +kernel
theorem dX2_passes_15 : decode cX2_passes 15 = .ok (.iconst 0, 1) := by decide +kernel
theorem dX2_passes_16 : decode cX2_passes 16 = .ok (.ireturn, 1) := by decide +kernel
theorem dX2_passes_17 : decode cX2_passes 17 = .ok (.aload_n 0, 1) := by decide +kernel
theorem dX2_passes_18 : decode cX2_passes 18 = .ok (.dup, 1) := by decide +kernel
theorem dX2_passes_19 : decode cX2_passes 19 = .ok (.getfield 19, 3) := by decide +kernel
theorem dX2_passes_22 : decode cX2_passes 22 = .ok (.iconst 1, 1) := by decide +kernel
theorem dX2_passes_23 : decode cX2_passes 23 = .ok (.iadd, 1) := by decide +kernel
theorem dX2_passes_24 : decode cX2_passes 24 = .ok (.putfield 19, 3) := by decide +kernel
theorem dX2_passes_27 : decode cX2_passes 27 = .ok (.iconst 1, 1) := by decide +kernel
theorem dX2_passes_28 : decode cX2_passes 28 = .ok (.ireturn, 1) := by decide +kernel
set_option maxRecDepth 20000 in
theorem ggX2_readNumbers_X2_readNumber : GoodIn wsX2_readNumbers wsX2_readNumber := goodIn_r _ [5, 6, 7, 8, 9, 10, 11, 12, 13, 14, 15, 16, 17, 4, 18, 19, 20, 21, 22, 27, 28, 29, 30, 31, 32, 33, 34] (by decide +kernel) (by decide +kernel)
set_option maxRecDepth 20000 in
theorem gX2_readNumbers_X2_readNumber : GoodIn wsX2_readNumbers (wsV RX2 58 RX2 yX2_readNumber wsX2_readNumber) := goodIn_app (goodIn_of _ (by decide +kernel)) ggX2_readNumbers_X2_readNumber
set_option maxRecDepth 20000 in
theorem ggX2_readNumbers_X2_passes : GoodIn wsX2_readNumbers wsX2_passes := goodIn_r _ [26, 6, 7, 9, 10, 11, 12, 13, 14, 15, 27, 28, 29, 30, 31, 32, 33, 34] (by decide +kernel) (by decide +kernel)
set_option maxRecDepth 20000 in
theorem gX2_readNumbers_X2_passes : GoodIn wsX2_readNumbers (wsV RX2 36 RX2 yX2_passes wsX2_passes) := goodIn_app (goodIn_of _ (by decide +kernel)) ggX2_readNumbers_X2_passes
theorem dX2_readNumbers_0 : decode cX2_readNumbers 0 = .ok (.aload_n 0, 1) := by decide +kernel
theorem dX2_readNumbers_1 : decode cX2_readNumbers 1 = .ok (.iconst 0, 1) := by decide +kernel
theorem dX2_readNumbers_2 : decode cX2_readNumbers 2 = .ok (.iconst 0, 1) := by decide +kernel
theorem dX2_readNumbers_3 : decode cX2_readNumbers 3 = .ok (.iload_n 1, 1) := by decide +kernel
theorem dX2_readNumbers_4 : decode cX2_readNumbers 4 = .ok (.invokevirtual 58, 3) := by decide +kernel
theorem dX2_readNumbers_7 : decode cX2_readNumbers 7 = .ok (.ifCond .eq 26, 3) := by decide +kernel
theorem dX2_readNumbers_10 : decode cX2_readNumbers 10 = .ok (.aload_n 0, 1) := by decide +kernel
theorem dX2_readNumbers_11 : decode cX2_readNumbers 11 = .ok (.bipush 44, 2) := by decide +kernel
theorem dX2_readNumbers_13 : decode cX2_readNumbers 13 = .ok (.invokevirtual 36, 3) := by decide +kernel
theorem dX2_readNumbers_16 : decode cX2_readNumbers 16 = .ok (.ifCond .eq 17, 3) := by decide +kernel
theorem dX2_readNumbers_19 : decode cX2_readNumbers 19 = .ok (.aload_n 0, 1) := by decide +kernel
theorem dX2_readNumbers_20 : decode cX2_readNumbers 20 = .ok (.iconst 1, 1) := by decide +kernel
theorem dX2_readNumbers_21 : decode cX2_readNumbers 21 = .ok (.iconst 0, 1) := by decide +kernel
theorem dX2_readNumbers_22 : decode cX2_readNumbers 22 = .ok (.iload_n 2, 1) := by decide +kernel
theorem dX2_readNumbers_23 : decode cX2_readNumbers 23 = .ok (.invokevirtual 58, 3) := by decide +kernel
theorem dX2_readNumbers_26 : decode cX2_readNumbers 26 = .ok (.ifCond .eq 7, 3) := by decide +kernel
theorem dX2_readNumbers_29 : decode cX2_readNumbers 29 = .ok (.iconst 1, 1) := by decide +kernel
theorem dX2_readNumbers_30 : decode cX2_readNumbers 30 = .ok (.goto 4, 3) := by decide +kernel
theorem dX2_readNumbers_33 : decode cX2_readNumbers 33 = .ok (.iconst 0, 1) := by decide +kernel
theorem dX2_readNumbers_34 : decode cX2_readNumbers 34 = .ok (.ireturn, 1) := by decide +kernel
set_option maxRecDepth 20000 in
theorem ggX2_readNumber_X7_at : GoodIn wsX2_readNumber wsX7_at := goodIn_r _ [8, 9, 10, 25, 26] (by decide +kernel) (by decide +kernel)
set_option maxRecDepth 20000 in
theorem gX2_readNumber_X7_at : GoodIn wsX2_readNumber (wsV RX2 23 RX7 yX7_at wsX7_at) := goodIn_app (goodIn_of _ (by decide +kernel)) ggX2_readNumber_X7_at
set_option maxRecDepth 20000 in
theorem ggX2_readNumber_X2_isFigure : GoodIn wsX2_readNumber wsX2_isFigure := goodIn_r _ [14] (by decide +kernel) (by decide +kernel)
set_option maxRecDepth 20000 in
theorem gX2_readNumber_X2_isFigure : GoodIn wsX2_readNumber (va_wsS RX2 80 yX2_isFigure wsX2_isFigure) := goodIn_app (goodIn_of _ (by decide +kernel)) ggX2_readNumber_X2_isFigure
set_option maxRecDepth 20000 in
theorem ggX2_readNumber_X5_put : GoodIn wsX2_readNumber wsX5_put := goodIn_r _ [18] (by decide +kernel) (by decide +kernel)
set_option maxRecDepth 20000 in
theorem gX2_readNumber_X5_put : GoodIn wsX2_readNumber (va_wsS RX2 83 yX5_put wsX5_put) := goodIn_app (goodIn_of _ (by decide +kernel)) ggX2_readNumber_X5_put
theorem dX2_readNumber_0 : decode cX2_readNumber 0 = .ok (.aload_n 0, 1) := by decide +kernel
theorem dX2_readNumber_1 : decode cX2_readNumber 1 = .ok (.getfield 15, 3) := by decide +kernel
theorem dX2_readNumber_4 : decode cX2_readNumber 4 = .ok (.aload_n 0, 1) := by decide +kernel
theorem dX2_readNumber_5 : decode cX2_readNumber 5 = .ok (.getfield 19, 3) := by decide +kernel
theorem dX2_readNumber_8 : decode cX2_readNumber 8 = .ok (.invokevirtual 23, 3) := by decide +kernel
theorem dX2_readNumber_11 : decode cX2_readNumber 11 = .ok (.invokestatic 80, 3) := by decide +kernel
theorem dX2_readNumber_14 : decode cX2_readNumber 14 = .ok (.ifCond .ne 5, 3) := by decide +kernel
theorem dX2_readNumber_17 : decode cX2_readNumber 17 = .ok (.iconst 0, 1) := by decide +kernel
theorem dX2_readNumber_18 : decode cX2_readNumber 18 = .ok (.ireturn, 1) := by decide +kernel
theorem dX2_readNumber_19 : decode cX2_readNumber 19 = .ok (.aload_n 0, 1) := by decide +kernel
theorem dX2_readNumber_20 : decode cX2_readNumber 20 = .ok (.getfield 15, 3) := by decide +kernel
theorem dX2_readNumber_23 : decode cX2_readNumber 23 = .ok (.aload_n 0, 1) := by decide +kernel
theorem dX2_readNumber_24 : decode cX2_readNumber 24 = .ok (.getfield 19, 3) := by decide +kernel
theorem dX2_readNumber_27 : decode cX2_readNumber 27 = .ok (.invokevirtual 23, 3) := by decide +kernel
theorem dX2_readNumber_30 : decode cX2_readNumber 30 = .ok (.bipush 48, 2) := by decide +kernel
theorem dX2_readNumber_32 : decode cX2_readNumber 32 = .ok (.isub, 1) := by decide +kernel
theorem dX2_readNumber_33 : decode cX2_readNumber 33 = .ok (.istore 4, 2) := by decide +kernel
theorem dX2_readNumber_35 : decode cX2_readNumber 35 = .ok (.aload_n 0, 1) := by decide +kernel
theorem dX2_readNumber_36 : decode cX2_readNumber 36 = .ok (.dup, 1) := by decide +kernel
theorem dX2_readNumber_37 : decode cX2_readNumber 37 = .ok (.getfield 19, 3) := by decide +kernel
theorem dX2_readNumber_40 : decode cX2_readNumber 40 = .ok (.iconst 1, 1) := by decide +kernel
theorem dX2_readNumber_41 : decode cX2_readNumber 41 = .ok (.iadd, 1) := by decide +kernel
theorem dX2_readNumber_42 : decode cX2_readNumber 42 = .ok (.putfield 19, 3) := by decide +kernel
theorem dX2_readNumber_45 : decode cX2_readNumber 45 = .ok (.aload_n 0, 1) := by decide +kernel
theorem dX2_readNumber_46 : decode cX2_readNumber 46 = .ok (.getfield 15, 3) := by decide +kernel
theorem dX2_readNumber_49 : decode cX2_readNumber 49 = .ok (.aload_n 0, 1) := by decide +kernel
theorem dX2_readNumber_50 : decode cX2_readNumber 50 = .ok (.getfield 19, 3) := by decide +kernel
theorem dX2_readNumber_53 : decode cX2_readNumber 53 = .ok (.invokevirtual 23, 3) := by decide +kernel
theorem dX2_readNumber_56 : decode cX2_readNumber 56 = .ok (.invokestatic 80, 3) := by decide +kernel
theorem dX2_readNumber_59 : decode cX2_readNumber 59 = .ok (.ifCond .eq 35, 3) := by decide +kernel
theorem dX2_readNumber_62 : decode cX2_readNumber 62 = .ok (.iload 4, 2) := by decide +kernel
theorem dX2_readNumber_64 : decode cX2_readNumber 64 = .ok (.bipush 10, 2) := by decide +kernel
theorem dX2_readNumber_66 : decode cX2_readNumber 66 = .ok (.imul, 1) := by decide +kernel
theorem dX2_readNumber_67 : decode cX2_readNumber 67 = .ok (.aload_n 0, 1) := by decide +kernel
theorem dX2_readNumber_68 : decode cX2_readNumber 68 = .ok (.getfield 15, 3) := by decide +kernel
theorem dX2_readNumber_71 : decode cX2_readNumber 71 = .ok (.aload_n 0, 1) := by decide +kernel
theorem dX2_readNumber_72 : decode cX2_readNumber 72 = .ok (.getfield 19, 3) := by decide +kernel
theorem dX2_readNumber_75 : decode cX2_readNumber 75 = .ok (.invokevirtual 23, 3) := by decide +kernel
theorem dX2_readNumber_78 : decode cX2_readNumber 78 = .ok (.iadd, 1) := by decide +kernel
theorem dX2_readNumber_79 : decode cX2_readNumber 79 = .ok (.bipush 48, 2) := by decide +kernel
theorem dX2_readNumber_81 : decode cX2_readNumber 81 = .ok (.isub, 1) := by decide +kernel
theorem dX2_readNumber_82 : decode cX2_readNumber 82 = .ok (.istore 4, 2) := by decide +kernel
theorem dX2_readNumber_84 : decode cX2_readNumber 84 = .ok (.aload_n 0, 1) := by decide +kernel
theorem dX2_readNumber_85 : decode cX2_readNumber 85 = .ok (.dup, 1) := by decide +kernel
theorem dX2_readNumber_86 : decode cX2_readNumber 86 = .ok (.getfield 19, 3) := by decide +kernel
theorem dX2_readNumber_89 : decode cX2_readNumber 89 = .ok (.iconst 1, 1) := by decide +kernel
theorem dX2_readNumber_90 : decode cX2_readNumber 90 = .ok (.iadd, 1) := by decide +kernel
theorem dX2_readNumber_91 : decode cX2_readNumber 91 = .ok (.putfield 19, 3) := by decide +kernel
theorem dX2_readNumber_94 : decode cX2_readNumber 94 = .ok (.aload_n 0, 1) := by decide +kernel
theorem dX2_readNumber_95 : decode cX2_readNumber 95 = .ok (.getfield 9, 3) := by decide +kernel
theorem dX2_readNumber_98 : decode cX2_readNumber 98 = .ok (.iload_n 1, 1) := by decide +kernel
theorem dX2_readNumber_99 : decode cX2_readNumber 99 = .ok (.iload 4, 2) := by decide +kernel
theorem dX2_readNumber_101 : decode cX2_readNumber 101 = .ok (.invokestatic 83, 3) := by decide +kernel
theorem dX2_readNumber_104 : decode cX2_readNumber 104 = .ok (.iload 4, 2) := by decide +kernel
theorem dX2_readNumber_106 : decode cX2_readNumber 106 = .ok (.iload_n 2, 1) := by decide +kernel
theorem dX2_readNumber_107 : decode cX2_readNumber 107 = .ok (.if_icmp .lt 13, 3) := by decide +kernel
theorem dX2_readNumber_110 : decode cX2_readNumber 110 = .ok (.iload 4, 2) := by decide +kernel
theorem dX2_readNumber_112 : decode cX2_readNumber 112 = .ok (.iload_n 3, 1) := by decide +kernel
theorem dX2_readNumber_113 : decode cX2_readNumber 113 = .ok (.if_icmp .gt 7, 3) := by decide +kernel
theorem dX2_readNumber_116 : decode cX2_readNumber 116 = .ok (.iconst 1, 1) := by decide +kernel
theorem dX2_readNumber_117 : decode cX2_readNumber 117 = .ok (.goto 4, 3) := by decide +kernel
theorem dX2_readNumber_120 : decode cX2_readNumber 120 = .ok (.iconst 0, 1) := by decide +kernel
theorem dX2_readNumber_121 : decode cX2_readNumber 121 = .ok (.ireturn, 1) := by decide +kernel
theorem dX2_isFigure_0 : decode cX2_isFigure 0 = .ok (.iload_n 0, 1) := by decide +kernel
theorem dX2_isFigure_1 : decode cX2_isFigure 1 = .ok (.bipush 48, 2) := by decide +kernel
theorem dX2_isFigure_3 : decode cX2_isFigure 3 = .ok (.if_icmp .lt 13, 3) := by decide +kernel
theorem dX2_isFigure_6 : decode cX2_isFigure 6 = .ok (.iload_n 0, 1) := by decide +kernel
theorem dX2_isFigure_7 : decode cX2_isFigure 7 = .ok (.bipush 57, 2) := by decide +kernel
theorem dX2_isFigure_9 : decode cX2_isFigure 9 = .ok (.if_icmp .gt 7, 3) := by decide +kernel
theorem dX2_isFigure_12 : decode cX2_isFigure 12 = .ok (.iconst 1, 1) := by decide +kernel
theorem dX2_isFigure_13 : decode cX2_isFigure 13 = .ok (.goto 4, 3) := by decide +kernel
theorem dX2_isFigure_16 : decode cX2_isFigure 16 = .ok (.iconst 0, 1) := by decide +kernel
theorem dX2_isFigure_17 : decode cX2_isFigure 17 = .ok (.ireturn, 1) := by decide +kernel
set_option maxRecDepth 20000 in
theorem ggX2_readWord_X7_at : GoodIn wsX2_readWord wsX7_at := goodIn_r _ [8, 9, 10, 24, 25] (by decide +kernel) (by decide +kernel)
set_option maxRecDepth 20000 in
theorem gX2_readWord_X7_at : GoodIn wsX2_readWord (wsV RX2 23 RX7 yX7_at wsX7_at) := goodIn_app (goodIn_of _ (by decide +kernel)) ggX2_readWord_X7_at
set_option maxRecDepth 20000 in
theorem ggX2_readWord_X8_with : GoodIn wsX2_readWord wsX8_with := goodIn_r _ [14, 15, 16, 13, 17] (by decide +kernel) (by decide +kernel)
set_option maxRecDepth 20000 in
theorem gX2_readWord_X8_with : GoodIn wsX2_readWord (va_wsS RX2 87 yX8_with wsX8_with) := goodIn_app (goodIn_of _ (by decide +kernel)) ggX2_readWord_X8_with
theorem dX2_readWord_0 : decode cX2_readWord 0 = .ok (.aload_n 0, 1) := by decide +kernel
theorem dX2_readWord_1 : decode cX2_readWord 1 = .ok (.iconst 0, 1) := by decide +kernel
theorem dX2_readWord_2 : decode cX2_readWord 2 = .ok (.putfield 45, 3) := by decide +kernel
theorem dX2_readWord_5 : decode cX2_readWord 5 = .ok (.iconst 0, 1) := by decide +kernel
theorem dX2_readWord_6 : decode cX2_readWord 6 = .ok (.istore_n 1, 1) := by decide +kernel
theorem dX2_readWord_7 : decode cX2_readWord 7 = .ok (.iload_n 1, 1) := by decide +kernel
theorem dX2_readWord_8 : decode cX2_readWord 8 = .ok (.bipush 6, 2) := by decide +kernel
theorem dX2_readWord_10 : decode cX2_readWord 10 = .ok (.if_icmp .ge 59, 3) := by decide +kernel
theorem dX2_readWord_13 : decode cX2_readWord 13 = .ok (.aload_n 0, 1) := by decide +kernel
theorem dX2_readWord_14 : decode cX2_readWord 14 = .ok (.getfield 15, 3) := by decide +kernel
theorem dX2_readWord_17 : decode cX2_readWord 17 = .ok (.aload_n 0, 1) := by decide +kernel
theorem dX2_readWord_18 : decode cX2_readWord 18 = .ok (.getfield 19, 3) := by decide +kernel
theorem dX2_readWord_21 : decode cX2_readWord 21 = .ok (.invokevirtual 23, 3) := by decide +kernel
theorem dX2_readWord_24 : decode cX2_readWord 24 = .ok (.bipush 97, 2) := by decide +kernel
theorem dX2_readWord_26 : decode cX2_readWord 26 = .ok (.isub, 1) := by decide +kernel
theorem dX2_readWord_27 : decode cX2_readWord 27 = .ok (.istore_n 2, 1) := by decide +kernel
theorem dX2_readWord_28 : decode cX2_readWord 28 = .ok (.iload_n 2, 1) := by decide +kernel
theorem dX2_readWord_29 : decode cX2_readWord 29 = .ok (.ifCond .lt 40, 3) := by decide +kernel
theorem dX2_readWord_32 : decode cX2_readWord 32 = .ok (.iload_n 2, 1) := by decide +kernel
theorem dX2_readWord_33 : decode cX2_readWord 33 = .ok (.bipush 16, 2) := by decide +kernel
theorem dX2_readWord_35 : decode cX2_readWord 35 = .ok (.if_icmp .lt 6, 3) := by decide +kernel
theorem dX2_readWord_38 : decode cX2_readWord 38 = .ok (.goto 31, 3) := by decide +kernel
theorem dX2_readWord_41 : decode cX2_readWord 41 = .ok (.aload_n 0, 1) := by decide +kernel
theorem dX2_readWord_42 : decode cX2_readWord 42 = .ok (.aload_n 0, 1) := by decide +kernel
theorem dX2_readWord_43 : decode cX2_readWord 43 = .ok (.getfield 45, 3) := by decide +kernel
theorem dX2_readWord_46 : decode cX2_readWord 46 = .ok (.iload_n 2, 1) := by decide +kernel
theorem dX2_readWord_47 : decode cX2_readWord 47 = .ok (.invokestatic 87, 3) := by decide +kernel
theorem dX2_readWord_50 : decode cX2_readWord 50 = .ok (.putfield 45, 3) := by decide +kernel
theorem dX2_readWord_53 : decode cX2_readWord 53 = .ok (.aload_n 0, 1) := by decide +kernel
theorem dX2_readWord_54 : decode cX2_readWord 54 = .ok (.dup, 1) := by decide +kernel
theorem dX2_readWord_55 : decode cX2_readWord 55 = .ok (.getfield 19, 3) := by decide +kernel
theorem dX2_readWord_58 : decode cX2_readWord 58 = .ok (.iconst 1, 1) := by decide +kernel
theorem dX2_readWord_59 : decode cX2_readWord 59 = .ok (.iadd, 1) := by decide +kernel
theorem dX2_readWord_60 : decode cX2_readWord 60 = .ok (.putfield 19, 3) := by decide +kernel
theorem dX2_readWord_63 : decode cX2_readWord 63 = .ok (.iinc 1 1, 3) := by decide +kernel
theorem dX2_readWord_66 : decode cX2_readWord 66 = .ok (.goto (-59), 3) := by decide +kernel
theorem dX2_readWord_69 : decode cX2_readWord 69 = .ok (.aload_n 0, 1) := by decide +kernel
theorem dX2_readWord_70 : decode cX2_readWord 70 = .ok (.getfield 45, 3) := by decide +kernel
theorem dX2_readWord_73 : decode cX2_readWord 73 = .ok (.ifCond .eq 7, 3) := by decide +kernel
theorem dX2_readWord_76 : decode cX2_readWord 76 = .ok (.iconst 1, 1) := by decide +kernel
theorem dX2_readWord_77 : decode cX2_readWord 77 = .ok (.goto 4, 3) := by decide +kernel
theorem dX2_readWord_80 : decode cX2_readWord 80 = .ok (.iconst 0, 1) := by decide +kernel
theorem dX2_readWord_81 : decode cX2_readWord 81 = .ok (.ireturn, 1) := by decide +kernel
set_option maxRecDepth 20000 in
theorem ggX2_readRising_X7_at : GoodIn wsX2_readRising wsX7_at := goodIn_r _ [8, 9, 10, 17, 18] (by decide +kernel) (by decide +kernel)
set_option maxRecDepth 20000 in
theorem gX2_readRising_X7_at : GoodIn wsX2_readRising (wsV RX2 23 RX7 yX7_at wsX7_at) := goodIn_app (goodIn_of _ (by decide +kernel)) ggX2_readRising_X7_at
theorem dX2_readRising_0 : decode cX2_readRising 0 = .ok (.aload_n 0, 1) := by decide +kernel
theorem dX2_readRising_1 : decode cX2_readRising 1 = .ok (.iconst 0, 1) := by decide +kernel
theorem dX2_readRising_2 : decode cX2_readRising 2 = .ok (.putfield 48, 3) := by decide +kernel
theorem dX2_readRising_5 : decode cX2_readRising 5 = .ok (.iconst (-1), 1) := by decide +kernel
theorem dX2_readRising_6 : decode cX2_readRising 6 = .ok (.istore_n 3, 1) := by decide +kernel
theorem dX2_readRising_7 : decode cX2_readRising 7 = .ok (.iconst 0, 1) := by decide +kernel
theorem dX2_readRising_8 : decode cX2_readRising 8 = .ok (.istore 4, 2) := by decide +kernel
theorem dX2_readRising_10 : decode cX2_readRising 10 = .ok (.iload 4, 2) := by decide +kernel
theorem dX2_readRising_12 : decode cX2_readRising 12 = .ok (.iload_n 2, 1) := by decide +kernel
theorem dX2_readRising_13 : decode cX2_readRising 13 = .ok (.if_icmp .ge 65, 3) := by decide +kernel
theorem dX2_readRising_16 : decode cX2_readRising 16 = .ok (.aload_n 0, 1) := by decide +kernel
theorem dX2_readRising_17 : decode cX2_readRising 17 = .ok (.getfield 15, 3) := by decide +kernel
theorem dX2_readRising_20 : decode cX2_readRising 20 = .ok (.aload_n 0, 1) := by decide +kernel
theorem dX2_readRising_21 : decode cX2_readRising 21 = .ok (.getfield 19, 3) := by decide +kernel
theorem dX2_readRising_24 : decode cX2_readRising 24 = .ok (.invokevirtual 23, 3) := by decide +kernel
theorem dX2_readRising_27 : decode cX2_readRising 27 = .ok (.iload_n 1, 1) := by decide +kernel
theorem dX2_readRising_28 : decode cX2_readRising 28 = .ok (.isub, 1) := by decide +kernel
theorem dX2_readRising_29 : decode cX2_readRising 29 = .ok (.istore 5, 2) := by decide +kernel
theorem dX2_readRising_31 : decode cX2_readRising 31 = .ok (.iload 5, 2) := by decide +kernel
theorem dX2_readRising_33 : decode cX2_readRising 33 = .ok (.iload_n 3, 1) := by decide +kernel
theorem dX2_readRising_34 : decode cX2_readRising 34 = .ok (.if_icmp .le 44, 3) := by decide +kernel
theorem dX2_readRising_37 : decode cX2_readRising 37 = .ok (.iload 5, 2) := by decide +kernel
theorem dX2_readRising_39 : decode cX2_readRising 39 = .ok (.iload_n 2, 1) := by decide +kernel
theorem dX2_readRising_40 : decode cX2_readRising 40 = .ok (.if_icmp .lt 6, 3) := by decide +kernel
theorem dX2_readRising_43 : decode cX2_readRising 43 = .ok (.goto 35, 3) := by decide +kernel
theorem dX2_readRising_46 : decode cX2_readRising 46 = .ok (.aload_n 0, 1) := by decide +kernel
theorem dX2_readRising_47 : decode cX2_readRising 47 = .ok (.dup, 1) := by decide +kernel
theorem dX2_readRising_48 : decode cX2_readRising 48 = .ok (.getfield 48, 3) := by decide +kernel
theorem dX2_readRising_51 : decode cX2_readRising 51 = .ok (.iconst 1, 1) := by decide +kernel
theorem dX2_readRising_52 : decode cX2_readRising 52 = .ok (.iload 5, 2) := by decide +kernel
theorem dX2_readRising_54 : decode cX2_readRising 54 = .ok (.ishl, 1) := by decide +kernel
theorem dX2_readRising_55 : decode cX2_readRising 55 = .ok (.ior, 1) := by decide +kernel
theorem dX2_readRising_56 : decode cX2_readRising 56 = .ok (.putfield 48, 3) := by decide +kernel
theorem dX2_readRising_59 : decode cX2_readRising 59 = .ok (.iload 5, 2) := by decide +kernel
theorem dX2_readRising_61 : decode cX2_readRising 61 = .ok (.istore_n 3, 1) := by decide +kernel
theorem dX2_readRising_62 : decode cX2_readRising 62 = .ok (.aload_n 0, 1) := by decide +kernel
theorem dX2_readRising_63 : decode cX2_readRising 63 = .ok (.dup, 1) := by decide +kernel
theorem dX2_readRising_64 : decode cX2_readRising 64 = .ok (.getfield 19, 3) := by decide +kernel
theorem dX2_readRising_67 : decode cX2_readRising 67 = .ok (.iconst 1, 1) := by decide +kernel
theorem dX2_readRising_68 : decode cX2_readRising 68 = .ok (.iadd, 1) := by decide +kernel
theorem dX2_readRising_69 : decode cX2_readRising 69 = .ok (.putfield 19, 3) := by decide +kernel
theorem dX2_readRising_72 : decode cX2_readRising 72 = .ok (.iinc 4 1, 3) := by decide +kernel
theorem dX2_readRising_75 : decode cX2_readRising 75 = .ok (.goto (-65), 3) := by decide +kernel
theorem dX2_readRising_78 : decode cX2_readRising 78 = .ok (.aload_n 0, 1) := by decide +kernel
theorem dX2_readRising_79 : decode cX2_readRising 79 = .ok (.getfield 48, 3) := by decide +kernel
theorem dX2_readRising_82 : decode cX2_readRising 82 = .ok (.ifCond .eq 7, 3) := by decide +kernel
theorem dX2_readRising_85 : decode cX2_readRising 85 = .ok (.iconst 1, 1) := by decide +kernel
theorem dX2_readRising_86 : decode cX2_readRising 86 = .ok (.goto 4, 3) := by decide +kernel
theorem dX2_readRising_89 : decode cX2_readRising 89 = .ok (.iconst 0, 1) := by decide +kernel
theorem dX2_readRising_90 : decode cX2_readRising 90 = .ok (.ireturn, 1) := by decide +kernel
theorem dX3_init_0 : decode cX3_init 0 = .ok (.aload_n 0, 1) := by decide +kernel
theorem dX3_init_1 : decode cX3_init 1 = .ok (.invokespecial 3, 3) := by decide +kernel
theorem dX3_init_4 : decode cX3_init 4 = .ok (.aload_n 0, 1) := by decide +kernel
theorem dX3_init_5 : decode cX3_init 5 = .ok (.bipush 7, 2) := by decide +kernel
theorem dX3_init_7 : decode cX3_init 7 = .ok (.newarray .int, 2) := by decide +kernel
theorem dX3_init_9 : decode cX3_init 9 = .ok (.putfield 9, 3) := by decide +kernel
theorem dX3_init_12 : decode cX3_init 12 = .ok (.return_, 1) := by decide +kernel
set_option maxRecDepth 20000 in
theorem ggX3_apart_X8_length : GoodIn wsX3_apart wsX8_length := goodIn_r _ [9] (by decide +kernel) (by decide +kernel)
set_option maxRecDepth 20000 in
theorem gX3_apart_X8_length : GoodIn wsX3_apart (va_wsS RX3 15 yX8_length wsX8_length) := goodIn_app (goodIn_of _ (by decide +kernel)) ggX3_apart_X8_length
set_option maxRecDepth 20000 in
theorem ggX3_apart_X8_soundAt : GoodIn wsX3_apart wsX8_soundAt := goodIn_r _ [12] (by decide +kernel) (by decide +kernel)
set_option maxRecDepth 20000 in
theorem gX3_apart_X8_soundAt : GoodIn wsX3_apart (va_wsS RX3 27 yX8_soundAt wsX8_soundAt) := goodIn_app (goodIn_of _ (by decide +kernel)) ggX3_apart_X8_soundAt
theorem dX3_apart_0 : decode cX3_apart 0 = .ok (.iload_n 2, 1) := by decide +kernel
theorem dX3_apart_1 : decode cX3_apart 1 = .ok (.invokestatic 15, 3) := by decide +kernel
theorem dX3_apart_4 : decode cX3_apart 4 = .ok (.bipush 6, 2) := by decide +kernel
theorem dX3_apart_6 : decode cX3_apart 6 = .ok (.invokestatic 21, 3) := by decide +kernel
theorem dX3_apart_9 : decode cX3_apart 9 = .ok (.istore_n 3, 1) := by decide +kernel
theorem dX3_apart_10 : decode cX3_apart 10 = .ok (.iconst 0, 1) := by decide +kernel
theorem dX3_apart_11 : decode cX3_apart 11 = .ok (.istore 4, 2) := by decide +kernel
theorem dX3_apart_13 : decode cX3_apart 13 = .ok (.iload 4, 2) := by decide +kernel
theorem dX3_apart_15 : decode cX3_apart 15 = .ok (.iload_n 3, 1) := by decide +kernel
theorem dX3_apart_16 : decode cX3_apart 16 = .ok (.if_icmp .gt 18, 3) := by decide +kernel
theorem dX3_apart_19 : decode cX3_apart 19 = .ok (.aload_n 0, 1) := by decide +kernel
theorem dX3_apart_20 : decode cX3_apart 20 = .ok (.getfield 9, 3) := by decide +kernel
theorem dX3_apart_23 : decode cX3_apart 23 = .ok (.iload 4, 2) := by decide +kernel
theorem dX3_apart_25 : decode cX3_apart 25 = .ok (.iload 4, 2) := by decide +kernel
theorem dX3_apart_27 : decode cX3_apart 27 = .ok (.iastore, 1) := by decide +kernel
theorem dX3_apart_28 : decode cX3_apart 28 = .ok (.iinc 4 1, 3) := by decide +kernel
theorem dX3_apart_31 : decode cX3_apart 31 = .ok (.goto (-18), 3) := by decide +kernel
theorem dX3_apart_34 : decode cX3_apart 34 = .ok (.iconst 1, 1) := by decide +kernel
theorem dX3_apart_35 : decode cX3_apart 35 = .ok (.istore 4, 2) := by decide +kernel
theorem dX3_apart_37 : decode cX3_apart 37 = .ok (.iload 4, 2) := by decide +kernel
theorem dX3_apart_39 : decode cX3_apart 39 = .ok (.iload_n 1, 1) := by decide +kernel
theorem dX3_apart_40 : decode cX3_apart 40 = .ok (.invokestatic 15, 3) := by decide +kernel
theorem dX3_apart_43 : decode cX3_apart 43 = .ok (.if_icmp .gt 112, 3) := by decide +kernel
theorem dX3_apart_46 : decode cX3_apart 46 = .ok (.aload_n 0, 1) := by decide +kernel
theorem dX3_apart_47 : decode cX3_apart 47 = .ok (.getfield 9, 3) := by decide +kernel
theorem dX3_apart_50 : decode cX3_apart 50 = .ok (.iconst 0, 1) := by decide +kernel
theorem dX3_apart_51 : decode cX3_apart 51 = .ok (.iaload, 1) := by decide +kernel
theorem dX3_apart_52 : decode cX3_apart 52 = .ok (.istore 5, 2) := by decide +kernel
theorem dX3_apart_54 : decode cX3_apart 54 = .ok (.aload_n 0, 1) := by decide +kernel
theorem dX3_apart_55 : decode cX3_apart 55 = .ok (.getfield 9, 3) := by decide +kernel
theorem dX3_apart_58 : decode cX3_apart 58 = .ok (.iconst 0, 1) := by decide +kernel
theorem dX3_apart_59 : decode cX3_apart 59 = .ok (.iload 4, 2) := by decide +kernel
theorem dX3_apart_61 : decode cX3_apart 61 = .ok (.iastore, 1) := by decide +kernel
theorem dX3_apart_62 : decode cX3_apart 62 = .ok (.iconst 1, 1) := by decide +kernel
theorem dX3_apart_63 : decode cX3_apart 63 = .ok (.istore 6, 2) := by decide +kernel
theorem dX3_apart_65 : decode cX3_apart 65 = .ok (.iload 6, 2) := by decide +kernel
theorem dX3_apart_67 : decode cX3_apart 67 = .ok (.iload_n 3, 1) := by decide +kernel
theorem dX3_apart_68 : decode cX3_apart 68 = .ok (.if_icmp .gt 81, 3) := by decide +kernel
theorem dX3_apart_71 : decode cX3_apart 71 = .ok (.iload_n 1, 1) := by decide +kernel
theorem dX3_apart_72 : decode cX3_apart 72 = .ok (.iload 4, 2) := by decide +kernel
theorem dX3_apart_74 : decode cX3_apart 74 = .ok (.iconst 1, 1) := by decide +kernel
theorem dX3_apart_75 : decode cX3_apart 75 = .ok (.isub, 1) := by decide +kernel
theorem dX3_apart_76 : decode cX3_apart 76 = .ok (.invokestatic 27, 3) := by decide +kernel
theorem dX3_apart_79 : decode cX3_apart 79 = .ok (.iload_n 2, 1) := by decide +kernel
theorem dX3_apart_80 : decode cX3_apart 80 = .ok (.iload 6, 2) := by decide +kernel
theorem dX3_apart_82 : decode cX3_apart 82 = .ok (.iconst 1, 1) := by decide +kernel
theorem dX3_apart_83 : decode cX3_apart 83 = .ok (.isub, 1) := by decide +kernel
theorem dX3_apart_84 : decode cX3_apart 84 = .ok (.invokestatic 27, 3) := by decide +kernel
theorem dX3_apart_87 : decode cX3_apart 87 = .ok (.if_icmp .ne 8, 3) := by decide +kernel
theorem dX3_apart_90 : decode cX3_apart 90 = .ok (.iload 5, 2) := by decide +kernel
theorem dX3_apart_92 : decode cX3_apart 92 = .ok (.goto 7, 3) := by decide +kernel
theorem dX3_apart_95 : decode cX3_apart 95 = .ok (.iload 5, 2) := by decide +kernel
theorem dX3_apart_97 : decode cX3_apart 97 = .ok (.iconst 1, 1) := by decide +kernel
theorem dX3_apart_98 : decode cX3_apart 98 = .ok (.iadd, 1) := by decide +kernel
theorem dX3_apart_99 : decode cX3_apart 99 = .ok (.istore 7, 2) := by decide +kernel
theorem dX3_apart_101 : decode cX3_apart 101 = .ok (.aload_n 0, 1) := by decide +kernel
theorem dX3_apart_102 : decode cX3_apart 102 = .ok (.getfield 9, 3) := by decide +kernel
theorem dX3_apart_105 : decode cX3_apart 105 = .ok (.iload 6, 2) := by decide +kernel
theorem dX3_apart_107 : decode cX3_apart 107 = .ok (.iaload, 1) := by decide +kernel
theorem dX3_apart_108 : decode cX3_apart 108 = .ok (.istore 5, 2) := by decide +kernel
theorem dX3_apart_110 : decode cX3_apart 110 = .ok (.aload_n 0, 1) := by decide +kernel
theorem dX3_apart_111 : decode cX3_apart 111 = .ok (.getfield 9, 3) := by decide +kernel
theorem dX3_apart_114 : decode cX3_apart 114 = .ok (.iload 6, 2) := by decide +kernel
theorem dX3_apart_116 : decode cX3_apart 116 = .ok (.iload 7, 2) := by decide +kernel
theorem dX3_apart_118 : decode cX3_apart 118 = .ok (.aload_n 0, 1) := by decide +kernel
theorem dX3_apart_119 : decode cX3_apart 119 = .ok (.getfield 9, 3) := by decide +kernel
theorem dX3_apart_122 : decode cX3_apart 122 = .ok (.iload 6, 2) := by decide +kernel
theorem dX3_apart_124 : decode cX3_apart 124 = .ok (.iaload, 1) := by decide +kernel
theorem dX3_apart_125 : decode cX3_apart 125 = .ok (.aload_n 0, 1) := by decide +kernel
theorem dX3_apart_126 : decode cX3_apart 126 = .ok (.getfield 9, 3) := by decide +kernel
theorem dX3_apart_129 : decode cX3_apart 129 = .ok (.iload 6, 2) := by decide +kernel
theorem dX3_apart_131 : decode cX3_apart 131 = .ok (.iconst 1, 1) := by decide +kernel
theorem dX3_apart_132 : decode cX3_apart 132 = .ok (.isub, 1) := by decide +kernel
theorem dX3_apart_133 : decode cX3_apart 133 = .ok (.iaload, 1) := by decide +kernel
theorem dX3_apart_134 : decode cX3_apart 134 = .ok (.invokestatic 21, 3) := by decide +kernel
theorem dX3_apart_137 : decode cX3_apart 137 = .ok (.iconst 1, 1) := by decide +kernel
theorem dX3_apart_138 : decode cX3_apart 138 = .ok (.iadd, 1) := by decide +kernel
theorem dX3_apart_139 : decode cX3_apart 139 = .ok (.invokestatic 21, 3) := by decide +kernel
theorem dX3_apart_142 : decode cX3_apart 142 = .ok (.iastore, 1) := by decide +kernel
theorem dX3_apart_143 : decode cX3_apart 143 = .ok (.iinc 6 1, 3) := by decide +kernel
theorem dX3_apart_146 : decode cX3_apart 146 = .ok (.goto (-81), 3) := by decide +kernel
theorem dX3_apart_149 : decode cX3_apart 149 = .ok (.iinc 4 1, 3) := by decide +kernel
theorem dX3_apart_152 : decode cX3_apart 152 = .ok (.goto (-115), 3) := by decide +kernel
theorem dX3_apart_155 : decode cX3_apart 155 = .ok (.aload_n 0, 1) := by decide +kernel
theorem dX3_apart_156 : decode cX3_apart 156 = .ok (.getfield 9, 3) := by decide +kernel
theorem dX3_apart_159 : decode cX3_apart 159 = .ok (.iload_n 3, 1) := by decide +kernel
theorem dX3_apart_160 : decode cX3_apart 160 = .ok (.iaload, 1) := by decide +kernel
theorem dX3_apart_161 : decode cX3_apart 161 = .ok (.ireturn, 1) := by decide +kernel
set_option maxRecDepth 20000 in
theorem ggX3_likeness_X8_length : GoodIn wsX3_likeness wsX8_length := goodIn_r _ [8] (by decide +kernel) (by decide +kernel)
set_option maxRecDepth 20000 in
theorem gX3_likeness_X8_length : GoodIn wsX3_likeness (va_wsS RX3 15 yX8_length wsX8_length) := goodIn_app (goodIn_of _ (by decide +kernel)) ggX3_likeness_X8_length
set_option maxRecDepth 20000 in
theorem ggX3_likeness_X3_apart : GoodIn wsX3_likeness wsX3_apart := goodIn_r _ [13, 14, 15, 3, 16, 17, 5, 6, 7, 8, 18, 19, 20, 21] (by decide +kernel) (by decide +kernel)
set_option maxRecDepth 20000 in
theorem gX3_likeness_X3_apart : GoodIn wsX3_likeness (wsV RX3 33 RX3 yX3_apart wsX3_apart) := goodIn_app (goodIn_of _ (by decide +kernel)) ggX3_likeness_X3_apart
theorem dX3_likeness_0 : decode cX3_likeness 0 = .ok (.iload_n 1, 1) := by decide +kernel
theorem dX3_likeness_1 : decode cX3_likeness 1 = .ok (.invokestatic 15, 3) := by decide +kernel
theorem dX3_likeness_4 : decode cX3_likeness 4 = .ok (.iload_n 2, 1) := by decide +kernel
theorem dX3_likeness_5 : decode cX3_likeness 5 = .ok (.invokestatic 15, 3) := by decide +kernel
theorem dX3_likeness_8 : decode cX3_likeness 8 = .ok (.invokestatic 30, 3) := by decide +kernel
theorem dX3_likeness_11 : decode cX3_likeness 11 = .ok (.istore_n 3, 1) := by decide +kernel
theorem dX3_likeness_12 : decode cX3_likeness 12 = .ok (.iload_n 3, 1) := by decide +kernel
theorem dX3_likeness_13 : decode cX3_likeness 13 = .ok (.ifCond .ne 8, 3) := by decide +kernel
theorem dX3_likeness_16 : decode cX3_likeness 16 = .ok (.bipush 100, 2) := by decide +kernel
theorem dX3_likeness_18 : decode cX3_likeness 18 = .ok (.goto 17, 3) := by decide +kernel
theorem dX3_likeness_21 : decode cX3_likeness 21 = .ok (.bipush 100, 2) := by decide +kernel
theorem dX3_likeness_23 : decode cX3_likeness 23 = .ok (.bipush 100, 2) := by decide +kernel
theorem dX3_likeness_25 : decode cX3_likeness 25 = .ok (.aload_n 0, 1) := by decide +kernel
theorem dX3_likeness_26 : decode cX3_likeness 26 = .ok (.iload_n 1, 1) := by decide +kernel
theorem dX3_likeness_27 : decode cX3_likeness 27 = .ok (.iload_n 2, 1) := by decide +kernel
theorem dX3_likeness_28 : decode cX3_likeness 28 = .ok (.invokevirtual 33, 3) := by decide +kernel
theorem dX3_likeness_31 : decode cX3_likeness 31 = .ok (.imul, 1) := by decide +kernel
theorem dX3_likeness_32 : decode cX3_likeness 32 = .ok (.iload_n 3, 1) := by decide +kernel
theorem dX3_likeness_33 : decode cX3_likeness 33 = .ok (.idiv, 1) := by decide +kernel
theorem dX3_likeness_34 : decode cX3_likeness 34 = .ok (.isub, 1) := by decide +kernel
theorem dX3_likeness_35 : decode cX3_likeness 35 = .ok (.ireturn, 1) := by decide +kernel
theorem dX4_init_0 : decode cX4_init 0 = .ok (.aload_n 0, 1) := by decide +kernel
theorem dX4_init_1 : decode cX4_init 1 = .ok (.invokespecial 3, 3) := by decide +kernel
theorem dX4_init_4 : decode cX4_init 4 = .ok (.aload_n 0, 1) := by decide +kernel
theorem dX4_init_5 : decode cX4_init 5 = .ok (.bipush 8, 2) := by decide +kernel
theorem dX4_init_7 : decode cX4_init 7 = .ok (.newarray .int, 2) := by decide +kernel
theorem dX4_init_9 : decode cX4_init 9 = .ok (.putfield 9, 3) := by decide +kernel
theorem dX4_init_12 : decode cX4_init 12 = .ok (.aload_n 0, 1) := by decide +kernel
theorem dX4_init_13 : decode cX4_init 13 = .ok (.bipush 8, 2) := by decide +kernel
theorem dX4_init_15 : decode cX4_init 15 = .ok (.newarray .int, 2) := by decide +kernel
theorem dX4_init_17 : decode cX4_init 17 = .ok (.putfield 15, 3) := by decide +kernel
theorem dX4_init_20 : decode cX4_init 20 = .ok (.return_, 1) := by decide +kernel
theorem dX4_clear_0 : decode cX4_clear 0 = .ok (.aload_n 0, 1) := by decide +kernel
theorem dX4_clear_1 : decode cX4_clear 1 = .ok (.iconst 0, 1) := by decide +kernel
theorem dX4_clear_2 : decode cX4_clear 2 = .ok (.putfield 18, 3) := by decide +kernel
theorem dX4_clear_5 : decode cX4_clear 5 = .ok (.aload_n 0, 1) := by decide +kernel
theorem dX4_clear_6 : decode cX4_clear 6 = .ok (.iconst 0, 1) := by decide +kernel
theorem dX4_clear_7 : decode cX4_clear 7 = .ok (.putfield 22, 3) := by decide +kernel
theorem dX4_clear_10 : decode cX4_clear 10 = .ok (.aload_n 0, 1) := by decide +kernel
theorem dX4_clear_11 : decode cX4_clear 11 = .ok (.iconst 0, 1) := by decide +kernel
theorem dX4_clear_12 : decode cX4_clear 12 = .ok (.putfield 25, 3) := by decide +kernel
theorem dX4_clear_15 : decode cX4_clear 15 = .ok (.return_, 1) := by decide +kernel
set_option maxRecDepth 20000 in
theorem ggX4_tellJoined_X5_put : GoodIn wsX4_tellJoined wsX5_put := goodIn_r _ [7] (by decide +kernel) (by decide +kernel)
set_option maxRecDepth 20000 in
theorem gX4_tellJoined_X5_put : GoodIn wsX4_tellJoined (va_wsS RX4 28 yX5_put wsX5_put) := goodIn_app (goodIn_of _ (by decide +kernel)) ggX4_tellJoined_X5_put
theorem dX4_tellJoined_0 : decode cX4_tellJoined 0 = .ok (.aload_n 0, 1) := by decide +kernel
theorem dX4_tellJoined_1 : decode cX4_tellJoined 1 = .ok (.getfield 18, 3) := by decide +kernel
theorem dX4_tellJoined_4 : decode cX4_tellJoined 4 = .ok (.bipush 8, 2) := by decide +kernel
theorem dX4_tellJoined_6 : decode cX4_tellJoined 6 = .ok (.if_icmp .lt 5, 3) := by decide +kernel
theorem dX4_tellJoined_9 : decode cX4_tellJoined 9 = .ok (.iconst 0, 1) := by decide +kernel
theorem dX4_tellJoined_10 : decode cX4_tellJoined 10 = .ok (.ireturn, 1) := by decide +kernel
theorem dX4_tellJoined_11 : decode cX4_tellJoined 11 = .ok (.aload_n 0, 1) := by decide +kernel
theorem dX4_tellJoined_12 : decode cX4_tellJoined 12 = .ok (.getfield 9, 3) := by decide +kernel
theorem dX4_tellJoined_15 : decode cX4_tellJoined 15 = .ok (.aload_n 0, 1) := by decide +kernel
theorem dX4_tellJoined_16 : decode cX4_tellJoined 16 = .ok (.getfield 18, 3) := by decide +kernel
theorem dX4_tellJoined_19 : decode cX4_tellJoined 19 = .ok (.iconst 1, 1) := by decide +kernel
theorem dX4_tellJoined_20 : decode cX4_tellJoined 20 = .ok (.iload_n 1, 1) := by decide +kernel
theorem dX4_tellJoined_21 : decode cX4_tellJoined 21 = .ok (.ishl, 1) := by decide +kernel
theorem dX4_tellJoined_22 : decode cX4_tellJoined 22 = .ok (.invokestatic 28, 3) := by decide +kernel
theorem dX4_tellJoined_25 : decode cX4_tellJoined 25 = .ok (.aload_n 0, 1) := by decide +kernel
theorem dX4_tellJoined_26 : decode cX4_tellJoined 26 = .ok (.getfield 15, 3) := by decide +kernel
theorem dX4_tellJoined_29 : decode cX4_tellJoined 29 = .ok (.aload_n 0, 1) := by decide +kernel
theorem dX4_tellJoined_30 : decode cX4_tellJoined 30 = .ok (.getfield 18, 3) := by decide +kernel
theorem dX4_tellJoined_33 : decode cX4_tellJoined 33 = .ok (.iload_n 2, 1) := by decide +kernel
theorem dX4_tellJoined_34 : decode cX4_tellJoined 34 = .ok (.invokestatic 28, 3) := by decide +kernel
theorem dX4_tellJoined_37 : decode cX4_tellJoined 37 = .ok (.aload_n 0, 1) := by decide +kernel
theorem dX4_tellJoined_38 : decode cX4_tellJoined 38 = .ok (.dup, 1) := by decide +kernel
theorem dX4_tellJoined_39 : decode cX4_tellJoined 39 = .ok (.getfield 18, 3) := by decide +kernel
theorem dX4_tellJoined_42 : decode cX4_tellJoined 42 = .ok (.iconst 1, 1) := by decide +kernel
theorem dX4_tellJoined_43 : decode cX4_tellJoined 43 = .ok (.iadd, 1) := by decide +kernel
theorem dX4_tellJoined_44 : decode cX4_tellJoined 44 = .ok (.putfield 18, 3) := by decide +kernel
theorem dX4_tellJoined_47 : decode cX4_tellJoined 47 = .ok (.iconst 1, 1) := by decide +kernel
theorem dX4_tellJoined_48 : decode cX4_tellJoined 48 = .ok (.ireturn, 1) := by decide +kernel
theorem dX4_tellNeed_0 : decode cX4_tellNeed 0 = .ok (.aload_n 0, 1) := by decide +kernel
theorem dX4_tellNeed_1 : decode cX4_tellNeed 1 = .ok (.getfield 22, 3) := by decide +kernel
theorem dX4_tellNeed_4 : decode cX4_tellNeed 4 = .ok (.bipush 6, 2) := by decide +kernel
theorem dX4_tellNeed_6 : decode cX4_tellNeed 6 = .ok (.if_icmp .lt 5, 3) := by decide +kernel
theorem dX4_tellNeed_9 : decode cX4_tellNeed 9 = .ok (.iconst 0, 1) := by decide +kernel
theorem dX4_tellNeed_10 : decode cX4_tellNeed 10 = .ok (.ireturn, 1) := by decide +kernel
theorem dX4_tellNeed_11 : decode cX4_tellNeed 11 = .ok (.aload_n 0, 1) := by decide +kernel
theorem dX4_tellNeed_12 : decode cX4_tellNeed 12 = .ok (.dup, 1) := by decide +kernel
theorem dX4_tellNeed_13 : decode cX4_tellNeed 13 = .ok (.getfield 25, 3) := by decide +kernel
theorem dX4_tellNeed_16 : decode cX4_tellNeed 16 = .ok (.iload_n 1, 1) := by decide +kernel
theorem dX4_tellNeed_17 : decode cX4_tellNeed 17 = .ok (.ior, 1) := by decide +kernel
theorem dX4_tellNeed_18 : decode cX4_tellNeed 18 = .ok (.putfield 25, 3) := by decide +kernel
theorem dX4_tellNeed_21 : decode cX4_tellNeed 21 = .ok (.aload_n 0, 1) := by decide +kernel
theorem dX4_tellNeed_22 : decode cX4_tellNeed 22 = .ok (.dup, 1) := by decide +kernel
theorem dX4_tellNeed_23 : decode cX4_tellNeed 23 = .ok (.getfield 22, 3) := by decide +kernel
theorem dX4_tellNeed_26 : decode cX4_tellNeed 26 = .ok (.iconst 1, 1) := by decide +kernel
theorem dX4_tellNeed_27 : decode cX4_tellNeed 27 = .ok (.iadd, 1) := by decide +kernel
theorem dX4_tellNeed_28 : decode cX4_tellNeed 28 = .ok (.putfield 22, 3) := by decide +kernel
theorem dX4_tellNeed_31 : decode cX4_tellNeed 31 = .ok (.iconst 1, 1) := by decide +kernel
theorem dX4_tellNeed_32 : decode cX4_tellNeed 32 = .ok (.ireturn, 1) := by decide +kernel
theorem dX4_needsTold_0 : decode cX4_needsTold 0 = .ok (.aload_n 0, 1) := by decide +kernel
theorem dX4_needsTold_1 : decode cX4_needsTold 1 = .ok (.getfield 22, 3) := by decide +kernel
theorem dX4_needsTold_4 : decode cX4_needsTold 4 = .ok (.ireturn, 1) := by decide +kernel
theorem dX4_joinedTold_0 : decode cX4_joinedTold 0 = .ok (.aload_n 0, 1) := by decide +kernel
theorem dX4_joinedTold_1 : decode cX4_joinedTold 1 = .ok (.getfield 18, 3) := by decide +kernel
theorem dX4_joinedTold_4 : decode cX4_joinedTold 4 = .ok (.ireturn, 1) := by decide +kernel
set_option maxRecDepth 20000 in
theorem ggX4_sayableBy_X5_at : GoodIn wsX4_sayableBy wsX5_at := goodIn_r _ [7] (by decide +kernel) (by decide +kernel)
set_option maxRecDepth 20000 in
theorem gX4_sayableBy_X5_at : GoodIn wsX4_sayableBy (va_wsS RX4 34 yX5_at wsX5_at) := goodIn_app (goodIn_of _ (by decide +kernel)) ggX4_sayableBy_X5_at
theorem dX4_sayableBy_0 : decode cX4_sayableBy 0 = .ok (.iload_n 1, 1) := by decide +kernel
theorem dX4_sayableBy_1 : decode cX4_sayableBy 1 = .ok (.istore_n 2, 1) := by decide +kernel
theorem dX4_sayableBy_2 : decode cX4_sayableBy 2 = .ok (.iconst 0, 1) := by decide +kernel
theorem dX4_sayableBy_3 : decode cX4_sayableBy 3 = .ok (.istore_n 3, 1) := by decide +kernel
theorem dX4_sayableBy_4 : decode cX4_sayableBy 4 = .ok (.iload_n 3, 1) := by decide +kernel
theorem dX4_sayableBy_5 : decode cX4_sayableBy 5 = .ok (.aload_n 0, 1) := by decide +kernel
theorem dX4_sayableBy_6 : decode cX4_sayableBy 6 = .ok (.getfield 18, 3) := by decide +kernel
theorem dX4_sayableBy_9 : decode cX4_sayableBy 9 = .ok (.if_icmp .ge 35, 3) := by decide +kernel
theorem dX4_sayableBy_12 : decode cX4_sayableBy 12 = .ok (.aload_n 0, 1) := by decide +kernel
theorem dX4_sayableBy_13 : decode cX4_sayableBy 13 = .ok (.getfield 15, 3) := by decide +kernel
theorem dX4_sayableBy_16 : decode cX4_sayableBy 16 = .ok (.iload_n 3, 1) := by decide +kernel
theorem dX4_sayableBy_17 : decode cX4_sayableBy 17 = .ok (.invokestatic 34, 3) := by decide +kernel
theorem dX4_sayableBy_20 : decode cX4_sayableBy 20 = .ok (.iload_n 1, 1) := by decide +kernel
theorem dX4_sayableBy_21 : decode cX4_sayableBy 21 = .ok (.iconst (-1), 1) := by decide +kernel
theorem dX4_sayableBy_22 : decode cX4_sayableBy 22 = .ok (.ixor, 1) := by decide +kernel
theorem dX4_sayableBy_23 : decode cX4_sayableBy 23 = .ok (.iand, 1) := by decide +kernel
theorem dX4_sayableBy_24 : decode cX4_sayableBy 24 = .ok (.ifCond .ne 14, 3) := by decide +kernel
theorem dX4_sayableBy_27 : decode cX4_sayableBy 27 = .ok (.iload_n 2, 1) := by decide +kernel
theorem dX4_sayableBy_28 : decode cX4_sayableBy 28 = .ok (.aload_n 0, 1) := by decide +kernel
theorem dX4_sayableBy_29 : decode cX4_sayableBy 29 = .ok (.getfield 9, 3) := by decide +kernel
theorem dX4_sayableBy_32 : decode cX4_sayableBy 32 = .ok (.iload_n 3, 1) := by decide +kernel
theorem dX4_sayableBy_33 : decode cX4_sayableBy 33 = .ok (.invokestatic 34, 3) := by decide +kernel
theorem dX4_sayableBy_36 : decode cX4_sayableBy 36 = .ok (.ior, 1) := by decide +kernel
theorem dX4_sayableBy_37 : decode cX4_sayableBy 37 = .ok (.istore_n 2, 1) := by decide +kernel
theorem dX4_sayableBy_38 : decode cX4_sayableBy 38 = .ok (.iinc 3 1, 3) := by decide +kernel
theorem dX4_sayableBy_41 : decode cX4_sayableBy 41 = .ok (.goto (-37), 3) := by decide +kernel
theorem dX4_sayableBy_44 : decode cX4_sayableBy 44 = .ok (.iload_n 2, 1) := by decide +kernel
theorem dX4_sayableBy_45 : decode cX4_sayableBy 45 = .ok (.ireturn, 1) := by decide +kernel
