/-! ===== BEGIN printed: names, fields, word lists, decode rows ===== -/
def RX0 : String := "WettedNet$Catching"
def TX0 : u_T := fun k => match k with
  | 0 => ("WettedNet$Catching", "rooms", "LWettedNet$Rooms;", true)
  | 1 => ("WettedNet$Catching", "sets", "LWettedNet$Sets;", true)
  | _ => ("WettedNet$Catching", "turns", "[I", true)
def tyX0 : Nat → FieldType := fun k => match k with
  | 0 => .object "WettedNet$Rooms"
  | 1 => .object "WettedNet$Sets"
  | _ => .array .int
abbrev wsX00 : List Cond := u_ws RX0 TX0 3
theorem nmX0 : ∀ a, a < 3 → ∀ b, b < 3 → a ≠ b → (TX0 a).2.1 ≠ (TX0 b).2.1 := by decide +kernel
theorem tyX0_ok : ∀ k, k < 3 → parseFieldDescriptor (TX0 k).2.2.1 = some (tyX0 k) := by decide +kernel
abbrev cX0_init : ByteArray := prog_2_method_1_code
def yX0_init : MethodName := ⟨RX0, "<init>", "(LWettedNet$Rooms;LWettedNet$Sets;)V"⟩
abbrev cX0_burnFrom : ByteArray := prog_2_method_2_code
def yX0_burnFrom : MethodName := ⟨RX0, "burnFrom", "(III)I"⟩
abbrev cX0_turnOf : ByteArray := prog_2_method_3_code
def yX0_turnOf : MethodName := ⟨RX0, "turnOf", "(I)I"⟩
abbrev cX0_leastSeeds : ByteArray := prog_2_method_4_code
def yX0_leastSeeds : MethodName := ⟨RX0, "leastSeeds", "(I)I"⟩
abbrev cX0_leastSeedSets : ByteArray := prog_2_method_5_code
def yX0_leastSeedSets : MethodName := ⟨RX0, "leastSeedSets", "(I)I"⟩
abbrev cX0_leastWetAhead : ByteArray := prog_2_method_6_code
def yX0_leastWetAhead : MethodName := ⟨RX0, "leastWetAhead", "(II)I"⟩
abbrev cX0_isSeeds : ByteArray := prog_2_method_7_code
def yX0_isSeeds : MethodName := ⟨RX0, "isSeeds", "(II)Z"⟩
abbrev cX0_catchOnce : ByteArray := prog_2_method_8_code
def yX0_catchOnce : MethodName := ⟨RX0, "catchOnce", "(III)I"⟩
def RX1 : String := "WettedNet$Chances"
def TX1 : u_T := fun k => match k with
  | 0 => ("WettedNet$Chances", "rooms", "LWettedNet$Rooms;", true)
  | 1 => ("WettedNet$Chances", "from", "[I", true)
  | 2 => ("WettedNet$Chances", "to", "[I", true)
  | _ => ("WettedNet$Chances", "ways", "I", false)
def tyX1 : Nat → FieldType := fun k => match k with
  | 0 => .object "WettedNet$Rooms"
  | 1 => .array .int
  | 2 => .array .int
  | _ => .int
abbrev wsX10 : List Cond := u_ws RX1 TX1 4
theorem nmX1 : ∀ a, a < 4 → ∀ b, b < 4 → a ≠ b → (TX1 a).2.1 ≠ (TX1 b).2.1 := by decide +kernel
theorem tyX1_ok : ∀ k, k < 4 → parseFieldDescriptor (TX1 k).2.2.1 = some (tyX1 k) := by decide +kernel
abbrev cX1_init : ByteArray := prog_3_method_1_code
def yX1_init : MethodName := ⟨RX1, "<init>", "(LWettedNet$Rooms;)V"⟩
abbrev cX1_reach : ByteArray := prog_3_method_2_code
def yX1_reach : MethodName := ⟨RX1, "reach", "(III)J"⟩
abbrev cX1_meanFolk : ByteArray := prog_3_method_3_code
def yX1_meanFolk : MethodName := ⟨RX1, "meanFolk", "(II)J"⟩
abbrev cX1_partOfSum : ByteArray := prog_3_method_4_code
def yX1_partOfSum : MethodName := ⟨RX1, "partOfSum", "(III)J"⟩
abbrev cX1_listWays : ByteArray := prog_3_method_5_code
def yX1_listWays : MethodName := ⟨RX1, "listWays", "()V"⟩
abbrev cX1_sumFrom : ByteArray := prog_3_method_6_code
def yX1_sumFrom : MethodName := ⟨RX1, "sumFrom", "(IIJII)J"⟩
abbrev cX1_openWay : ByteArray := prog_3_method_7_code
def yX1_openWay : MethodName := ⟨RX1, "openWay", "(II)I"⟩
abbrev cX1_worth : ByteArray := prog_3_method_8_code
def yX1_worth : MethodName := ⟨RX1, "worth", "(II)I"⟩
abbrev cX1_commonDivisor : ByteArray := prog_3_method_9_code
def yX1_commonDivisor : MethodName := ⟨RX1, "commonDivisor", "(JJ)J"⟩
def RX2 : String := "WettedNet$Fires"
def TX2 : u_T := fun k => match k with
  | 0 => ("WettedNet$Fires", "rooms", "LWettedNet$Rooms;", true)
  | 1 => ("WettedNet$Fires", "sets", "LWettedNet$Sets;", true)
  | 2 => ("WettedNet$Fires", "memo", "LWettedNet$Memo;", true)
  | _ => ("WettedNet$Fires", "wetting", "I", false)
def tyX2 : Nat → FieldType := fun k => match k with
  | 0 => .object "WettedNet$Rooms"
  | 1 => .object "WettedNet$Sets"
  | 2 => .object "WettedNet$Memo"
  | _ => .int
abbrev wsX20 : List Cond := u_ws RX2 TX2 4
theorem nmX2 : ∀ a, a < 4 → ∀ b, b < 4 → a ≠ b → (TX2 a).2.1 ≠ (TX2 b).2.1 := by decide +kernel
theorem tyX2_ok : ∀ k, k < 4 → parseFieldDescriptor (TX2 k).2.2.1 = some (tyX2 k) := by decide +kernel
abbrev cX2_init : ByteArray := prog_4_method_1_code
def yX2_init : MethodName := ⟨RX2, "<init>", "(LWettedNet$Rooms;LWettedNet$Sets;LWettedNet$Memo;)V"⟩
abbrev cX2_leastLost : ByteArray := prog_4_method_2_code
def yX2_leastLost : MethodName := ⟨RX2, "leastLost", "(III)I"⟩
abbrev cX2_firstWet : ByteArray := prog_4_method_3_code
def yX2_firstWet : MethodName := ⟨RX2, "firstWet", "(I)I"⟩
abbrev cX2_firstWets : ByteArray := prog_4_method_4_code
def yX2_firstWets : MethodName := ⟨RX2, "firstWets", "(I)I"⟩
abbrev cX2_burnOn : ByteArray := prog_4_method_5_code
def yX2_burnOn : MethodName := ⟨RX2, "burnOn", "(II)I"⟩
abbrev cX2_isFirstWet : ByteArray := prog_4_method_6_code
def yX2_isFirstWet : MethodName := ⟨RX2, "isFirstWet", "(III)Z"⟩
abbrev cX2_howManyWet : ByteArray := prog_4_method_7_code
def yX2_howManyWet : MethodName := ⟨RX2, "howManyWet", "(I)I"⟩
abbrev cX2_lostFrom : ByteArray := prog_4_method_8_code
def yX2_lostFrom : MethodName := ⟨RX2, "lostFrom", "(III)I"⟩
abbrev cX2_lostByBest : ByteArray := prog_4_method_9_code
def yX2_lostByBest : MethodName := ⟨RX2, "lostByBest", "(IIIII)I"⟩
abbrev cX2_threes : ByteArray := prog_4_method_10_code
def yX2_threes : MethodName := ⟨RX2, "threes", "(I)I"⟩
def RX3 : String := "WettedNet$Forcing"
def TX3 : u_T := fun k => match k with
  | 0 => ("WettedNet$Forcing", "rooms", "LWettedNet$Rooms;", true)
  | 1 => ("WettedNet$Forcing", "sets", "LWettedNet$Sets;", true)
  | 2 => ("WettedNet$Forcing", "rounds", "[I", true)
  | 3 => ("WettedNet$Forcing", "forcedBy", "[I", true)
  | _ => ("WettedNet$Forcing", "lastRound", "I", false)
def tyX3 : Nat → FieldType := fun k => match k with
  | 0 => .object "WettedNet$Rooms"
  | 1 => .object "WettedNet$Sets"
  | 2 => .array .int
  | 3 => .array .int
  | _ => .int
abbrev wsX30 : List Cond := u_ws RX3 TX3 5
theorem nmX3 : ∀ a, a < 5 → ∀ b, b < 5 → a ≠ b → (TX3 a).2.1 ≠ (TX3 b).2.1 := by decide +kernel
theorem tyX3_ok : ∀ k, k < 5 → parseFieldDescriptor (TX3 k).2.2.1 = some (tyX3 k) := by decide +kernel
abbrev cX3_init : ByteArray := prog_5_method_1_code
def yX3_init : MethodName := ⟨RX3, "<init>", "(LWettedNet$Rooms;LWettedNet$Sets;)V"⟩
abbrev cX3_burnFrom : ByteArray := prog_5_method_2_code
def yX3_burnFrom : MethodName := ⟨RX3, "burnFrom", "(I)I"⟩
abbrev cX3_roundOf : ByteArray := prog_5_method_3_code
def yX3_roundOf : MethodName := ⟨RX3, "roundOf", "(I)I"⟩
abbrev cX3_forcerOf : ByteArray := prog_5_method_4_code
def yX3_forcerOf : MethodName := ⟨RX3, "forcerOf", "(I)I"⟩
abbrev cX3_leastForcers : ByteArray := prog_5_method_5_code
def yX3_leastForcers : MethodName := ⟨RX3, "leastForcers", "()I"⟩
abbrev cX3_leastForcerSets : ByteArray := prog_5_method_6_code
def yX3_leastForcerSets : MethodName := ⟨RX3, "leastForcerSets", "()I"⟩
abbrev cX3_cheapest : ByteArray := prog_5_method_7_code
def yX3_cheapest : MethodName := ⟨RX3, "cheapest", "()I"⟩
abbrev cX3_costOf : ByteArray := prog_5_method_8_code
def yX3_costOf : MethodName := ⟨RX3, "costOf", "(I)I"⟩
abbrev cX3_forcesAll : ByteArray := prog_5_method_9_code
def yX3_forcesAll : MethodName := ⟨RX3, "forcesAll", "(I)Z"⟩
abbrev cX3_forceOnce : ByteArray := prog_5_method_10_code
def yX3_forceOnce : MethodName := ⟨RX3, "forceOnce", "(II)I"⟩
def RX4 : String := "WettedNet$Game"
def TX4 : u_T := fun k => match k with
  | 0 => ("WettedNet$Game", "rooms", "LWettedNet$Rooms;", true)
  | 1 => ("WettedNet$Game", "fires", "LWettedNet$Fires;", true)
  | 2 => ("WettedNet$Game", "begun", "Z", false)
  | 3 => ("WettedNet$Game", "ended", "Z", false)
  | 4 => ("WettedNet$Game", "burning", "I", false)
  | 5 => ("WettedNet$Game", "wet", "I", false)
  | 6 => ("WettedNet$Game", "turns", "I", false)
  | 7 => ("WettedNet$Game", "bad", "I", false)
  | _ => ("WettedNet$Game", "leastNow", "I", false)
def tyX4 : Nat → FieldType := fun k => match k with
  | 0 => .object "WettedNet$Rooms"
  | 1 => .object "WettedNet$Fires"
  | 2 => .boolean
  | 3 => .boolean
  | 4 => .int
  | 5 => .int
  | 6 => .int
  | 7 => .int
  | _ => .int
abbrev wsX40 : List Cond := u_ws RX4 TX4 9
theorem nmX4 : ∀ a, a < 9 → ∀ b, b < 9 → a ≠ b → (TX4 a).2.1 ≠ (TX4 b).2.1 := by decide +kernel
theorem tyX4_ok : ∀ k, k < 9 → parseFieldDescriptor (TX4 k).2.2.1 = some (tyX4 k) := by decide +kernel
abbrev cX4_init : ByteArray := prog_6_method_1_code
def yX4_init : MethodName := ⟨RX4, "<init>", "(LWettedNet$Rooms;LWettedNet$Fires;)V"⟩
abbrev cX4_start : ByteArray := prog_6_method_2_code
def yX4_start : MethodName := ⟨RX4, "start", "(I)I"⟩
abbrev cX4_drop : ByteArray := prog_6_method_3_code
def yX4_drop : MethodName := ⟨RX4, "drop", "()V"⟩
abbrev cX4_isBegun : ByteArray := prog_6_method_4_code
def yX4_isBegun : MethodName := ⟨RX4, "isBegun", "()Z"⟩
abbrev cX4_mayWet : ByteArray := prog_6_method_5_code
def yX4_mayWet : MethodName := ⟨RX4, "mayWet", "(I)Z"⟩
abbrev cX4_takeTurn : ByteArray := prog_6_method_6_code
def yX4_takeTurn : MethodName := ⟨RX4, "takeTurn", "(I)I"⟩
abbrev cX4_tell : ByteArray := prog_6_method_7_code
def yX4_tell : MethodName := ⟨RX4, "tell", "(I)I"⟩
def RX5 : String := "WettedNet$Memo"
def TX5 : u_T := fun k => match k with
  | 0 => ("WettedNet$Memo", "cells", "[I", false)
  | _ => ("WettedNet$Memo", "search", "I", false)
def tyX5 : Nat → FieldType := fun k => match k with
  | 0 => .array .int
  | _ => .int
abbrev wsX50 : List Cond := u_ws RX5 TX5 2
theorem nmX5 : ∀ a, a < 2 → ∀ b, b < 2 → a ≠ b → (TX5 a).2.1 ≠ (TX5 b).2.1 := by decide +kernel
theorem tyX5_ok : ∀ k, k < 2 → parseFieldDescriptor (TX5 k).2.2.1 = some (tyX5 k) := by decide +kernel
abbrev cX5_init : ByteArray := prog_7_method_1_code
def yX5_init : MethodName := ⟨RX5, "<init>", "()V"⟩
abbrev cX5_startSearch : ByteArray := prog_7_method_2_code
def yX5_startSearch : MethodName := ⟨RX5, "startSearch", "()V"⟩
abbrev cX5_recall : ByteArray := prog_7_method_3_code
def yX5_recall : MethodName := ⟨RX5, "recall", "(I)I"⟩
abbrev cX5_keep : ByteArray := prog_7_method_4_code
def yX5_keep : MethodName := ⟨RX5, "keep", "(II)V"⟩
def RX6 : String := "WettedNet$Rooms"
def TX6 : u_T := fun k => match k with
  | 0 => ("WettedNet$Rooms", "besideOf", "[I", true)
  | 1 => ("WettedNet$Rooms", "atOf", "[I", true)
  | 2 => ("WettedNet$Rooms", "folkIn", "[I", true)
  | 3 => ("WettedNet$Rooms", "thickOf", "[I", true)
  | 4 => ("WettedNet$Rooms", "number", "I", false)
  | 5 => ("WettedNet$Rooms", "wetting", "I", false)
  | _ => ("WettedNet$Rooms", "tenths", "I", false)
def tyX6 : Nat → FieldType := fun k => match k with
  | 0 => .array .int
  | 1 => .array .int
  | 2 => .array .int
  | 3 => .array .int
  | 4 => .int
  | 5 => .int
  | _ => .int
abbrev wsX60 : List Cond := u_ws RX6 TX6 7
theorem nmX6 : ∀ a, a < 7 → ∀ b, b < 7 → a ≠ b → (TX6 a).2.1 ≠ (TX6 b).2.1 := by decide +kernel
theorem tyX6_ok : ∀ k, k < 7 → parseFieldDescriptor (TX6 k).2.2.1 = some (tyX6 k) := by decide +kernel
abbrev cX6_init : ByteArray := prog_8_method_1_code
def yX6_init : MethodName := ⟨RX6, "<init>", "()V"⟩
abbrev cX6_howMany : ByteArray := prog_8_method_2_code
def yX6_howMany : MethodName := ⟨RX6, "howMany", "()I"⟩
abbrev cX6_hands : ByteArray := prog_8_method_3_code
def yX6_hands : MethodName := ⟨RX6, "hands", "()I"⟩
abbrev cX6_chance : ByteArray := prog_8_method_4_code
def yX6_chance : MethodName := ⟨RX6, "chance", "()I"⟩
abbrev cX6_all : ByteArray := prog_8_method_5_code
def yX6_all : MethodName := ⟨RX6, "all", "()I"⟩
abbrev cX6_isRoom : ByteArray := prog_8_method_6_code
def yX6_isRoom : MethodName := ⟨RX6, "isRoom", "(I)Z"⟩
abbrev cX6_isSet : ByteArray := prog_8_method_7_code
def yX6_isSet : MethodName := ⟨RX6, "isSet", "(I)Z"⟩
abbrev cX6_beside : ByteArray := prog_8_method_8_code
def yX6_beside : MethodName := ⟨RX6, "beside", "(I)I"⟩
abbrev cX6_at : ByteArray := prog_8_method_9_code
def yX6_at : MethodName := ⟨RX6, "at", "(I)I"⟩
abbrev cX6_folk : ByteArray := prog_8_method_10_code
def yX6_folk : MethodName := ⟨RX6, "folk", "(I)I"⟩
abbrev cX6_thick : ByteArray := prog_8_method_11_code
def yX6_thick : MethodName := ⟨RX6, "thick", "(I)I"⟩
abbrev cX6_besideAny : ByteArray := prog_8_method_12_code
def yX6_besideAny : MethodName := ⟨RX6, "besideAny", "(I)I"⟩
abbrev cX6_folkOf : ByteArray := prog_8_method_13_code
def yX6_folkOf : MethodName := ⟨RX6, "folkOf", "(I)I"⟩
abbrev cX6_ways : ByteArray := prog_8_method_14_code
def yX6_ways : MethodName := ⟨RX6, "ways", "()I"⟩
abbrev cX6_isEven : ByteArray := prog_8_method_15_code
def yX6_isEven : MethodName := ⟨RX6, "isEven", "()Z"⟩
abbrev cX6_change : ByteArray := prog_8_method_16_code
def yX6_change : MethodName := ⟨RX6, "change", "(III)V"⟩
abbrev cX6_restart : ByteArray := prog_8_method_17_code
def yX6_restart : MethodName := ⟨RX6, "restart", "(I)V"⟩
abbrev cX6_changeRoom : ByteArray := prog_8_method_18_code
def yX6_changeRoom : MethodName := ⟨RX6, "changeRoom", "(III)V"⟩
abbrev cX6_changeWays : ByteArray := prog_8_method_19_code
def yX6_changeWays : MethodName := ⟨RX6, "changeWays", "(III)V"⟩
abbrev cX6_setWay : ByteArray := prog_8_method_20_code
def yX6_setWay : MethodName := ⟨RX6, "setWay", "(IIZ)V"⟩
def RX7 : String := "WettedNet$Script"
def TX7 : u_T := fun k => match k with
  | 0 => ("WettedNet$Script", "bytes", "[I", true)
  | 1 => ("WettedNet$Script", "kinds", "[I", true)
  | 2 => ("WettedNet$Script", "firsts", "[I", true)
  | 3 => ("WettedNet$Script", "seconds", "[I", true)
  | 4 => ("WettedNet$Script", "length", "I", false)
  | 5 => ("WettedNet$Script", "found", "I", false)
  | 6 => ("WettedNet$Script", "place", "I", false)
  | _ => ("WettedNet$Script", "roomsThen", "I", false)
def tyX7 : Nat → FieldType := fun k => match k with
  | 0 => .array .int
  | 1 => .array .int
  | 2 => .array .int
  | 3 => .array .int
  | 4 => .int
  | 5 => .int
  | 6 => .int
  | _ => .int
abbrev wsX70 : List Cond := u_ws RX7 TX7 8
theorem nmX7 : ∀ a, a < 8 → ∀ b, b < 8 → a ≠ b → (TX7 a).2.1 ≠ (TX7 b).2.1 := by decide +kernel
theorem tyX7_ok : ∀ k, k < 8 → parseFieldDescriptor (TX7 k).2.2.1 = some (tyX7 k) := by decide +kernel
abbrev cX7_init : ByteArray := prog_9_method_1_code
def yX7_init : MethodName := ⟨RX7, "<init>", "()V"⟩
abbrev cX7_size : ByteArray := prog_9_method_2_code
def yX7_size : MethodName := ⟨RX7, "size", "()I"⟩
abbrev cX7_lines : ByteArray := prog_9_method_3_code
def yX7_lines : MethodName := ⟨RX7, "lines", "()I"⟩
abbrev cX7_kind : ByteArray := prog_9_method_4_code
def yX7_kind : MethodName := ⟨RX7, "kind", "(I)I"⟩
abbrev cX7_first : ByteArray := prog_9_method_5_code
def yX7_first : MethodName := ⟨RX7, "first", "(I)I"⟩
abbrev cX7_second : ByteArray := prog_9_method_6_code
def yX7_second : MethodName := ⟨RX7, "second", "(I)I"⟩
abbrev cX7_add : ByteArray := prog_9_method_7_code
def yX7_add : MethodName := ⟨RX7, "add", "(I)V"⟩
abbrev cX7_empty : ByteArray := prog_9_method_8_code
def yX7_empty : MethodName := ⟨RX7, "empty", "()V"⟩
abbrev cX7_firstFault : ByteArray := prog_9_method_9_code
def yX7_firstFault : MethodName := ⟨RX7, "firstFault", "(I)I"⟩
abbrev cX7_readLine : ByteArray := prog_9_method_10_code
def yX7_readLine : MethodName := ⟨RX7, "readLine", "(I)Z"⟩
abbrev cX7_takesTwo : ByteArray := prog_9_method_11_code
def yX7_takesTwo : MethodName := ⟨RX7, "takesTwo", "(I)Z"⟩
abbrev cX7_readFirst : ByteArray := prog_9_method_12_code
def yX7_readFirst : MethodName := ⟨RX7, "readFirst", "(I)I"⟩
abbrev cX7_readSecond : ByteArray := prog_9_method_13_code
def yX7_readSecond : MethodName := ⟨RX7, "readSecond", "(II)I"⟩
abbrev cX7_readNumber : ByteArray := prog_9_method_14_code
def yX7_readNumber : MethodName := ⟨RX7, "readNumber", "(III)I"⟩
abbrev cX7_skipBlanks : ByteArray := prog_9_method_15_code
def yX7_skipBlanks : MethodName := ⟨RX7, "skipBlanks", "()V"⟩
abbrev cX7_endOfRow : ByteArray := prog_9_method_16_code
def yX7_endOfRow : MethodName := ⟨RX7, "endOfRow", "(II)I"⟩
abbrev cX7_byteAt : ByteArray := prog_9_method_17_code
def yX7_byteAt : MethodName := ⟨RX7, "byteAt", "(I)I"⟩
abbrev cX7_kindOf : ByteArray := prog_9_method_18_code
def yX7_kindOf : MethodName := ⟨RX7, "kindOf", "(I)I"⟩
abbrev cX7_spells : ByteArray := prog_9_method_19_code
def yX7_spells : MethodName := ⟨RX7, "spells", "(Ljava/lang/String;I)Z"⟩
abbrev cX7_wordOf : ByteArray := prog_9_method_20_code
def yX7_wordOf : MethodName := ⟨RX7, "wordOf", "(I)Ljava/lang/String;"⟩
def RX8 : String := "WettedNet$Sets"
def TX8 : u_T := fun k => match k with
  | 0 => ("WettedNet$Sets", "ordered", "[I", true)
  | _ => ("WettedNet$Sets", "starts", "[I", true)
def tyX8 : Nat → FieldType := fun k => match k with
  | 0 => .array .int
  | _ => .array .int
abbrev wsX80 : List Cond := u_ws RX8 TX8 2
theorem nmX8 : ∀ a, a < 2 → ∀ b, b < 2 → a ≠ b → (TX8 a).2.1 ≠ (TX8 b).2.1 := by decide +kernel
theorem tyX8_ok : ∀ k, k < 2 → parseFieldDescriptor (TX8 k).2.2.1 = some (tyX8 k) := by decide +kernel
abbrev cX8_init : ByteArray := prog_10_method_1_code
def yX8_init : MethodName := ⟨RX8, "<init>", "()V"⟩
abbrev cX8_get : ByteArray := prog_10_method_2_code
def yX8_get : MethodName := ⟨RX8, "get", "(I)I"⟩
abbrev cX8_startOf : ByteArray := prog_10_method_3_code
def yX8_startOf : MethodName := ⟨RX8, "startOf", "(I)I"⟩
def RX9 : String := "WettedNet$Throwing"
def TX9 : u_T := fun k => match k with
  | 0 => ("WettedNet$Throwing", "rooms", "LWettedNet$Rooms;", true)
  | _ => ("WettedNet$Throwing", "memo", "LWettedNet$Memo;", true)
def tyX9 : Nat → FieldType := fun k => match k with
  | 0 => .object "WettedNet$Rooms"
  | _ => .object "WettedNet$Memo"
abbrev wsX90 : List Cond := u_ws RX9 TX9 2
theorem nmX9 : ∀ a, a < 2 → ∀ b, b < 2 → a ≠ b → (TX9 a).2.1 ≠ (TX9 b).2.1 := by decide +kernel
theorem tyX9_ok : ∀ k, k < 2 → parseFieldDescriptor (TX9 k).2.2.1 = some (tyX9 k) := by decide +kernel
abbrev cX9_init : ByteArray := prog_11_method_1_code
def yX9_init : MethodName := ⟨RX9, "<init>", "(LWettedNet$Rooms;LWettedNet$Memo;)V"⟩
abbrev cX9_fewestTurns : ByteArray := prog_11_method_2_code
def yX9_fewestTurns : MethodName := ⟨RX9, "fewestTurns", "()I"⟩
abbrev cX9_sparkOf : ByteArray := prog_11_method_3_code
def yX9_sparkOf : MethodName := ⟨RX9, "sparkOf", "(I)I"⟩
abbrev cX9_turnOf : ByteArray := prog_11_method_4_code
def yX9_turnOf : MethodName := ⟨RX9, "turnOf", "(III)I"⟩
abbrev cX9_told : ByteArray := prog_11_method_5_code
def yX9_told : MethodName := ⟨RX9, "told", "(II)I"⟩
abbrev cX9_leastSpark : ByteArray := prog_11_method_6_code
def yX9_leastSpark : MethodName := ⟨RX9, "leastSpark", "(II)I"⟩
abbrev cX9_turnsFrom : ByteArray := prog_11_method_7_code
def yX9_turnsFrom : MethodName := ⟨RX9, "turnsFrom", "(II)I"⟩
abbrev cX9_turnsByBest : ByteArray := prog_11_method_8_code
def yX9_turnsByBest : MethodName := ⟨RX9, "turnsByBest", "(II)I"⟩
def RX10 : String := "WettedNet$Walks"
def TX10 : u_T := fun k => match k with
  | 0 => ("WettedNet$Walks", "rooms", "LWettedNet$Rooms;", true)
  | _ => ("WettedNet$Walks", "memo", "LWettedNet$Memo;", true)
def tyX10 : Nat → FieldType := fun k => match k with
  | 0 => .object "WettedNet$Rooms"
  | _ => .object "WettedNet$Memo"
abbrev wsX100 : List Cond := u_ws RX10 TX10 2
theorem nmX10 : ∀ a, a < 2 → ∀ b, b < 2 → a ≠ b → (TX10 a).2.1 ≠ (TX10 b).2.1 := by decide +kernel
theorem tyX10_ok : ∀ k, k < 2 → parseFieldDescriptor (TX10 k).2.2.1 = some (tyX10 k) := by decide +kernel
abbrev cX10_init : ByteArray := prog_12_method_1_code
def yX10_init : MethodName := ⟨RX10, "<init>", "(LWettedNet$Rooms;LWettedNet$Memo;)V"⟩
abbrev cX10_length : ByteArray := prog_12_method_2_code
def yX10_length : MethodName := ⟨RX10, "length", "(II)I"⟩
abbrev cX10_alone : ByteArray := prog_12_method_3_code
def yX10_alone : MethodName := ⟨RX10, "alone", "(II)I"⟩
abbrev cX10_step : ByteArray := prog_12_method_4_code
def yX10_step : MethodName := ⟨RX10, "step", "(II)I"⟩
abbrev cX10_mostPairs : ByteArray := prog_12_method_5_code
def yX10_mostPairs : MethodName := ⟨RX10, "mostPairs", "()I"⟩
abbrev cX10_goesFrom : ByteArray := prog_12_method_6_code
def yX10_goesFrom : MethodName := ⟨RX10, "goesFrom", "(IIZI)I"⟩
abbrev cX10_pairsAmong : ByteArray := prog_12_method_7_code
def yX10_pairsAmong : MethodName := ⟨RX10, "pairsAmong", "(II)I"⟩
def RX11 : String := "WettedNet"
def TX11 : u_T := fun k => match k with
  | 0 => ("WettedNet", "rooms", "LWettedNet$Rooms;", true)
  | 1 => ("WettedNet", "script", "LWettedNet$Script;", true)
  | 2 => ("WettedNet", "fires", "LWettedNet$Fires;", true)
  | 3 => ("WettedNet", "game", "LWettedNet$Game;", true)
  | 4 => ("WettedNet", "throwing", "LWettedNet$Throwing;", true)
  | 5 => ("WettedNet", "catching", "LWettedNet$Catching;", true)
  | 6 => ("WettedNet", "forcing", "LWettedNet$Forcing;", true)
  | 7 => ("WettedNet", "chances", "LWettedNet$Chances;", true)
  | _ => ("WettedNet", "walks", "LWettedNet$Walks;", true)
def tyX11 : Nat → FieldType := fun k => match k with
  | 0 => .object "WettedNet$Rooms"
  | 1 => .object "WettedNet$Script"
  | 2 => .object "WettedNet$Fires"
  | 3 => .object "WettedNet$Game"
  | 4 => .object "WettedNet$Throwing"
  | 5 => .object "WettedNet$Catching"
  | 6 => .object "WettedNet$Forcing"
  | 7 => .object "WettedNet$Chances"
  | _ => .object "WettedNet$Walks"
abbrev wsX110 : List Cond := u_ws RX11 TX11 9
theorem nmX11 : ∀ a, a < 9 → ∀ b, b < 9 → a ≠ b → (TX11 a).2.1 ≠ (TX11 b).2.1 := by decide +kernel
theorem tyX11_ok : ∀ k, k < 9 → parseFieldDescriptor (TX11 k).2.2.1 = some (tyX11 k) := by decide +kernel
abbrev cX11_init : ByteArray := prog_1_method_1_code
def yX11_init : MethodName := ⟨RX11, "<init>", "()V"⟩
abbrev cX11_write : ByteArray := prog_1_method_2_code
def yX11_write : MethodName := ⟨RX11, "write", "(JI)I"⟩
abbrev cX11_erase : ByteArray := prog_1_method_3_code
def yX11_erase : MethodName := ⟨RX11, "erase", "()I"⟩
abbrev cX11_fault : ByteArray := prog_1_method_4_code
def yX11_fault : MethodName := ⟨RX11, "fault", "()I"⟩
abbrev cX11_net : ByteArray := prog_1_method_5_code
def yX11_net : MethodName := ⟨RX11, "net", "()I"⟩
abbrev cX11_room : ByteArray := prog_1_method_6_code
def yX11_room : MethodName := ⟨RX11, "room", "(II)I"⟩
abbrev cX11_least : ByteArray := prog_1_method_7_code
def yX11_least : MethodName := ⟨RX11, "least", "(II)I"⟩
abbrev cX11_hold : ByteArray := prog_1_method_8_code
def yX11_hold : MethodName := ⟨RX11, "hold", "(II)I"⟩
abbrev cX11_begin : ByteArray := prog_1_method_9_code
def yX11_begin : MethodName := ⟨RX11, "begin", "(I)I"⟩
abbrev cX11_wets : ByteArray := prog_1_method_10_code
def yX11_wets : MethodName := ⟨RX11, "wets", "(I)I"⟩
abbrev cX11_play : ByteArray := prog_1_method_11_code
def yX11_play : MethodName := ⟨RX11, "play", "(I)I"⟩
abbrev cX11_sparks : ByteArray := prog_1_method_12_code
def yX11_sparks : MethodName := ⟨RX11, "sparks", "(I)I"⟩
abbrev cX11_when : ByteArray := prog_1_method_13_code
def yX11_when : MethodName := ⟨RX11, "when", "(III)I"⟩
abbrev cX11_caught : ByteArray := prog_1_method_14_code
def yX11_caught : MethodName := ⟨RX11, "caught", "(II)I"⟩
abbrev cX11_seeds : ByteArray := prog_1_method_15_code
def yX11_seeds : MethodName := ⟨RX11, "seeds", "(II)I"⟩
abbrev cX11_ahead : ByteArray := prog_1_method_16_code
def yX11_ahead : MethodName := ⟨RX11, "ahead", "(II)I"⟩
abbrev cX11_forced : ByteArray := prog_1_method_17_code
def yX11_forced : MethodName := ⟨RX11, "forced", "(III)I"⟩
abbrev cX11_forcers : ByteArray := prog_1_method_18_code
def yX11_forcers : MethodName := ⟨RX11, "forcers", "(I)I"⟩
abbrev cX11_carried : ByteArray := prog_1_method_19_code
def yX11_carried : MethodName := ⟨RX11, "carried", "(III)J"⟩
abbrev cX11_mean : ByteArray := prog_1_method_20_code
def yX11_mean : MethodName := ⟨RX11, "mean", "(II)J"⟩
abbrev cX11_token : ByteArray := prog_1_method_21_code
def yX11_token : MethodName := ⟨RX11, "token", "(III)I"⟩
abbrev cX11_pairs : ByteArray := prog_1_method_22_code
def yX11_pairs : MethodName := ⟨RX11, "pairs", "()I"⟩
abbrev cX11_count : ByteArray := prog_1_method_23_code
def yX11_count : MethodName := ⟨RX11, "count", "(I)I"⟩
abbrev cX11_within : ByteArray := prog_1_method_24_code
def yX11_within : MethodName := ⟨RX11, "within", "(III)Z"⟩
abbrev cX11_has : ByteArray := prog_1_method_25_code
def yX11_has : MethodName := ⟨RX11, "has", "(II)Z"⟩
def RX12 : String := "WettedNetModel"
def TX12 : u_T := fun k => match k with
  | 0 => ("WettedNetModel", "text", "[I", true)
  | 1 => ("WettedNetModel", "length", "I", false)
  | 2 => ("WettedNetModel", "read", "[I", true)
  | 3 => ("WettedNetModel", "readMany", "I", false)
  | 4 => ("WettedNetModel", "rooms", "I", false)
  | 5 => ("WettedNetModel", "ways", "[I", true)
  | 6 => ("WettedNetModel", "folk", "[I", true)
  | 7 => ("WettedNetModel", "thick", "[I", true)
  | 8 => ("WettedNetModel", "hands", "I", false)
  | 9 => ("WettedNetModel", "chance", "I", false)
  | 10 => ("WettedNetModel", "at", "I", false)
  | 11 => ("WettedNetModel", "place", "I", false)
  | 12 => ("WettedNetModel", "end", "I", false)
  | 13 => ("WettedNetModel", "readRooms", "I", false)
  | 14 => ("WettedNetModel", "lost", "[I", true)
  | 15 => ("WettedNetModel", "playing", "Z", false)
  | 16 => ("WettedNetModel", "burning", "I", false)
  | 17 => ("WettedNetModel", "wetted", "I", false)
  | 18 => ("WettedNetModel", "turns", "I", false)
  | 19 => ("WettedNetModel", "ended", "Z", false)
  | 20 => ("WettedNetModel", "bad", "I", false)
  | 21 => ("WettedNetModel", "till", "[I", true)
  | 22 => ("WettedNetModel", "wayFrom", "[I", true)
  | 23 => ("WettedNetModel", "wayTo", "[I", true)
  | 24 => ("WettedNetModel", "wins", "[Z", true)
  | 25 => ("WettedNetModel", "lasts", "[I", true)
  | 26 => ("WettedNetModel", "longest", "[I", true)
  | 27 => ("WettedNetModel", "steps", "[I", true)
  | _ => ("WettedNetModel", "paired", "[I", true)
def tyX12 : Nat → FieldType := fun k => match k with
  | 0 => .array .int
  | 1 => .int
  | 2 => .array .int
  | 3 => .int
  | 4 => .int
  | 5 => .array .int
  | 6 => .array .int
  | 7 => .array .int
  | 8 => .int
  | 9 => .int
  | 10 => .int
  | 11 => .int
  | 12 => .int
  | 13 => .int
  | 14 => .array .int
  | 15 => .boolean
  | 16 => .int
  | 17 => .int
  | 18 => .int
  | 19 => .boolean
  | 20 => .int
  | 21 => .array .int
  | 22 => .array .int
  | 23 => .array .int
  | 24 => .array .boolean
  | 25 => .array .int
  | 26 => .array .int
  | 27 => .array .int
  | _ => .array .int
abbrev wsX120 : List Cond := u_ws RX12 TX12 29
theorem nmX12 : ∀ a, a < 29 → ∀ b, b < 29 → a ≠ b → (TX12 a).2.1 ≠ (TX12 b).2.1 := by decide +kernel
theorem tyX12_ok : ∀ k, k < 29 → parseFieldDescriptor (TX12 k).2.2.1 = some (tyX12 k) := by decide +kernel
abbrev cX12_init : ByteArray := prog_14_method_1_code
def yX12_init : MethodName := ⟨RX12, "<init>", "()V"⟩
abbrev cX12_in : ByteArray := prog_14_method_2_code
def yX12_in : MethodName := ⟨RX12, "in", "(JJJ)Z"⟩
abbrev cX12_has : ByteArray := prog_14_method_3_code
def yX12_has : MethodName := ⟨RX12, "has", "(II)Z"⟩
abbrev cX12_many : ByteArray := prog_14_method_4_code
def yX12_many : MethodName := ⟨RX12, "many", "(I)I"⟩
abbrev cX12_write : ByteArray := prog_14_method_5_code
def yX12_write : MethodName := ⟨RX12, "write", "(JI)I"⟩
abbrev cX12_erase : ByteArray := prog_14_method_6_code
def yX12_erase : MethodName := ⟨RX12, "erase", "()I"⟩
abbrev cX12_sort : ByteArray := prog_14_method_7_code
def yX12_sort : MethodName := ⟨RX12, "sort", "(I)I"⟩
abbrev cX12_token : ByteArray := prog_14_method_8_code
def yX12_token : MethodName := ⟨RX12, "token", "()V"⟩
abbrev cX12_isWord : ByteArray := prog_14_method_9_code
def yX12_isWord : MethodName := ⟨RX12, "isWord", "(II)Z"⟩
abbrev cX12_reads : ByteArray := prog_14_method_10_code
def yX12_reads : MethodName := ⟨RX12, "reads", "(IIII)Z"⟩
abbrev cX12_readsRest : ByteArray := prog_14_method_11_code
def yX12_readsRest : MethodName := ⟨RX12, "readsRest", "(I)Z"⟩
abbrev cX12_readsLine : ByteArray := prog_14_method_12_code
def yX12_readsLine : MethodName := ⟨RX12, "readsLine", "()Z"⟩
abbrev cX12_fault : ByteArray := prog_14_method_13_code
def yX12_fault : MethodName := ⟨RX12, "fault", "()I"⟩
abbrev cX12_lay : ByteArray := prog_14_method_14_code
def yX12_lay : MethodName := ⟨RX12, "lay", "(I)V"⟩
abbrev cX12_net : ByteArray := prog_14_method_15_code
def yX12_net : MethodName := ⟨RX12, "net", "()I"⟩
abbrev cX12_isRoom : ByteArray := prog_14_method_16_code
def yX12_isRoom : MethodName := ⟨RX12, "isRoom", "(I)Z"⟩
abbrev cX12_all : ByteArray := prog_14_method_17_code
def yX12_all : MethodName := ⟨RX12, "all", "()I"⟩
abbrev cX12_isSetOf : ByteArray := prog_14_method_18_code
def yX12_isSetOf : MethodName := ⟨RX12, "isSetOf", "(I)Z"⟩
abbrev cX12_atOf : ByteArray := prog_14_method_19_code
def yX12_atOf : MethodName := ⟨RX12, "atOf", "(I)I"⟩
abbrev cX12_room : ByteArray := prog_14_method_20_code
def yX12_room : MethodName := ⟨RX12, "room", "(II)I"⟩
abbrev cX12_besideAll : ByteArray := prog_14_method_21_code
def yX12_besideAll : MethodName := ⟨RX12, "besideAll", "(I)I"⟩
abbrev cX12_folkOf : ByteArray := prog_14_method_22_code
def yX12_folkOf : MethodName := ⟨RX12, "folkOf", "(I)I"⟩
abbrev cX12_code : ByteArray := prog_14_method_23_code
def yX12_code : MethodName := ⟨RX12, "code", "(II)I"⟩
abbrev cX12_mayWet : ByteArray := prog_14_method_24_code
def yX12_mayWet : MethodName := ⟨RX12, "mayWet", "(IIII)Z"⟩
abbrev cX12_spread : ByteArray := prog_14_method_25_code
def yX12_spread : MethodName := ⟨RX12, "spread", "(II)I"⟩
abbrev cX12_behind : ByteArray := prog_14_method_26_code
def yX12_behind : MethodName := ⟨RX12, "behind", "(III)I"⟩
abbrev cX12_layLost : ByteArray := prog_14_method_27_code
def yX12_layLost : MethodName := ⟨RX12, "layLost", "(I)V"⟩
abbrev cX12_least : ByteArray := prog_14_method_28_code
def yX12_least : MethodName := ⟨RX12, "least", "(II)I"⟩
abbrev cX12_hold : ByteArray := prog_14_method_29_code
def yX12_hold : MethodName := ⟨RX12, "hold", "(II)I"⟩
abbrev cX12_begin : ByteArray := prog_14_method_30_code
def yX12_begin : MethodName := ⟨RX12, "begin", "(I)I"⟩
abbrev cX12_wets : ByteArray := prog_14_method_31_code
def yX12_wets : MethodName := ⟨RX12, "wets", "(I)I"⟩
abbrev cX12_play : ByteArray := prog_14_method_32_code
def yX12_play : MethodName := ⟨RX12, "play", "(I)I"⟩
abbrev cX12_layTill : ByteArray := prog_14_method_33_code
def yX12_layTill : MethodName := ⟨RX12, "layTill", "()V"⟩
abbrev cX12_sparks : ByteArray := prog_14_method_34_code
def yX12_sparks : MethodName := ⟨RX12, "sparks", "(I)I"⟩
abbrev cX12_when : ByteArray := prog_14_method_35_code
def yX12_when : MethodName := ⟨RX12, "when", "(III)I"⟩
abbrev cX12_caughtBy : ByteArray := prog_14_method_36_code
def yX12_caughtBy : MethodName := ⟨RX12, "caughtBy", "(II)I"⟩
abbrev cX12_caughtEnd : ByteArray := prog_14_method_37_code
def yX12_caughtEnd : MethodName := ⟨RX12, "caughtEnd", "(II)I"⟩
abbrev cX12_caught : ByteArray := prog_14_method_38_code
def yX12_caught : MethodName := ⟨RX12, "caught", "(II)I"⟩
abbrev cX12_seeds : ByteArray := prog_14_method_39_code
def yX12_seeds : MethodName := ⟨RX12, "seeds", "(II)I"⟩
abbrev cX12_ahead : ByteArray := prog_14_method_40_code
def yX12_ahead : MethodName := ⟨RX12, "ahead", "(II)I"⟩
abbrev cX12_forces : ByteArray := prog_14_method_41_code
def yX12_forces : MethodName := ⟨RX12, "forces", "(II)I"⟩
abbrev cX12_forcedBy : ByteArray := prog_14_method_42_code
def yX12_forcedBy : MethodName := ⟨RX12, "forcedBy", "(I)I"⟩
abbrev cX12_forced : ByteArray := prog_14_method_43_code
def yX12_forced : MethodName := ⟨RX12, "forced", "(III)I"⟩
abbrev cX12_roundsOf : ByteArray := prog_14_method_44_code
def yX12_roundsOf : MethodName := ⟨RX12, "roundsOf", "(I)I"⟩
abbrev cX12_forcers : ByteArray := prog_14_method_45_code
def yX12_forcers : MethodName := ⟨RX12, "forcers", "(I)I"⟩
abbrev cX12_wayMany : ByteArray := prog_14_method_46_code
def yX12_wayMany : MethodName := ⟨RX12, "wayMany", "()I"⟩
abbrev cX12_layWays : ByteArray := prog_14_method_47_code
def yX12_layWays : MethodName := ⟨RX12, "layWays", "()V"⟩
abbrev cX12_reached : ByteArray := prog_14_method_48_code
def yX12_reached : MethodName := ⟨RX12, "reached", "(III)I"⟩
abbrev cX12_divisor : ByteArray := prog_14_method_49_code
def yX12_divisor : MethodName := ⟨RX12, "divisor", "(JJ)J"⟩
abbrev cX12_carriedBy : ByteArray := prog_14_method_50_code
def yX12_carriedBy : MethodName := ⟨RX12, "carriedBy", "(II)J"⟩
abbrev cX12_power : ByteArray := prog_14_method_51_code
def yX12_power : MethodName := ⟨RX12, "power", "(I)J"⟩
abbrev cX12_part : ByteArray := prog_14_method_52_code
def yX12_part : MethodName := ⟨RX12, "part", "(JI)J"⟩
abbrev cX12_carried : ByteArray := prog_14_method_53_code
def yX12_carried : MethodName := ⟨RX12, "carried", "(III)J"⟩
abbrev cX12_mean : ByteArray := prog_14_method_54_code
def yX12_mean : MethodName := ⟨RX12, "mean", "(II)J"⟩
abbrev cX12_layToken : ByteArray := prog_14_method_55_code
def yX12_layToken : MethodName := ⟨RX12, "layToken", "(II)V"⟩
abbrev cX12_token_ : ByteArray := prog_14_method_56_code
def yX12_token_ : MethodName := ⟨RX12, "token", "(III)I"⟩
abbrev cX12_isEven : ByteArray := prog_14_method_57_code
def yX12_isEven : MethodName := ⟨RX12, "isEven", "()Z"⟩
abbrev cX12_pairs : ByteArray := prog_14_method_58_code
def yX12_pairs : MethodName := ⟨RX12, "pairs", "()I"⟩
abbrev cX12_count : ByteArray := prog_14_method_59_code
def yX12_count : MethodName := ⟨RX12, "count", "(I)I"⟩
def RJx8e188 : String := "java/lang/Cloneable"
def TJx8e188 : u_T := fun k => match k with
  | _ => ("", "", "", false)
def tyJx8e188 : Nat → FieldType := fun k => match k with
  | _ => .int
abbrev wsJx8e1880 : List Cond := u_ws RJx8e188 TJx8e188 0
theorem nmJx8e188 : ∀ a, a < 0 → ∀ b, b < 0 → a ≠ b → (TJx8e188 a).2.1 ≠ (TJx8e188 b).2.1 := by decide +kernel
theorem tyJx8e188_ok : ∀ k, k < 0 → parseFieldDescriptor (TJx8e188 k).2.2.1 = some (tyJx8e188 k) := by decide +kernel
def RJ6 : String := "java/lang/Integer"
def TJ6 : u_T := fun k => match k with
  | _ => ("", "", "", false)
def tyJ6 : Nat → FieldType := fun k => match k with
  | _ => .int
abbrev wsJ60 : List Cond := u_ws RJ6 TJ6 0
theorem nmJ6 : ∀ a, a < 0 → ∀ b, b < 0 → a ≠ b → (TJ6 a).2.1 ≠ (TJ6 b).2.1 := by decide +kernel
theorem tyJ6_ok : ∀ k, k < 0 → parseFieldDescriptor (TJ6 k).2.2.1 = some (tyJ6 k) := by decide +kernel
abbrev cJ6_numberOfTrailingZeros_0f7a4 : ByteArray := prog_16_method_48_code
def yJ6_numberOfTrailingZeros_0f7a4 : MethodName := ⟨RJ6, "numberOfTrailingZeros", "(I)I"⟩
abbrev cJ6_bitCount_0f7a4 : ByteArray := prog_16_method_49_code
def yJ6_bitCount_0f7a4 : MethodName := ⟨RJ6, "bitCount", "(I)I"⟩
def RJ9 : String := "java/lang/Math"
def TJ9 : u_T := fun k => match k with
  | _ => ("", "", "", false)
def tyJ9 : Nat → FieldType := fun k => match k with
  | _ => .int
abbrev wsJ90 : List Cond := u_ws RJ9 TJ9 0
theorem nmJ9 : ∀ a, a < 0 → ∀ b, b < 0 → a ≠ b → (TJ9 a).2.1 ≠ (TJ9 b).2.1 := by decide +kernel
theorem tyJ9_ok : ∀ k, k < 0 → parseFieldDescriptor (TJ9 k).2.2.1 = some (tyJ9 k) := by decide +kernel
abbrev cJ9_max_7cf53 : ByteArray := prog_17_method_65_code
def yJ9_max_7cf53 : MethodName := ⟨RJ9, "max", "(II)I"⟩
abbrev cJ9_min_7cf53 : ByteArray := prog_17_method_69_code
def yJ9_min_7cf53 : MethodName := ⟨RJ9, "min", "(II)I"⟩
def RJ0 : String := "java/lang/String"
def TJ0 : u_T := fun k => match k with
  | _ => ("", "", "", false)
def tyJ0 : Nat → FieldType := fun k => match k with
  | _ => .int
abbrev wsJ00 : List Cond := u_ws RJ0 TJ0 0
theorem nmJ0 : ∀ a, a < 0 → ∀ b, b < 0 → a ≠ b → (TJ0 a).2.1 ≠ (TJ0 b).2.1 := by decide +kernel
theorem tyJ0_ok : ∀ k, k < 0 → parseFieldDescriptor (TJ0 k).2.2.1 = some (tyJ0 k) := by decide +kernel
abbrev cJ0_length_8abf5 : ByteArray := prog_18_method_54_code
def yJ0_length_8abf5 : MethodName := ⟨RJ0, "length", "()I"⟩
abbrev cJ0_charAt_5068e : ByteArray := prog_18_method_56_code
def yJ0_charAt_5068e : MethodName := ⟨RJ0, "charAt", "(I)C"⟩
abbrev cJ0_coder_7d493 : ByteArray := prog_18_method_152_code
def yJ0_coder_7d493 : MethodName := ⟨RJ0, "coder", "()B"⟩
abbrev cJ0_isLatin1_aae02 : ByteArray := prog_18_method_154_code
def yJ0_isLatin1_aae02 : MethodName := ⟨RJ0, "isLatin1", "()Z"⟩
abbrev cJ0_checkIndex_df160 : ByteArray := prog_18_method_155_code
def yJ0_checkIndex_df160 : MethodName := ⟨RJ0, "checkIndex", "(II)V"⟩
def RJ1 : String := "java/lang/StringLatin1"
def TJ1 : u_T := fun k => match k with
  | _ => ("", "", "", false)
def tyJ1 : Nat → FieldType := fun k => match k with
  | _ => .int
abbrev wsJ10 : List Cond := u_ws RJ1 TJ1 0
theorem nmJ1 : ∀ a, a < 0 → ∀ b, b < 0 → a ≠ b → (TJ1 a).2.1 ≠ (TJ1 b).2.1 := by decide +kernel
theorem tyJ1_ok : ∀ k, k < 0 → parseFieldDescriptor (TJ1 k).2.2.1 = some (tyJ1 k) := by decide +kernel
abbrev cJ1_charAt_3b067 : ByteArray := prog_19_method_2_code
def yJ1_charAt_3b067 : MethodName := ⟨RJ1, "charAt", "([BI)C"⟩
def RJ2 : String := "java/lang/StringUTF16"
def TJ2 : u_T := fun k => match k with
  | _ => ("", "", "", false)
def tyJ2 : Nat → FieldType := fun k => match k with
  | _ => .int
abbrev wsJ20 : List Cond := u_ws RJ2 TJ2 0
theorem nmJ2 : ∀ a, a < 0 → ∀ b, b < 0 → a ≠ b → (TJ2 a).2.1 ≠ (TJ2 b).2.1 := by decide +kernel
theorem tyJ2_ok : ∀ k, k < 0 → parseFieldDescriptor (TJ2 k).2.2.1 = some (tyJ2 k) := by decide +kernel
abbrev cJ2_getChar_3b067 : ByteArray := prog_20_method_5_code
def yJ2_getChar_3b067 : MethodName := ⟨RJ2, "getChar", "([BI)C"⟩
abbrev cJ2_length_9d52b : ByteArray := prog_20_method_6_code
def yJ2_length_9d52b : MethodName := ⟨RJ2, "length", "([B)I"⟩
abbrev cJ2_charAt_3b067 : ByteArray := prog_20_method_83_code
def yJ2_charAt_3b067 : MethodName := ⟨RJ2, "charAt", "([BI)C"⟩
abbrev cJ2_checkIndex_2214a : ByteArray := prog_20_method_91_code
def yJ2_checkIndex_2214a : MethodName := ⟨RJ2, "checkIndex", "(I[B)V"⟩
def RJ3 : String := "jdk/internal/util/Preconditions"
def TJ3 : u_T := fun k => match k with
  | _ => ("", "", "", false)
def tyJ3 : Nat → FieldType := fun k => match k with
  | _ => .int
abbrev wsJ30 : List Cond := u_ws RJ3 TJ3 0
theorem nmJ3 : ∀ a, a < 0 → ∀ b, b < 0 → a ≠ b → (TJ3 a).2.1 ≠ (TJ3 b).2.1 := by decide +kernel
theorem tyJ3_ok : ∀ k, k < 0 → parseFieldDescriptor (TJ3 k).2.2.1 = some (tyJ3 k) := by decide +kernel
abbrev cJ3_checkIndex_8e157 : ByteArray := prog_21_method_11_code
def yJ3_checkIndex_8e157 : MethodName := ⟨RJ3, "checkIndex", "(IILjava/util/function/BiFunction;)I"⟩
def RL : String := "WettedNetLaw"
abbrev cL_law : ByteArray := code
def yL_law : MethodName := ⟨RL, "law", "([I)Z"⟩
/-! ===== the words, all that are of a kind to be carried; the classes ===== -/
def mz_big : List Cond := lw_tbl.filter goodWord
theorem mz_w {w : Cond} (i : Nat) (h : lw_tbl[i]? = some w) (hg : goodWord w = true) : w ∈ mz_big := List.mem_filter.mpr ⟨List.mem_of_getElem? h, hg⟩
theorem mz_big_good : GoodIn mz_big mz_big := fun w hw => ⟨hw, good_of_word (List.mem_filter.mp hw).2⟩
theorem mz_big_tbl : GoodIn lw_tbl mz_big := fun w hw => ⟨(List.mem_filter.mp hw).1, good_of_word (List.mem_filter.mp hw).2⟩
theorem mz_in (ws : List Cond) (ps : List Nat) (hp : ws = ps.filterMap (fun i => lw_tbl[i]?)) (h : ws.all goodWord = true) : ∀ w ∈ ws, w ∈ mz_big := by
  intro w hw
  have h1 := List.all_eq_true.mp h w hw
  rw [hp] at hw
  obtain ⟨i, -, hi⟩ := List.mem_filterMap.mp hw
  exact mz_w i hi h1
abbrev mz_cl : List vw_C := [(RX0, TX0, 3), (RX1, TX1, 4), (RX2, TX2, 4), (RX3, TX3, 5), (RX4, TX4, 9), (RX5, TX5, 2), (RX6, TX6, 7), (RX7, TX7, 8), (RX8, TX8, 2), (RX9, TX9, 2), (RX10, TX10, 2), (RX11, TX11, 9), (RX12, TX12, 29)]
set_option maxRecDepth 20000 in
theorem mz_inX0 : ∀ w ∈ wsX00, w ∈ mz_big := mz_in _ [269, 271, 273] (by decide +kernel) (by decide +kernel)
set_option maxRecDepth 20000 in
theorem mz_inX1 : ∀ w ∈ wsX10, w ∈ mz_big := mz_in _ [308, 310, 312, 314] (by decide +kernel) (by decide +kernel)
set_option maxRecDepth 20000 in
theorem mz_inX2 : ∀ w ∈ wsX20, w ∈ mz_big := mz_in _ [204, 206, 208, 210] (by decide +kernel) (by decide +kernel)
set_option maxRecDepth 20000 in
theorem mz_inX3 : ∀ w ∈ wsX30, w ∈ mz_big := mz_in _ [287, 289, 291, 293, 295] (by decide +kernel) (by decide +kernel)
set_option maxRecDepth 20000 in
theorem mz_inX4 : ∀ w ∈ wsX40, w ∈ mz_big := mz_in _ [228, 230, 232, 234, 236, 238, 240, 242, 244] (by decide +kernel) (by decide +kernel)
set_option maxRecDepth 20000 in
theorem mz_inX5 : ∀ w ∈ wsX50, w ∈ mz_big := mz_in _ [96, 98] (by decide +kernel) (by decide +kernel)
set_option maxRecDepth 20000 in
theorem mz_inX6 : ∀ w ∈ wsX60, w ∈ mz_big := mz_in _ [148, 150, 152, 154, 156, 158, 160] (by decide +kernel) (by decide +kernel)
set_option maxRecDepth 20000 in
theorem mz_inX7 : ∀ w ∈ wsX70, w ∈ mz_big := mz_in _ [177, 179, 181, 183, 185, 187, 189, 191] (by decide +kernel) (by decide +kernel)
set_option maxRecDepth 20000 in
theorem mz_inX8 : ∀ w ∈ wsX80, w ∈ mz_big := mz_in _ [122, 124] (by decide +kernel) (by decide +kernel)
set_option maxRecDepth 20000 in
theorem mz_inX9 : ∀ w ∈ wsX90, w ∈ mz_big := mz_in _ [255, 257] (by decide +kernel) (by decide +kernel)
set_option maxRecDepth 20000 in
theorem mz_inX10 : ∀ w ∈ wsX100, w ∈ mz_big := mz_in _ [325, 327] (by decide +kernel) (by decide +kernel)
set_option maxRecDepth 20000 in
theorem mz_inX11 : ∀ w ∈ wsX110, w ∈ mz_big := mz_in _ [339, 341, 343, 345, 347, 349, 351, 353, 355] (by decide +kernel) (by decide +kernel)
set_option maxRecDepth 20000 in
theorem mz_inX12 : ∀ w ∈ wsX120, w ∈ mz_big := mz_in _ [1001, 1003, 1005, 1007, 1009, 1011, 1013, 1015, 1017, 1019, 1021, 1023, 1025, 1027, 1029, 1031, 1033, 1035, 1037, 1039, 1041, 1043, 1045, 1047, 1049, 1051, 1053, 1055, 1057] (by decide +kernel) (by decide +kernel)
def mz_nest : List (String × Nat × MethodName × String) := [("WettedNet", 11, ⟨"WettedNet$Memo", "<init>", "()V"⟩, "WettedNet"), ("WettedNet$Rooms", 42, ⟨"WettedNet", "within", "(III)Z"⟩, "WettedNet"), ("WettedNet", 24, ⟨"WettedNet$Script", "<init>", "()V"⟩, "WettedNet"), ("WettedNet$Script", 31, ⟨"WettedNet", "within", "(III)Z"⟩, "WettedNet"), ("WettedNet$Memo", 19, ⟨"WettedNet", "within", "(III)Z"⟩, "WettedNet"), ("WettedNet$Rooms", 46, ⟨"WettedNet", "has", "(II)Z"⟩, "WettedNet"), ("WettedNet$Sets", 29, ⟨"WettedNet", "within", "(III)Z"⟩, "WettedNet"), ("WettedNet$Throwing", 47, ⟨"WettedNet", "has", "(II)Z"⟩, "WettedNet"), ("WettedNet$Catching", 23, ⟨"WettedNet", "has", "(II)Z"⟩, "WettedNet"), ("WettedNet$Forcing", 26, ⟨"WettedNet", "has", "(II)Z"⟩, "WettedNet"), ("WettedNet$Chances", 53, ⟨"WettedNet", "has", "(II)Z"⟩, "WettedNet"), ("WettedNet$Walks", 42, ⟨"WettedNet", "has", "(II)Z"⟩, "WettedNet")]
def mz_str : List (String × Nat × String) := [("WettedNet$Script", 89, "rooms"), ("WettedNet$Script", 91, "door"), ("WettedNet$Script", 93, "way"), ("WettedNet$Script", 95, "shut"), ("WettedNet$Script", 97, "folk"), ("WettedNet$Script", 99, "thick"), ("WettedNet$Script", 101, "hands"), ("WettedNet$Script", 103, "chance")]
def mz_len : List Nat := [5, 4, 3, 4, 4, 5, 5, 6]
def mz_byt : List (List Int32) := [[114, 111, 111, 109, 115], [100, 111, 111, 114], [119, 97, 121], [115, 104, 117, 116], [102, 111, 108, 107], [116, 104, 105, 99, 107], [104, 97, 110, 100, 115], [99, 104, 97, 110, 99, 101]]
def mz_thr : List Int32 := [0, 1, 3, 4, 9, 10, 12, 13]
