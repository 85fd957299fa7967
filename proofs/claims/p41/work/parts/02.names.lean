/-! ===== BEGIN words of one list among another's, by their places ===== -/
theorem goodIn_r {big : List Cond} (ws : List Cond) (ps : List Nat) (hp : ws = ps.filterMap (fun i => big[i]?)) (h : ws.all goodWord = true) : GoodIn big ws := by
  intro w hw
  have h1 := List.all_eq_true.mp h w hw
  rw [hp] at hw
  obtain ⟨i, -, hi⟩ := List.mem_filterMap.mp hw
  have hm : w ∈ big := by first | exact List.mem_of_getElem? hi | exact List.getElem?_mem hi
  exact ⟨hm, good_of_word h1⟩
theorem goodIn_app {big a b : List Cond} (ha : GoodIn big a) (hb : GoodIn big b) : GoodIn big (a ++ b) := fun w h => (List.mem_append.mp h).elim (ha w) (hb w)
theorem goodIn_ca {big a b : List Cond} {c : Cond} (ha : GoodIn big (c :: a)) (hb : GoodIn big b) : GoodIn big (c :: (a ++ b)) := fun w h => (List.mem_cons.mp h).elim (fun e => ha w (List.mem_cons.mpr (Or.inl e))) (fun h => (List.mem_append.mp h).elim (fun h => ha w (List.mem_cons.mpr (Or.inr h))) (hb w))
theorem goodIn_sub {big ws : List Cond} (hm : ∀ w ∈ ws, w ∈ big) (h : ws.all goodWord = true) : GoodIn big ws := fun w hw => ⟨hm w hw, good_of_word (List.all_eq_true.mp h w hw)⟩
/-! ===== END ===== -/

/-! ===== BEGIN printed: names, fields, word lists, decode rows ===== -/
def RX0 : String := "ChannelBorrower$History"
def TX0 : u_T := fun k => match k with
  | 0 => ("ChannelBorrower$History", "count", "I", false)
  | 1 => ("ChannelBorrower$History", "newest", "I", false)
  | _ => ("ChannelBorrower$History", "states", "[LChannelBorrower$Network;", true)
def tyX0 : Nat → FieldType := fun k => match k with
  | 0 => .int
  | 1 => .int
  | _ => .array (.object "ChannelBorrower$Network")
abbrev wsX00 : List Cond := u_ws RX0 TX0 3
theorem nmX0 : ∀ a, a < 3 → ∀ b, b < 3 → a ≠ b → (TX0 a).2.1 ≠ (TX0 b).2.1 := by decide +kernel
theorem tyX0_ok : ∀ k, k < 3 → parseFieldDescriptor (TX0 k).2.2.1 = some (tyX0 k) := by decide +kernel
abbrev cX0_init : ByteArray := prog_2_method_1_code
def yX0_init : MethodName := ⟨RX0, "<init>", "(LChannelBorrower$Layout;)V"⟩
abbrev cX0_push : ByteArray := prog_2_method_2_code
def yX0_push : MethodName := ⟨RX0, "push", "(LChannelBorrower$Network;)V"⟩
abbrev cX0_pop : ByteArray := prog_2_method_3_code
def yX0_pop : MethodName := ⟨RX0, "pop", "(LChannelBorrower$Network;)Z"⟩
abbrev cX0_newestState : ByteArray := prog_2_method_4_code
def yX0_newestState : MethodName := ⟨RX0, "newestState", "()LChannelBorrower$Network;"⟩
def RX1 : String := "ChannelBorrower$Layout"
def TX1 : u_T := fun k => match k with
  | 0 => ("ChannelBorrower$Layout", "cells", "I", true)
  | 1 => ("ChannelBorrower$Layout", "channels", "I", true)
  | 2 => ("ChannelBorrower$Layout", "groupSize", "I", true)
  | 3 => ("ChannelBorrower$Layout", "row", "[I", true)
  | 4 => ("ChannelBorrower$Layout", "column", "[I", true)
  | 5 => ("ChannelBorrower$Layout", "group", "[I", true)
  | 6 => ("ChannelBorrower$Layout", "nominals", "[I", true)
  | _ => ("ChannelBorrower$Layout", "nearCells", "[I", true)
def tyX1 : Nat → FieldType := fun k => match k with
  | 0 => .int
  | 1 => .int
  | 2 => .int
  | 3 => .array .int
  | 4 => .array .int
  | 5 => .array .int
  | 6 => .array .int
  | _ => .array .int
abbrev wsX10 : List Cond := u_ws RX1 TX1 8
theorem nmX1 : ∀ a, a < 8 → ∀ b, b < 8 → a ≠ b → (TX1 a).2.1 ≠ (TX1 b).2.1 := by decide +kernel
theorem tyX1_ok : ∀ k, k < 8 → parseFieldDescriptor (TX1 k).2.2.1 = some (tyX1 k) := by decide +kernel
abbrev cX1_init : ByteArray := prog_3_method_1_code
def yX1_init : MethodName := ⟨RX1, "<init>", "(IIII)V"⟩
abbrev cX1_placeCells : ByteArray := prog_3_method_2_code
def yX1_placeCells : MethodName := ⟨RX1, "placeCells", "(II)V"⟩
abbrev cX1_channelsOfGroup : ByteArray := prog_3_method_3_code
def yX1_channelsOfGroup : MethodName := ⟨RX1, "channelsOfGroup", "(II)I"⟩
abbrev cX1_cellsWithin : ByteArray := prog_3_method_4_code
def yX1_cellsWithin : MethodName := ⟨RX1, "cellsWithin", "(II)I"⟩
abbrev cX1_hasCell : ByteArray := prog_3_method_5_code
def yX1_hasCell : MethodName := ⟨RX1, "hasCell", "(I)Z"⟩
abbrev cX1_groupAt : ByteArray := prog_3_method_6_code
def yX1_groupAt : MethodName := ⟨RX1, "groupAt", "(I)I"⟩
abbrev cX1_nominalsOf : ByteArray := prog_3_method_7_code
def yX1_nominalsOf : MethodName := ⟨RX1, "nominalsOf", "(I)I"⟩
abbrev cX1_near : ByteArray := prog_3_method_8_code
def yX1_near : MethodName := ⟨RX1, "near", "(I)I"⟩
abbrev cX1_separation : ByteArray := prog_3_method_9_code
def yX1_separation : MethodName := ⟨RX1, "separation", "(II)I"⟩
abbrev cX1_burdenIn : ByteArray := prog_3_method_10_code
def yX1_burdenIn : MethodName := ⟨RX1, "burdenIn", "(II)I"⟩
def RX2 : String := "ChannelBorrower$Network"
def TX2 : u_T := fun k => match k with
  | 0 => ("ChannelBorrower$Network", "layout", "LChannelBorrower$Layout;", false)
  | 1 => ("ChannelBorrower$Network", "strategy", "I", false)
  | 2 => ("ChannelBorrower$Network", "reserve", "I", false)
  | 3 => ("ChannelBorrower$Network", "returning", "Z", false)
  | 4 => ("ChannelBorrower$Network", "attempts", "I", false)
  | 5 => ("ChannelBorrower$Network", "blocked", "I", false)
  | 6 => ("ChannelBorrower$Network", "blockedInFixed", "I", false)
  | 7 => ("ChannelBorrower$Network", "dropped", "I", false)
  | 8 => ("ChannelBorrower$Network", "droppedInFixed", "I", false)
  | 9 => ("ChannelBorrower$Network", "borrowings", "I", false)
  | 10 => ("ChannelBorrower$Network", "returnSteps", "I", false)
  | 11 => ("ChannelBorrower$Network", "callCell", "[I", true)
  | 12 => ("ChannelBorrower$Network", "callChannel", "[I", true)
  | 13 => ("ChannelBorrower$Network", "callFixed", "[I", true)
  | _ => ("ChannelBorrower$Network", "used", "[I", true)
def tyX2 : Nat → FieldType := fun k => match k with
  | 0 => .object "ChannelBorrower$Layout"
  | 1 => .int
  | 2 => .int
  | 3 => .boolean
  | 4 => .int
  | 5 => .int
  | 6 => .int
  | 7 => .int
  | 8 => .int
  | 9 => .int
  | 10 => .int
  | 11 => .array .int
  | 12 => .array .int
  | 13 => .array .int
  | _ => .array .int
abbrev wsX20 : List Cond := u_ws RX2 TX2 15
theorem nmX2 : ∀ a, a < 15 → ∀ b, b < 15 → a ≠ b → (TX2 a).2.1 ≠ (TX2 b).2.1 := by decide +kernel
theorem tyX2_ok : ∀ k, k < 15 → parseFieldDescriptor (TX2 k).2.2.1 = some (tyX2 k) := by decide +kernel
abbrev cX2_init : ByteArray := prog_4_method_1_code
def yX2_init : MethodName := ⟨RX2, "<init>", "(LChannelBorrower$Layout;)V"⟩
abbrev cX2_begin : ByteArray := prog_4_method_2_code
def yX2_begin : MethodName := ⟨RX2, "begin", "(LChannelBorrower$Layout;)V"⟩
abbrev cX2_copyFrom : ByteArray := prog_4_method_3_code
def yX2_copyFrom : MethodName := ⟨RX2, "copyFrom", "(LChannelBorrower$Network;)V"⟩
abbrev cX2_isPresent : ByteArray := prog_4_method_4_code
def yX2_isPresent : MethodName := ⟨RX2, "isPresent", "(I)Z"⟩
abbrev cX2_cellAt : ByteArray := prog_4_method_5_code
def yX2_cellAt : MethodName := ⟨RX2, "cellAt", "(I)I"⟩
abbrev cX2_channelAt : ByteArray := prog_4_method_6_code
def yX2_channelAt : MethodName := ⟨RX2, "channelAt", "(I)I"⟩
abbrev cX2_isFixed : ByteArray := prog_4_method_7_code
def yX2_isFixed : MethodName := ⟨RX2, "isFixed", "(I)Z"⟩
abbrev cX2_borrows : ByteArray := prog_4_method_8_code
def yX2_borrows : MethodName := ⟨RX2, "borrows", "(I)Z"⟩
abbrev cX2_presentCalls : ByteArray := prog_4_method_9_code
def yX2_presentCalls : MethodName := ⟨RX2, "presentCalls", "()I"⟩
abbrev cX2_lowestFreeNumber : ByteArray := prog_4_method_10_code
def yX2_lowestFreeNumber : MethodName := ⟨RX2, "lowestFreeNumber", "()I"⟩
abbrev cX2_startError : ByteArray := prog_4_method_11_code
def yX2_startError : MethodName := ⟨RX2, "startError", "(I)I"⟩
abbrev cX2_start : ByteArray := prog_4_method_12_code
def yX2_start : MethodName := ⟨RX2, "start", "(I)I"⟩
abbrev cX2_end : ByteArray := prog_4_method_13_code
def yX2_end : MethodName := ⟨RX2, "end", "(I)I"⟩
abbrev cX2_moveError : ByteArray := prog_4_method_14_code
def yX2_moveError : MethodName := ⟨RX2, "moveError", "(II)I"⟩
abbrev cX2_move : ByteArray := prog_4_method_15_code
def yX2_move : MethodName := ⟨RX2, "move", "(II)I"⟩
abbrev cX2_place : ByteArray := prog_4_method_16_code
def yX2_place : MethodName := ⟨RX2, "place", "(III)V"⟩
abbrev cX2_occupy : ByteArray := prog_4_method_17_code
def yX2_occupy : MethodName := ⟨RX2, "occupy", "(II)V"⟩
abbrev cX2_release : ByteArray := prog_4_method_18_code
def yX2_release : MethodName := ⟨RX2, "release", "(I)V"⟩
abbrev cX2_fixedAccepts : ByteArray := prog_4_method_19_code
def yX2_fixedAccepts : MethodName := ⟨RX2, "fixedAccepts", "(I)Z"⟩
abbrev cX2_returnCalls : ByteArray := prog_4_method_20_code
def yX2_returnCalls : MethodName := ⟨RX2, "returnCalls", "()I"⟩
abbrev cX2_nextToReturn : ByteArray := prog_4_method_21_code
def yX2_nextToReturn : MethodName := ⟨RX2, "nextToReturn", "()I"⟩
abbrev cX2_isNominal : ByteArray := prog_4_method_22_code
def yX2_isNominal : MethodName := ⟨RX2, "isNominal", "(II)Z"⟩
abbrev cX2_usedIn : ByteArray := prog_4_method_23_code
def yX2_usedIn : MethodName := ⟨RX2, "usedIn", "(I)I"⟩
abbrev cX2_availableIn : ByteArray := prog_4_method_24_code
def yX2_availableIn : MethodName := ⟨RX2, "availableIn", "(I)I"⟩
abbrev cX2_availableNominals : ByteArray := prog_4_method_25_code
def yX2_availableNominals : MethodName := ⟨RX2, "availableNominals", "(I)I"⟩
abbrev cX2_chooseChannel : ByteArray := prog_4_method_27_code
def yX2_chooseChannel : MethodName := ⟨RX2, "chooseChannel", "(I)I"⟩
abbrev cX2_chooseDonor : ByteArray := prog_4_method_28_code
def yX2_chooseDonor : MethodName := ⟨RX2, "chooseDonor", "(I)I"⟩
abbrev cX2_bestDonor : ByteArray := prog_4_method_29_code
def yX2_bestDonor : MethodName := ⟨RX2, "bestDonor", "(II)I"⟩
abbrev cX2_rankOf : ByteArray := prog_4_method_30_code
def yX2_rankOf : MethodName := ⟨RX2, "rankOf", "(III)I"⟩
abbrev cX2_lowestOf : ByteArray := prog_4_method_31_code
def yX2_lowestOf : MethodName := ⟨RX2, "lowestOf", "(I)I"⟩
abbrev cX2_greatestOf : ByteArray := prog_4_method_32_code
def yX2_greatestOf : MethodName := ⟨RX2, "greatestOf", "(I)I"⟩
def RX3 : String := "ChannelBorrower$Script"
def TX3 : u_T := fun k => match k with
  | 0 => ("ChannelBorrower$Script", "length", "I", false)
  | 1 => ("ChannelBorrower$Script", "position", "I", false)
  | 2 => ("ChannelBorrower$Script", "commands", "I", false)
  | 3 => ("ChannelBorrower$Script", "letters", "[I", true)
  | 4 => ("ChannelBorrower$Script", "firsts", "[I", true)
  | 5 => ("ChannelBorrower$Script", "seconds", "[I", true)
  | _ => ("ChannelBorrower$Script", "text", "[I", true)
def tyX3 : Nat → FieldType := fun k => match k with
  | 0 => .int
  | 1 => .int
  | 2 => .int
  | 3 => .array .int
  | 4 => .array .int
  | 5 => .array .int
  | _ => .array .int
abbrev wsX30 : List Cond := u_ws RX3 TX3 7
theorem nmX3 : ∀ a, a < 7 → ∀ b, b < 7 → a ≠ b → (TX3 a).2.1 ≠ (TX3 b).2.1 := by decide +kernel
theorem tyX3_ok : ∀ k, k < 7 → parseFieldDescriptor (TX3 k).2.2.1 = some (tyX3 k) := by decide +kernel
abbrev cX3_init : ByteArray := prog_5_method_1_code
def yX3_init : MethodName := ⟨RX3, "<init>", "()V"⟩
def RX4 : String := "ChannelBorrower"
def TX4 : u_T := fun k => match k with
  | 0 => ("ChannelBorrower", "network", "LChannelBorrower$Network;", true)
  | 1 => ("ChannelBorrower", "history", "LChannelBorrower$History;", true)
  | 2 => ("ChannelBorrower", "snapshots", "[LChannelBorrower$Network;", true)
  | _ => ("ChannelBorrower", "script", "LChannelBorrower$Script;", true)
def tyX4 : Nat → FieldType := fun k => match k with
  | 0 => .object "ChannelBorrower$Network"
  | 1 => .object "ChannelBorrower$History"
  | 2 => .array (.object "ChannelBorrower$Network")
  | _ => .object "ChannelBorrower$Script"
abbrev wsX40 : List Cond := u_ws RX4 TX4 4
theorem nmX4 : ∀ a, a < 4 → ∀ b, b < 4 → a ≠ b → (TX4 a).2.1 ≠ (TX4 b).2.1 := by decide +kernel
theorem tyX4_ok : ∀ k, k < 4 → parseFieldDescriptor (TX4 k).2.2.1 = some (tyX4 k) := by decide +kernel
abbrev cX4_init : ByteArray := prog_1_method_1_code
def yX4_init : MethodName := ⟨RX4, "<init>", "()V"⟩
abbrev cX4_configure : ByteArray := prog_1_method_2_code
def yX4_configure : MethodName := ⟨RX4, "configure", "(IIII)I"⟩
abbrev cX4_setStrategy : ByteArray := prog_1_method_3_code
def yX4_setStrategy : MethodName := ⟨RX4, "setStrategy", "(I)I"⟩
abbrev cX4_setReserve : ByteArray := prog_1_method_4_code
def yX4_setReserve : MethodName := ⟨RX4, "setReserve", "(I)I"⟩
abbrev cX4_setReturning : ByteArray := prog_1_method_5_code
def yX4_setReturning : MethodName := ⟨RX4, "setReturning", "(I)I"⟩
abbrev cX4_cellCount : ByteArray := prog_1_method_6_code
def yX4_cellCount : MethodName := ⟨RX4, "cellCount", "()I"⟩
abbrev cX4_channelCount : ByteArray := prog_1_method_7_code
def yX4_channelCount : MethodName := ⟨RX4, "channelCount", "()I"⟩
abbrev cX4_groupOf : ByteArray := prog_1_method_8_code
def yX4_groupOf : MethodName := ⟨RX4, "groupOf", "(I)I"⟩
abbrev cX4_distance : ByteArray := prog_1_method_9_code
def yX4_distance : MethodName := ⟨RX4, "distance", "(II)I"⟩
abbrev cX4_startCall : ByteArray := prog_1_method_10_code
def yX4_startCall : MethodName := ⟨RX4, "startCall", "(I)I"⟩
abbrev cX4_endCall : ByteArray := prog_1_method_11_code
def yX4_endCall : MethodName := ⟨RX4, "endCall", "(I)I"⟩
abbrev cX4_handOver : ByteArray := prog_1_method_12_code
def yX4_handOver : MethodName := ⟨RX4, "handOver", "(II)I"⟩
abbrev cX4_cellOf : ByteArray := prog_1_method_13_code
def yX4_cellOf : MethodName := ⟨RX4, "cellOf", "(I)I"⟩
abbrev cX4_channelOf : ByteArray := prog_1_method_14_code
def yX4_channelOf : MethodName := ⟨RX4, "channelOf", "(I)I"⟩
abbrev cX4_isInFixedScheme : ByteArray := prog_1_method_16_code
def yX4_isInFixedScheme : MethodName := ⟨RX4, "isInFixedScheme", "(I)I"⟩
abbrev cX4_isAvailable : ByteArray := prog_1_method_17_code
def yX4_isAvailable : MethodName := ⟨RX4, "isAvailable", "(II)I"⟩
abbrev cX4_availableCount : ByteArray := prog_1_method_20_code
def yX4_availableCount : MethodName := ⟨RX4, "availableCount", "(I)I"⟩
abbrev cX4_usedCount : ByteArray := prog_1_method_21_code
def yX4_usedCount : MethodName := ⟨RX4, "usedCount", "(I)I"⟩
abbrev cX4_lockedCount : ByteArray := prog_1_method_22_code
def yX4_lockedCount : MethodName := ⟨RX4, "lockedCount", "(I)I"⟩
abbrev cX4_nextChannel : ByteArray := prog_1_method_23_code
def yX4_nextChannel : MethodName := ⟨RX4, "nextChannel", "(I)I"⟩
abbrev cX4_nextDonor : ByteArray := prog_1_method_24_code
def yX4_nextDonor : MethodName := ⟨RX4, "nextDonor", "(I)I"⟩
abbrev cX4_blockingCells : ByteArray := prog_1_method_25_code
def yX4_blockingCells : MethodName := ⟨RX4, "blockingCells", "()I"⟩
abbrev cX4_callCount : ByteArray := prog_1_method_26_code
def yX4_callCount : MethodName := ⟨RX4, "callCount", "()I"⟩
abbrev cX4_attempts : ByteArray := prog_1_method_27_code
def yX4_attempts : MethodName := ⟨RX4, "attempts", "()I"⟩
abbrev cX4_blocked : ByteArray := prog_1_method_28_code
def yX4_blocked : MethodName := ⟨RX4, "blocked", "()I"⟩
abbrev cX4_blockedInFixedScheme : ByteArray := prog_1_method_29_code
def yX4_blockedInFixedScheme : MethodName := ⟨RX4, "blockedInFixedScheme", "()I"⟩
abbrev cX4_dropped : ByteArray := prog_1_method_30_code
def yX4_dropped : MethodName := ⟨RX4, "dropped", "()I"⟩
abbrev cX4_droppedInFixedScheme : ByteArray := prog_1_method_31_code
def yX4_droppedInFixedScheme : MethodName := ⟨RX4, "droppedInFixedScheme", "()I"⟩
abbrev cX4_borrowings : ByteArray := prog_1_method_32_code
def yX4_borrowings : MethodName := ⟨RX4, "borrowings", "()I"⟩
abbrev cX4_returns : ByteArray := prog_1_method_33_code
def yX4_returns : MethodName := ⟨RX4, "returns", "()I"⟩
abbrev cX4_undo : ByteArray := prog_1_method_37_code
def yX4_undo : MethodName := ⟨RX4, "undo", "()I"⟩
abbrev cX4_save : ByteArray := prog_1_method_38_code
def yX4_save : MethodName := ⟨RX4, "save", "(I)I"⟩
abbrev cX4_restore : ByteArray := prog_1_method_39_code
def yX4_restore : MethodName := ⟨RX4, "restore", "(I)I"⟩
abbrev cX4_isCell : ByteArray := prog_1_method_40_code
def yX4_isCell : MethodName := ⟨RX4, "isCell", "(I)Z"⟩
abbrev cX4_isChannel : ByteArray := prog_1_method_41_code
def yX4_isChannel : MethodName := ⟨RX4, "isChannel", "(I)Z"⟩
abbrev cX4_isBetween : ByteArray := prog_1_method_43_code
def yX4_isBetween : MethodName := ⟨RX4, "isBetween", "(III)Z"⟩
abbrev cX4_asNumber : ByteArray := prog_1_method_44_code
def yX4_asNumber : MethodName := ⟨RX4, "asNumber", "(Z)I"⟩
abbrev cX4_contains : ByteArray := prog_1_method_45_code
def yX4_contains : MethodName := ⟨RX4, "contains", "(II)Z"⟩
def RX5 : String := "ChannelBorrowerModel"
def TX5 : u_T := fun k => match k with
  | _ => ("", "", "", false)
def tyX5 : Nat → FieldType := fun k => match k with
  | _ => .int
abbrev wsX50 : List Cond := u_ws RX5 TX5 0
theorem nmX5 : ∀ a, a < 0 → ∀ b, b < 0 → a ≠ b → (TX5 a).2.1 ≠ (TX5 b).2.1 := by decide +kernel
theorem tyX5_ok : ∀ k, k < 0 → parseFieldDescriptor (TX5 k).2.2.1 = some (tyX5 k) := by decide +kernel
def RJ6 : String := "java/lang/Integer"
def TJ6 : u_T := fun k => match k with
  | _ => ("", "", "", false)
def tyJ6 : Nat → FieldType := fun k => match k with
  | _ => .int
abbrev wsJ60 : List Cond := u_ws RJ6 TJ6 0
theorem nmJ6 : ∀ a, a < 0 → ∀ b, b < 0 → a ≠ b → (TJ6 a).2.1 ≠ (TJ6 b).2.1 := by decide +kernel
theorem tyJ6_ok : ∀ k, k < 0 → parseFieldDescriptor (TJ6 k).2.2.1 = some (tyJ6 k) := by decide +kernel
abbrev cJ6_bitCount_0f7a4 : ByteArray := prog_8_method_49_code
def yJ6_bitCount_0f7a4 : MethodName := ⟨RJ6, "bitCount", "(I)I"⟩
def RJ9 : String := "java/lang/Math"
def TJ9 : u_T := fun k => match k with
  | _ => ("", "", "", false)
def tyJ9 : Nat → FieldType := fun k => match k with
  | _ => .int
abbrev wsJ90 : List Cond := u_ws RJ9 TJ9 0
theorem nmJ9 : ∀ a, a < 0 → ∀ b, b < 0 → a ≠ b → (TJ9 a).2.1 ≠ (TJ9 b).2.1 := by decide +kernel
theorem tyJ9_ok : ∀ k, k < 0 → parseFieldDescriptor (TJ9 k).2.2.1 = some (tyJ9 k) := by decide +kernel
abbrev cJ9_abs_0f7a4 : ByteArray := prog_9_method_59_code
def yJ9_abs_0f7a4 : MethodName := ⟨RJ9, "abs", "(I)I"⟩
abbrev cJ9_max_7cf53 : ByteArray := prog_9_method_65_code
def yJ9_max_7cf53 : MethodName := ⟨RJ9, "max", "(II)I"⟩
abbrev cJ9_min_7cf53 : ByteArray := prog_9_method_69_code
def yJ9_min_7cf53 : MethodName := ⟨RJ9, "min", "(II)I"⟩
def RJ10 : String := "java/lang/System"
def TJ10 : u_T := fun k => match k with
  | _ => ("", "", "", false)
def tyJ10 : Nat → FieldType := fun k => match k with
  | _ => .int
abbrev wsJ100 : List Cond := u_ws RJ10 TJ10 0
theorem nmJ10 : ∀ a, a < 0 → ∀ b, b < 0 → a ≠ b → (TJ10 a).2.1 ≠ (TJ10 b).2.1 := by decide +kernel
theorem tyJ10_ok : ∀ k, k < 0 → parseFieldDescriptor (TJ10 k).2.2.1 = some (tyJ10 k) := by decide +kernel
def RJ7 : String := "java/util/Arrays"
def TJ7 : u_T := fun k => match k with
  | _ => ("", "", "", false)
def tyJ7 : Nat → FieldType := fun k => match k with
  | _ => .int
abbrev wsJ70 : List Cond := u_ws RJ7 TJ7 0
theorem nmJ7 : ∀ a, a < 0 → ∀ b, b < 0 → a ≠ b → (TJ7 a).2.1 ≠ (TJ7 b).2.1 := by decide +kernel
theorem tyJ7_ok : ∀ k, k < 0 → parseFieldDescriptor (TJ7 k).2.2.1 = some (tyJ7 k) := by decide +kernel
abbrev cJ7_fill_53178 : ByteArray := prog_11_method_103_code
def yJ7_fill_53178 : MethodName := ⟨RJ7, "fill", "([II)V"⟩
def RL : String := "ChannelBorrowerLaw"
abbrev cL_cell : ByteArray := method_2_code
def yL_cell : MethodName := ⟨RL, "cell", "([II)I"⟩
abbrev cL_low : ByteArray := method_3_code
def yL_low : MethodName := ⟨RL, "low", "(II)I"⟩
abbrev cL_tale : ByteArray := method_4_code
def yL_tale : MethodName := ⟨RL, "tale", "(LChannelBorrower;)J"⟩
abbrev cL_does : ByteArray := method_5_code
def yL_does : MethodName := ⟨RL, "does", "(LChannelBorrower;I)I"⟩
abbrev cL_holds : ByteArray := method_6_code
def yL_holds : MethodName := ⟨RL, "holds", "(LChannelBorrower;I)Z"⟩
abbrev cL_law : ByteArray := code
def yL_law : MethodName := ⟨RL, "law", "([I)Z"⟩
def wsL_cell : List Cond := .code yL_cell cL_cell 2 (some .int) :: ([])
def wsL_low : List Cond := .code yL_low cL_low 2 (some .int) :: ([.constant RL 7 (2147483647)])
def wsL_tale_r1 : List Cond := [Cond.constantLong RL 14 (31), Cond.constantLong RL 22 (3), Cond.constantLong RL 27 (5), Cond.constantLong RL 32 (7), Cond.constantLong RL 37 (11), Cond.constantLong RL 51 (37), Cond.constantLong RL 57 (13), Cond.constantLong RL 65 (41), Cond.constantLong RL 82 (17), Cond.methodLink RL 8 yX4_cellCount, Cond.instanceMethod yX4_cellCount, Cond.selects RX4 yX4_cellCount yX4_cellCount, Cond.initialized RX4, Cond.code yX4_cellCount cX4_cellCount 1 (some .int), Cond.fieldLink RX4 19 "ChannelBorrower" "network" "LChannelBorrower$Network;", Cond.fieldLink RX4 52 "ChannelBorrower$Network" "layout" "LChannelBorrower$Layout;", Cond.fieldLink RX4 74 "ChannelBorrower$Layout" "cells" "I", Cond.methodLink RL 16 yX4_channelCount, Cond.instanceMethod yX4_channelCount, Cond.selects RX4 yX4_channelCount yX4_channelCount, Cond.code yX4_channelCount cX4_channelCount 1 (some .int), Cond.fieldLink RX4 56 "ChannelBorrower$Layout" "channels" "I", Cond.methodLink RL 19 yX4_callCount, Cond.instanceMethod yX4_callCount]
def wsL_tale_r2 : List Cond := [Cond.selects RX4 yX4_callCount yX4_callCount, Cond.code yX4_callCount cX4_callCount 1 (some .int), Cond.methodLink RX4 159 yX2_presentCalls, Cond.instanceMethod yX2_presentCalls, Cond.selects RX2 yX2_presentCalls yX2_presentCalls, Cond.initialized RX2, Cond.code yX2_presentCalls cX2_presentCalls 3 (some .int), Cond.methodLink RX2 76 yX2_isPresent, Cond.instanceMethod yX2_isPresent, Cond.selects RX2 yX2_isPresent yX2_isPresent, Cond.code yX2_isPresent cX2_isPresent 2 (some .boolean), Cond.fieldLink RX2 19 "ChannelBorrower$Network" "callChannel" "[I", Cond.fieldLink RX2 22 "ChannelBorrower$Network" "callFixed" "[I", Cond.methodLink RL 24 yX4_attempts, Cond.instanceMethod yX4_attempts, Cond.selects RX4 yX4_attempts yX4_attempts, Cond.code yX4_attempts cX4_attempts 1 (some .int), Cond.fieldLink RX4 162 "ChannelBorrower$Network" "attempts" "I", Cond.methodLink RL 29 yX4_blocked, Cond.instanceMethod yX4_blocked, Cond.selects RX4 yX4_blocked yX4_blocked, Cond.code yX4_blocked cX4_blocked 1 (some .int), Cond.fieldLink RX4 165 "ChannelBorrower$Network" "blocked" "I", Cond.methodLink RL 34 yX4_blockedInFixedScheme]
def wsL_tale_r3 : List Cond := [Cond.instanceMethod yX4_blockedInFixedScheme, Cond.selects RX4 yX4_blockedInFixedScheme yX4_blockedInFixedScheme, Cond.code yX4_blockedInFixedScheme cX4_blockedInFixedScheme 1 (some .int), Cond.fieldLink RX4 168 "ChannelBorrower$Network" "blockedInFixed" "I", Cond.methodLink RL 39 yX4_dropped, Cond.instanceMethod yX4_dropped, Cond.selects RX4 yX4_dropped yX4_dropped, Cond.code yX4_dropped cX4_dropped 1 (some .int), Cond.fieldLink RX4 171 "ChannelBorrower$Network" "dropped" "I", Cond.methodLink RL 42 yX4_droppedInFixedScheme, Cond.instanceMethod yX4_droppedInFixedScheme, Cond.selects RX4 yX4_droppedInFixedScheme yX4_droppedInFixedScheme, Cond.code yX4_droppedInFixedScheme cX4_droppedInFixedScheme 1 (some .int), Cond.fieldLink RX4 174 "ChannelBorrower$Network" "droppedInFixed" "I", Cond.methodLink RL 45 yX4_borrowings, Cond.instanceMethod yX4_borrowings, Cond.selects RX4 yX4_borrowings yX4_borrowings, Cond.code yX4_borrowings cX4_borrowings 1 (some .int), Cond.fieldLink RX4 177 "ChannelBorrower$Network" "borrowings" "I", Cond.methodLink RL 48 yX4_returns, Cond.instanceMethod yX4_returns, Cond.selects RX4 yX4_returns yX4_returns, Cond.code yX4_returns cX4_returns 1 (some .int), Cond.fieldLink RX4 180 "ChannelBorrower$Network" "returnSteps" "I"]
def wsL_tale_r4 : List Cond := [Cond.methodLink RL 53 yX4_cellOf, Cond.instanceMethod yX4_cellOf, Cond.selects RX4 yX4_cellOf yX4_cellOf, Cond.code yX4_cellOf cX4_cellOf 2 (some .int), Cond.methodLink RX4 95 yX2_isPresent, Cond.methodLink RX4 107 yX2_cellAt, Cond.instanceMethod yX2_cellAt, Cond.selects RX2 yX2_cellAt yX2_cellAt, Cond.code yX2_cellAt cX2_cellAt 2 (some .int), Cond.fieldLink RX2 15 "ChannelBorrower$Network" "callCell" "[I", Cond.methodLink RL 59 yX4_channelOf, Cond.instanceMethod yX4_channelOf, Cond.selects RX4 yX4_channelOf yX4_channelOf, Cond.code yX4_channelOf cX4_channelOf 2 (some .int), Cond.methodLink RX4 110 yX2_channelAt, Cond.instanceMethod yX2_channelAt, Cond.selects RX2 yX2_channelAt yX2_channelAt, Cond.code yX2_channelAt cX2_channelAt 2 (some .int), Cond.methodLink RL 62 yX4_isInFixedScheme, Cond.instanceMethod yX4_isInFixedScheme, Cond.selects RX4 yX4_isInFixedScheme yX4_isInFixedScheme, Cond.code yX4_isInFixedScheme cX4_isInFixedScheme 2 (some .int), Cond.methodLink RX4 120 yX2_isFixed, Cond.instanceMethod yX2_isFixed]
def wsL_tale_r5 : List Cond := [Cond.selects RX2 yX2_isFixed yX2_isFixed, Cond.code yX2_isFixed cX2_isFixed 2 (some .boolean), Cond.methodLink RX4 116 yX4_asNumber, Cond.static yX4_asNumber, Cond.code yX4_asNumber cX4_asNumber 1 (some .int), Cond.methodLink RL 67 yX4_nextChannel, Cond.instanceMethod yX4_nextChannel, Cond.selects RX4 yX4_nextChannel yX4_nextChannel, Cond.code yX4_nextChannel cX4_nextChannel 2 (some .int), Cond.methodLink RX4 77 yX4_isCell, Cond.instanceMethod yX4_isCell, Cond.selects RX4 yX4_isCell yX4_isCell, Cond.code yX4_isCell cX4_isCell 2 (some .boolean), Cond.methodLink RX4 223 yX1_hasCell, Cond.instanceMethod yX1_hasCell, Cond.selects RX1 yX1_hasCell yX1_hasCell, Cond.initialized RX1, Cond.code yX1_hasCell cX1_hasCell 2 (some .boolean), Cond.fieldLink RX1 27 "ChannelBorrower$Layout" "cells" "I", Cond.methodLink RX4 153 yX2_chooseChannel, Cond.instanceMethod yX2_chooseChannel, Cond.selects RX2 yX2_chooseChannel yX2_chooseChannel, Cond.code yX2_chooseChannel cX2_chooseChannel 5 (some .int), Cond.fieldLink RX2 32 "ChannelBorrower$Network" "layout" "LChannelBorrower$Layout;"]
def wsL_tale_r6 : List Cond := [Cond.methodLink RX2 166 yX2_availableIn, Cond.instanceMethod yX2_availableIn, Cond.selects RX2 yX2_availableIn yX2_availableIn, Cond.code yX2_availableIn cX2_availableIn 5 (some .int), Cond.fieldLink RX2 25 "ChannelBorrower$Network" "used" "[I", Cond.fieldLink RX2 163 "ChannelBorrower$Layout" "channels" "I", Cond.methodLink RX2 157 yX2_usedIn, Cond.instanceMethod yX2_usedIn, Cond.selects RX2 yX2_usedIn yX2_usedIn, Cond.code yX2_usedIn cX2_usedIn 2 (some .int), Cond.methodLink RX2 160 yX1_near, Cond.instanceMethod yX1_near, Cond.selects RX1 yX1_near yX1_near, Cond.code yX1_near cX1_near 2 (some .int), Cond.fieldLink RX1 24 "ChannelBorrower$Layout" "nearCells" "[I", Cond.static yX4_contains, Cond.code yX4_contains cX4_contains 2 (some .boolean), Cond.methodLink RX2 151 yX1_nominalsOf, Cond.instanceMethod yX1_nominalsOf, Cond.selects RX1 yX1_nominalsOf yX1_nominalsOf, Cond.code yX1_nominalsOf cX1_nominalsOf 2 (some .int), Cond.fieldLink RX1 21 "ChannelBorrower$Layout" "nominals" "[I", Cond.methodLink RX2 145 yX2_lowestOf, Cond.instanceMethod yX2_lowestOf]
def wsL_tale_r7 : List Cond := [Cond.selects RX2 yX2_lowestOf yX2_lowestOf, Cond.code yX2_lowestOf cX2_lowestOf 3 (some .int), Cond.methodLink RX2 169 yX2_bestDonor, Cond.instanceMethod yX2_bestDonor, Cond.selects RX2 yX2_bestDonor yX2_bestDonor, Cond.code yX2_bestDonor cX2_bestDonor 9 (some .int), Cond.fieldLink RX2 175 "ChannelBorrower$Layout" "cells" "I", Cond.fieldLink RX2 67 "ChannelBorrower$Network" "reserve" "I", Cond.methodLink RX2 125 yX1_separation, Cond.instanceMethod yX1_separation, Cond.selects RX1 yX1_separation yX1_separation, Cond.code yX1_separation cX1_separation 5 (some .int), Cond.fieldLink RX1 9 "ChannelBorrower$Layout" "row" "[I", Cond.fieldLink RX1 15 "ChannelBorrower$Layout" "column" "[I", Cond.methodLink RX1 55 Lib.Math.abs.name, Cond.static Lib.Math.abs.name, Cond.initialized "java/lang/Math", Cond.code Lib.Math.abs.name Lib.Math.abs.code 1 (some .int), Cond.methodLink RX1 61 Lib.Math.max.name, Cond.static Lib.Math.max.name, Cond.code Lib.Math.max.name Lib.Math.max.code 2 (some .int), Cond.methodLink RX1 51 yX1_hasCell, Cond.methodLink RX2 142 yX2_availableNominals, Cond.instanceMethod yX2_availableNominals]
def wsL_tale_r8 : List Cond := [Cond.selects RX2 yX2_availableNominals yX2_availableNominals, Cond.code yX2_availableNominals cX2_availableNominals 2 (some .int), Cond.methodLink RX2 178 yJ6_bitCount_0f7a4, Cond.static yJ6_bitCount_0f7a4, Cond.initialized RJ6, Cond.code yJ6_bitCount_0f7a4 cJ6_bitCount_0f7a4 1 (some .int), Cond.constant RJ6 265 (1431655765), Cond.constant RJ6 266 (858993459), Cond.constant RJ6 267 (252645135), Cond.methodLink RX2 183 yX2_rankOf, Cond.instanceMethod yX2_rankOf, Cond.selects RX2 yX2_rankOf yX2_rankOf, Cond.code yX2_rankOf cX2_rankOf 4 (some .int), Cond.fieldLink RX2 64 "ChannelBorrower$Network" "strategy" "I", Cond.methodLink RX2 187 yX1_groupAt, Cond.instanceMethod yX1_groupAt, Cond.selects RX1 yX1_groupAt yX1_groupAt, Cond.code yX1_groupAt cX1_groupAt 2 (some .int), Cond.fieldLink RX1 18 "ChannelBorrower$Layout" "group" "[I", Cond.methodLink RX2 148 yX1_burdenIn, Cond.instanceMethod yX1_burdenIn, Cond.selects RX1 yX1_burdenIn yX1_burdenIn, Cond.code yX1_burdenIn cX1_burdenIn 6 (some .int), Cond.methodLink RX1 64 yX1_near]
def wsL_tale_r9 : List Cond := [Cond.methodLink RX2 172 yX2_greatestOf, Cond.instanceMethod yX2_greatestOf, Cond.selects RX2 yX2_greatestOf yX2_greatestOf, Cond.code yX2_greatestOf cX2_greatestOf 3 (some .int), Cond.methodLink RL 70 yX4_availableCount, Cond.instanceMethod yX4_availableCount, Cond.selects RX4 yX4_availableCount yX4_availableCount, Cond.code yX4_availableCount cX4_availableCount 2 (some .int), Cond.methodLink RX4 139 yX2_availableNominals, Cond.methodLink RX4 142 yJ6_bitCount_0f7a4, Cond.methodLink RL 73 yX4_lockedCount, Cond.instanceMethod yX4_lockedCount, Cond.selects RX4 yX4_lockedCount yX4_lockedCount, Cond.code yX4_lockedCount cX4_lockedCount 3 (some .int), Cond.methodLink RX4 147 yX2_usedIn, Cond.methodLink RX4 126 yX2_availableIn, Cond.methodLink RX4 150 yX1_nominalsOf, Cond.methodLink RL 76 yX4_usedCount, Cond.instanceMethod yX4_usedCount, Cond.selects RX4 yX4_usedCount yX4_usedCount, Cond.code yX4_usedCount cX4_usedCount 2 (some .int), Cond.methodLink RL 79 yX4_nextDonor, Cond.instanceMethod yX4_nextDonor, Cond.selects RX4 yX4_nextDonor yX4_nextDonor]
def wsL_tale_r10 : List Cond := [Cond.code yX4_nextDonor cX4_nextDonor 2 (some .int), Cond.methodLink RX4 156 yX2_chooseDonor, Cond.instanceMethod yX2_chooseDonor, Cond.selects RX2 yX2_chooseDonor yX2_chooseDonor, Cond.code yX2_chooseDonor cX2_chooseDonor 4 (some .int)]
def wsL_tale : List Cond := .code yL_tale cL_tale 4 (some .long) :: ((wsL_tale_r1 ++ (wsL_tale_r2 ++ (wsL_tale_r3 ++ (wsL_tale_r4 ++ (wsL_tale_r5 ++ (wsL_tale_r6 ++ (wsL_tale_r7 ++ (wsL_tale_r8 ++ (wsL_tale_r9 ++ wsL_tale_r10))))))))) ++ wsX40 ++ wsX20 ++ wsX10)
def wsL_does_r1 : List Cond := [Cond.methodLink RL 8 yX4_cellCount, Cond.instanceMethod yX4_cellCount, Cond.selects RX4 yX4_cellCount yX4_cellCount, Cond.initialized RX4, Cond.code yX4_cellCount cX4_cellCount 1 (some .int), Cond.fieldLink RX4 19 "ChannelBorrower" "network" "LChannelBorrower$Network;", Cond.fieldLink RX4 52 "ChannelBorrower$Network" "layout" "LChannelBorrower$Layout;", Cond.fieldLink RX4 74 "ChannelBorrower$Layout" "cells" "I", Cond.methodLink RL 84 yL_low, Cond.static yL_low, Cond.initialized RL, Cond.code yL_low cL_low 2 (some .int), Cond.constant RL 7 (2147483647), Cond.methodLink RL 90 yX4_configure, Cond.instanceMethod yX4_configure, Cond.selects RX4 yX4_configure yX4_configure, Cond.code yX4_configure cX4_configure 6 (some .int), Cond.fieldLink RX4 26 "ChannelBorrower" "history" "LChannelBorrower$History;", Cond.classLink RX4 9 RX1, Cond.instantiable RX1 8, Cond.initialized RX1, Cond.fieldLink RX4 56 "ChannelBorrower$Layout" "channels" "I", Cond.methodLink RX4 41 yX4_isBetween, Cond.static yX4_isBetween]
def wsL_does_r2 : List Cond := [Cond.code yX4_isBetween cX4_isBetween 3 (some .boolean), Cond.methodLink RX4 45 yX0_push, Cond.instanceMethod yX0_push, Cond.selects RX0 yX0_push yX0_push, Cond.initialized RX0, Cond.code yX0_push cX0_push 3 none, Cond.fieldLink RX0 20 "ChannelBorrower$History" "newest" "I", Cond.fieldLink RX0 32 "ChannelBorrower$History" "count" "I", Cond.methodLink RX0 35 Lib.Math.min.name, Cond.static Lib.Math.min.name, Cond.initialized "java/lang/Math", Cond.code Lib.Math.min.name Lib.Math.min.code 2 (some .int), Cond.methodLink RX0 24 yX0_newestState, Cond.instanceMethod yX0_newestState, Cond.selects RX0 yX0_newestState yX0_newestState, Cond.code yX0_newestState cX0_newestState 1 (some (.object "ChannelBorrower$Network")), Cond.fieldLink RX0 11 "ChannelBorrower$History" "states" "[LChannelBorrower$Network;", Cond.methodLink RX0 28 yX2_copyFrom, Cond.instanceMethod yX2_copyFrom, Cond.selects RX2 yX2_copyFrom yX2_copyFrom, Cond.initialized RX2, Cond.code yX2_copyFrom cX2_copyFrom 2 none, Cond.fieldLink RX2 32 "ChannelBorrower$Network" "layout" "LChannelBorrower$Layout;", Cond.fieldLink RX2 64 "ChannelBorrower$Network" "strategy" "I"]
def wsL_does_r3 : List Cond := [Cond.fieldLink RX2 67 "ChannelBorrower$Network" "reserve" "I", Cond.fieldLink RX2 9 "ChannelBorrower$Network" "returning" "Z", Cond.fieldLink RX2 36 "ChannelBorrower$Network" "attempts" "I", Cond.fieldLink RX2 40 "ChannelBorrower$Network" "blocked" "I", Cond.fieldLink RX2 43 "ChannelBorrower$Network" "blockedInFixed" "I", Cond.fieldLink RX2 46 "ChannelBorrower$Network" "dropped" "I", Cond.fieldLink RX2 49 "ChannelBorrower$Network" "droppedInFixed" "I", Cond.fieldLink RX2 52 "ChannelBorrower$Network" "borrowings" "I", Cond.fieldLink RX2 55 "ChannelBorrower$Network" "returnSteps" "I", Cond.fieldLink RX2 15 "ChannelBorrower$Network" "callCell" "[I", Cond.methodLink RX2 70 arraycopyName, Cond.native arraycopyName, Cond.static arraycopyName, Cond.initialized "java/lang/System", Cond.fieldLink RX2 19 "ChannelBorrower$Network" "callChannel" "[I", Cond.fieldLink RX2 22 "ChannelBorrower$Network" "callFixed" "[I", Cond.fieldLink RX2 25 "ChannelBorrower$Network" "used" "[I", Cond.methodLink RX4 11 yX1_init, Cond.instanceMethod yX1_init, Cond.code yX1_init cX1_init 7 none, Cond.methodLink RX1 3 objectInit, Cond.instanceMethod objectInit, Cond.code objectInit ⟨#[0xb1]⟩ 1 none, Cond.arrayClass .int]
def wsL_does_r4 : List Cond := [Cond.fieldLink RX1 9 "ChannelBorrower$Layout" "row" "[I", Cond.fieldLink RX1 15 "ChannelBorrower$Layout" "column" "[I", Cond.fieldLink RX1 18 "ChannelBorrower$Layout" "group" "[I", Cond.fieldLink RX1 21 "ChannelBorrower$Layout" "nominals" "[I", Cond.fieldLink RX1 24 "ChannelBorrower$Layout" "nearCells" "[I", Cond.fieldLink RX1 27 "ChannelBorrower$Layout" "cells" "I", Cond.fieldLink RX1 31 "ChannelBorrower$Layout" "channels" "I", Cond.fieldLink RX1 34 "ChannelBorrower$Layout" "groupSize" "I", Cond.methodLink RX1 37 yX1_placeCells, Cond.instanceMethod yX1_placeCells, Cond.selects RX1 yX1_placeCells yX1_placeCells, Cond.code yX1_placeCells cX1_placeCells 6 none, Cond.methodLink RX1 41 yX1_channelsOfGroup, Cond.instanceMethod yX1_channelsOfGroup, Cond.selects RX1 yX1_channelsOfGroup yX1_channelsOfGroup, Cond.code yX1_channelsOfGroup cX1_channelsOfGroup 5 (some .int), Cond.methodLink RX1 45 yX1_cellsWithin, Cond.instanceMethod yX1_cellsWithin, Cond.selects RX1 yX1_cellsWithin yX1_cellsWithin, Cond.code yX1_cellsWithin cX1_cellsWithin 5 (some .int), Cond.methodLink RX1 48 yX1_separation, Cond.instanceMethod yX1_separation, Cond.selects RX1 yX1_separation yX1_separation, Cond.code yX1_separation cX1_separation 5 (some .int)]
def wsL_does_r5 : List Cond := [Cond.methodLink RX1 55 Lib.Math.abs.name, Cond.static Lib.Math.abs.name, Cond.code Lib.Math.abs.name Lib.Math.abs.code 1 (some .int), Cond.methodLink RX1 61 Lib.Math.max.name, Cond.static Lib.Math.max.name, Cond.code Lib.Math.max.name Lib.Math.max.code 2 (some .int), Cond.methodLink RX1 51 yX1_hasCell, Cond.instanceMethod yX1_hasCell, Cond.selects RX1 yX1_hasCell yX1_hasCell, Cond.code yX1_hasCell cX1_hasCell 2 (some .boolean), Cond.methodLink RX4 49 yX2_begin, Cond.instanceMethod yX2_begin, Cond.selects RX2 yX2_begin yX2_begin, Cond.code yX2_begin cX2_begin 2 none, Cond.methodLink RX2 58 yJ7_fill_53178, Cond.static yJ7_fill_53178, Cond.initialized RJ7, Cond.code yJ7_fill_53178 cJ7_fill_53178 4 none, Cond.methodLink RL 94 yX4_setStrategy, Cond.instanceMethod yX4_setStrategy, Cond.selects RX4 yX4_setStrategy yX4_setStrategy, Cond.code yX4_setStrategy cX4_setStrategy 3 (some .int), Cond.fieldLink RX4 60 "ChannelBorrower$Network" "strategy" "I", Cond.methodLink RL 97 yX4_setReserve]
def wsL_does_r6 : List Cond := [Cond.instanceMethod yX4_setReserve, Cond.selects RX4 yX4_setReserve yX4_setReserve, Cond.code yX4_setReserve cX4_setReserve 3 (some .int), Cond.fieldLink RX4 63 "ChannelBorrower$Network" "reserve" "I", Cond.methodLink RL 100 yX4_setReturning, Cond.instanceMethod yX4_setReturning, Cond.selects RX4 yX4_setReturning yX4_setReturning, Cond.code yX4_setReturning cX4_setReturning 2 (some .int), Cond.fieldLink RX4 66 "ChannelBorrower$Network" "returning" "Z", Cond.methodLink RX4 70 yX2_returnCalls, Cond.instanceMethod yX2_returnCalls, Cond.selects RX2 yX2_returnCalls yX2_returnCalls, Cond.code yX2_returnCalls cX2_returnCalls 5 (some .int), Cond.methodLink RX2 139 yX2_nextToReturn, Cond.instanceMethod yX2_nextToReturn, Cond.selects RX2 yX2_nextToReturn yX2_nextToReturn, Cond.code yX2_nextToReturn cX2_nextToReturn 5 (some .int), Cond.methodLink RX2 133 yX2_borrows, Cond.instanceMethod yX2_borrows, Cond.selects RX2 yX2_borrows yX2_borrows, Cond.code yX2_borrows cX2_borrows 3 (some .boolean), Cond.methodLink RX2 80 yX2_channelAt, Cond.instanceMethod yX2_channelAt, Cond.selects RX2 yX2_channelAt yX2_channelAt]
def wsL_does_r7 : List Cond := [Cond.code yX2_channelAt cX2_channelAt 2 (some .int), Cond.methodLink RX2 76 yX2_isPresent, Cond.instanceMethod yX2_isPresent, Cond.selects RX2 yX2_isPresent yX2_isPresent, Cond.code yX2_isPresent cX2_isPresent 2 (some .boolean), Cond.methodLink RX2 84 yX2_cellAt, Cond.instanceMethod yX2_cellAt, Cond.selects RX2 yX2_cellAt yX2_cellAt, Cond.code yX2_cellAt cX2_cellAt 2 (some .int), Cond.methodLink RX2 87 yX2_isNominal, Cond.instanceMethod yX2_isNominal, Cond.selects RX2 yX2_isNominal yX2_isNominal, Cond.code yX2_isNominal cX2_isNominal 3 (some .boolean), Cond.methodLink RX2 151 yX1_nominalsOf, Cond.instanceMethod yX1_nominalsOf, Cond.selects RX1 yX1_nominalsOf yX1_nominalsOf, Cond.code yX1_nominalsOf cX1_nominalsOf 2 (some .int), Cond.static yX4_contains, Cond.code yX4_contains cX4_contains 2 (some .boolean), Cond.methodLink RX2 142 yX2_availableNominals, Cond.instanceMethod yX2_availableNominals, Cond.selects RX2 yX2_availableNominals yX2_availableNominals, Cond.code yX2_availableNominals cX2_availableNominals 2 (some .int), Cond.methodLink RX2 166 yX2_availableIn]
def wsL_does_r8 : List Cond := [Cond.instanceMethod yX2_availableIn, Cond.selects RX2 yX2_availableIn yX2_availableIn, Cond.code yX2_availableIn cX2_availableIn 5 (some .int), Cond.fieldLink RX2 163 "ChannelBorrower$Layout" "channels" "I", Cond.methodLink RX2 157 yX2_usedIn, Cond.instanceMethod yX2_usedIn, Cond.selects RX2 yX2_usedIn yX2_usedIn, Cond.code yX2_usedIn cX2_usedIn 2 (some .int), Cond.methodLink RX2 160 yX1_near, Cond.instanceMethod yX1_near, Cond.selects RX1 yX1_near yX1_near, Cond.code yX1_near cX1_near 2 (some .int), Cond.methodLink RX2 148 yX1_burdenIn, Cond.instanceMethod yX1_burdenIn, Cond.selects RX1 yX1_burdenIn yX1_burdenIn, Cond.code yX1_burdenIn cX1_burdenIn 6 (some .int), Cond.methodLink RX1 64 yX1_near, Cond.methodLink RX2 145 yX2_lowestOf, Cond.instanceMethod yX2_lowestOf, Cond.selects RX2 yX2_lowestOf yX2_lowestOf, Cond.code yX2_lowestOf cX2_lowestOf 3 (some .int), Cond.methodLink RX2 118 yX2_release, Cond.instanceMethod yX2_release, Cond.selects RX2 yX2_release yX2_release]
def wsL_does_r9 : List Cond := [Cond.code yX2_release cX2_release 3 none, Cond.methodLink RX2 91 yX1_hasCell, Cond.methodLink RX2 129 yX2_occupy, Cond.instanceMethod yX2_occupy, Cond.selects RX2 yX2_occupy yX2_occupy, Cond.code yX2_occupy cX2_occupy 4 none, Cond.methodLink RL 103 yX4_endCall, Cond.instanceMethod yX4_endCall, Cond.selects RX4 yX4_endCall yX4_endCall, Cond.code yX4_endCall cX4_endCall 2 (some .int), Cond.methodLink RX4 95 yX2_isPresent, Cond.methodLink RX4 98 yX2_end, Cond.instanceMethod yX2_end, Cond.selects RX2 yX2_end yX2_end, Cond.code yX2_end cX2_end 3 (some .int), Cond.methodLink RX2 122 yX2_returnCalls, Cond.methodLink RL 106 yX4_handOver, Cond.instanceMethod yX4_handOver, Cond.selects RX4 yX4_handOver yX4_handOver, Cond.code yX4_handOver cX4_handOver 4 (some .int), Cond.methodLink RX4 101 yX2_moveError, Cond.instanceMethod yX2_moveError, Cond.selects RX2 yX2_moveError yX2_moveError, Cond.code yX2_moveError cX2_moveError 4 (some .int)]
def wsL_does_r10 : List Cond := [Cond.methodLink RX2 125 yX1_separation, Cond.methodLink RX4 104 yX2_move, Cond.instanceMethod yX2_move, Cond.selects RX2 yX2_move yX2_move, Cond.code yX2_move cX2_move 4 (some .int), Cond.methodLink RX2 103 yX2_fixedAccepts, Cond.instanceMethod yX2_fixedAccepts, Cond.selects RX2 yX2_fixedAccepts yX2_fixedAccepts, Cond.code yX2_fixedAccepts cX2_fixedAccepts 4 (some .boolean), Cond.fieldLink RX2 136 "ChannelBorrower$Layout" "groupSize" "I", Cond.methodLink RX2 100 yX2_chooseChannel, Cond.instanceMethod yX2_chooseChannel, Cond.selects RX2 yX2_chooseChannel yX2_chooseChannel, Cond.code yX2_chooseChannel cX2_chooseChannel 5 (some .int), Cond.methodLink RX2 169 yX2_bestDonor, Cond.instanceMethod yX2_bestDonor, Cond.selects RX2 yX2_bestDonor yX2_bestDonor, Cond.code yX2_bestDonor cX2_bestDonor 9 (some .int), Cond.fieldLink RX2 175 "ChannelBorrower$Layout" "cells" "I", Cond.methodLink RX2 178 yJ6_bitCount_0f7a4, Cond.static yJ6_bitCount_0f7a4, Cond.initialized RJ6, Cond.code yJ6_bitCount_0f7a4 cJ6_bitCount_0f7a4 1 (some .int), Cond.constant RJ6 265 (1431655765)]
def wsL_does_r11 : List Cond := [Cond.constant RJ6 266 (858993459), Cond.constant RJ6 267 (252645135), Cond.methodLink RX2 183 yX2_rankOf, Cond.instanceMethod yX2_rankOf, Cond.selects RX2 yX2_rankOf yX2_rankOf, Cond.code yX2_rankOf cX2_rankOf 4 (some .int), Cond.methodLink RX2 187 yX1_groupAt, Cond.instanceMethod yX1_groupAt, Cond.selects RX1 yX1_groupAt yX1_groupAt, Cond.code yX1_groupAt cX1_groupAt 2 (some .int), Cond.methodLink RX2 172 yX2_greatestOf, Cond.instanceMethod yX2_greatestOf, Cond.selects RX2 yX2_greatestOf yX2_greatestOf, Cond.code yX2_greatestOf cX2_greatestOf 3 (some .int), Cond.methodLink RX2 114 yX2_place, Cond.instanceMethod yX2_place, Cond.selects RX2 yX2_place yX2_place, Cond.code yX2_place cX2_place 4 none, Cond.methodLink RL 109 yX4_startCall, Cond.instanceMethod yX4_startCall, Cond.selects RX4 yX4_startCall yX4_startCall, Cond.code yX4_startCall cX4_startCall 3 (some .int), Cond.methodLink RX4 89 yX2_startError, Cond.instanceMethod yX2_startError]
def wsL_does_r12 : List Cond := [Cond.selects RX2 yX2_startError yX2_startError, Cond.code yX2_startError cX2_startError 2 (some .int), Cond.methodLink RX2 96 yX2_lowestFreeNumber, Cond.instanceMethod yX2_lowestFreeNumber, Cond.selects RX2 yX2_lowestFreeNumber yX2_lowestFreeNumber, Cond.code yX2_lowestFreeNumber cX2_lowestFreeNumber 2 (some .int), Cond.methodLink RX4 92 yX2_start, Cond.instanceMethod yX2_start, Cond.selects RX2 yX2_start yX2_start, Cond.code yX2_start cX2_start 5 (some .int), Cond.static yX4_asNumber, Cond.code yX4_asNumber cX4_asNumber 1 (some .int)]
def wsL_does : List Cond := .code yL_does cL_does 3 (some .int) :: ((wsL_does_r1 ++ (wsL_does_r2 ++ (wsL_does_r3 ++ (wsL_does_r4 ++ (wsL_does_r5 ++ (wsL_does_r6 ++ (wsL_does_r7 ++ (wsL_does_r8 ++ (wsL_does_r9 ++ (wsL_does_r10 ++ (wsL_does_r11 ++ wsL_does_r12))))))))))) ++ wsX40 ++ wsX20 ++ wsX10 ++ wsX00)
def wsL_holds_r1 : List Cond := [Cond.methodLink RL 53 yX4_cellOf, Cond.instanceMethod yX4_cellOf, Cond.selects RX4 yX4_cellOf yX4_cellOf, Cond.initialized RX4, Cond.code yX4_cellOf cX4_cellOf 2 (some .int), Cond.fieldLink RX4 19 "ChannelBorrower" "network" "LChannelBorrower$Network;", Cond.methodLink RX4 95 yX2_isPresent, Cond.instanceMethod yX2_isPresent, Cond.selects RX2 yX2_isPresent yX2_isPresent, Cond.initialized RX2, Cond.code yX2_isPresent cX2_isPresent 2 (some .boolean), Cond.fieldLink RX2 19 "ChannelBorrower$Network" "callChannel" "[I", Cond.fieldLink RX2 22 "ChannelBorrower$Network" "callFixed" "[I", Cond.methodLink RX4 107 yX2_cellAt, Cond.instanceMethod yX2_cellAt, Cond.selects RX2 yX2_cellAt yX2_cellAt, Cond.code yX2_cellAt cX2_cellAt 2 (some .int), Cond.fieldLink RX2 15 "ChannelBorrower$Network" "callCell" "[I", Cond.methodLink RX2 76 yX2_isPresent, Cond.methodLink RL 59 yX4_channelOf, Cond.instanceMethod yX4_channelOf, Cond.selects RX4 yX4_channelOf yX4_channelOf, Cond.code yX4_channelOf cX4_channelOf 2 (some .int), Cond.methodLink RX4 110 yX2_channelAt]
def wsL_holds_r2 : List Cond := [Cond.instanceMethod yX2_channelAt, Cond.selects RX2 yX2_channelAt yX2_channelAt, Cond.code yX2_channelAt cX2_channelAt 2 (some .int), Cond.methodLink RL 62 yX4_isInFixedScheme, Cond.instanceMethod yX4_isInFixedScheme, Cond.selects RX4 yX4_isInFixedScheme yX4_isInFixedScheme, Cond.code yX4_isInFixedScheme cX4_isInFixedScheme 2 (some .int), Cond.methodLink RX4 120 yX2_isFixed, Cond.instanceMethod yX2_isFixed, Cond.selects RX2 yX2_isFixed yX2_isFixed, Cond.code yX2_isFixed cX2_isFixed 2 (some .boolean), Cond.methodLink RX4 116 yX4_asNumber, Cond.static yX4_asNumber, Cond.code yX4_asNumber cX4_asNumber 1 (some .int), Cond.methodLink RL 112 yX4_distance, Cond.instanceMethod yX4_distance, Cond.selects RX4 yX4_distance yX4_distance, Cond.code yX4_distance cX4_distance 3 (some .int), Cond.fieldLink RX4 52 "ChannelBorrower$Network" "layout" "LChannelBorrower$Layout;", Cond.methodLink RX4 77 yX4_isCell, Cond.instanceMethod yX4_isCell, Cond.selects RX4 yX4_isCell yX4_isCell, Cond.code yX4_isCell cX4_isCell 2 (some .boolean), Cond.methodLink RX4 223 yX1_hasCell]
def wsL_holds_r3 : List Cond := [Cond.instanceMethod yX1_hasCell, Cond.selects RX1 yX1_hasCell yX1_hasCell, Cond.initialized RX1, Cond.code yX1_hasCell cX1_hasCell 2 (some .boolean), Cond.fieldLink RX1 27 "ChannelBorrower$Layout" "cells" "I", Cond.methodLink RX4 85 yX1_separation, Cond.instanceMethod yX1_separation, Cond.selects RX1 yX1_separation yX1_separation, Cond.code yX1_separation cX1_separation 5 (some .int), Cond.fieldLink RX1 9 "ChannelBorrower$Layout" "row" "[I", Cond.fieldLink RX1 15 "ChannelBorrower$Layout" "column" "[I", Cond.methodLink RX1 55 Lib.Math.abs.name, Cond.static Lib.Math.abs.name, Cond.initialized "java/lang/Math", Cond.code Lib.Math.abs.name Lib.Math.abs.code 1 (some .int), Cond.methodLink RX1 61 Lib.Math.max.name, Cond.static Lib.Math.max.name, Cond.code Lib.Math.max.name Lib.Math.max.code 2 (some .int), Cond.methodLink RX1 51 yX1_hasCell, Cond.methodLink RL 8 yX4_cellCount, Cond.instanceMethod yX4_cellCount, Cond.selects RX4 yX4_cellCount yX4_cellCount, Cond.code yX4_cellCount cX4_cellCount 1 (some .int), Cond.fieldLink RX4 74 "ChannelBorrower$Layout" "cells" "I"]
def wsL_holds_r4 : List Cond := [Cond.methodLink RL 115 yX4_groupOf, Cond.instanceMethod yX4_groupOf, Cond.selects RX4 yX4_groupOf yX4_groupOf, Cond.code yX4_groupOf cX4_groupOf 2 (some .int), Cond.methodLink RX4 81 yX1_groupAt, Cond.instanceMethod yX1_groupAt, Cond.selects RX1 yX1_groupAt yX1_groupAt, Cond.code yX1_groupAt cX1_groupAt 2 (some .int), Cond.fieldLink RX1 18 "ChannelBorrower$Layout" "group" "[I", Cond.methodLink RL 118 yX4_isAvailable, Cond.instanceMethod yX4_isAvailable, Cond.selects RX4 yX4_isAvailable yX4_isAvailable, Cond.code yX4_isAvailable cX4_isAvailable 3 (some .int), Cond.methodLink RX4 123 yX4_isChannel, Cond.instanceMethod yX4_isChannel, Cond.selects RX4 yX4_isChannel yX4_isChannel, Cond.code yX4_isChannel cX4_isChannel 2 (some .boolean), Cond.fieldLink RX4 56 "ChannelBorrower$Layout" "channels" "I", Cond.methodLink RX4 41 yX4_isBetween, Cond.static yX4_isBetween, Cond.code yX4_isBetween cX4_isBetween 3 (some .boolean), Cond.methodLink RX4 126 yX2_availableIn, Cond.instanceMethod yX2_availableIn, Cond.selects RX2 yX2_availableIn yX2_availableIn]
def wsL_holds_r5 : List Cond := [Cond.code yX2_availableIn cX2_availableIn 5 (some .int), Cond.fieldLink RX2 32 "ChannelBorrower$Network" "layout" "LChannelBorrower$Layout;", Cond.fieldLink RX2 25 "ChannelBorrower$Network" "used" "[I", Cond.fieldLink RX2 163 "ChannelBorrower$Layout" "channels" "I", Cond.methodLink RX2 157 yX2_usedIn, Cond.instanceMethod yX2_usedIn, Cond.selects RX2 yX2_usedIn yX2_usedIn, Cond.code yX2_usedIn cX2_usedIn 2 (some .int), Cond.methodLink RX2 160 yX1_near, Cond.instanceMethod yX1_near, Cond.selects RX1 yX1_near yX1_near, Cond.code yX1_near cX1_near 2 (some .int), Cond.fieldLink RX1 24 "ChannelBorrower$Layout" "nearCells" "[I", Cond.static yX4_contains, Cond.code yX4_contains cX4_contains 2 (some .boolean), Cond.methodLink RX4 129 yX4_contains, Cond.methodLink RL 67 yX4_nextChannel, Cond.instanceMethod yX4_nextChannel, Cond.selects RX4 yX4_nextChannel yX4_nextChannel, Cond.code yX4_nextChannel cX4_nextChannel 2 (some .int), Cond.methodLink RX4 153 yX2_chooseChannel, Cond.instanceMethod yX2_chooseChannel, Cond.selects RX2 yX2_chooseChannel yX2_chooseChannel, Cond.code yX2_chooseChannel cX2_chooseChannel 5 (some .int)]
def wsL_holds_r6 : List Cond := [Cond.methodLink RX2 166 yX2_availableIn, Cond.methodLink RX2 151 yX1_nominalsOf, Cond.instanceMethod yX1_nominalsOf, Cond.selects RX1 yX1_nominalsOf yX1_nominalsOf, Cond.code yX1_nominalsOf cX1_nominalsOf 2 (some .int), Cond.fieldLink RX1 21 "ChannelBorrower$Layout" "nominals" "[I", Cond.methodLink RX2 145 yX2_lowestOf, Cond.instanceMethod yX2_lowestOf, Cond.selects RX2 yX2_lowestOf yX2_lowestOf, Cond.code yX2_lowestOf cX2_lowestOf 3 (some .int), Cond.methodLink RX2 169 yX2_bestDonor, Cond.instanceMethod yX2_bestDonor, Cond.selects RX2 yX2_bestDonor yX2_bestDonor, Cond.code yX2_bestDonor cX2_bestDonor 9 (some .int), Cond.fieldLink RX2 175 "ChannelBorrower$Layout" "cells" "I", Cond.fieldLink RX2 67 "ChannelBorrower$Network" "reserve" "I", Cond.methodLink RX2 125 yX1_separation, Cond.methodLink RX2 142 yX2_availableNominals, Cond.instanceMethod yX2_availableNominals, Cond.selects RX2 yX2_availableNominals yX2_availableNominals, Cond.code yX2_availableNominals cX2_availableNominals 2 (some .int), Cond.methodLink RX2 178 yJ6_bitCount_0f7a4, Cond.static yJ6_bitCount_0f7a4, Cond.initialized RJ6]
def wsL_holds_r7 : List Cond := [Cond.code yJ6_bitCount_0f7a4 cJ6_bitCount_0f7a4 1 (some .int), Cond.constant RJ6 265 (1431655765), Cond.constant RJ6 266 (858993459), Cond.constant RJ6 267 (252645135), Cond.methodLink RX2 183 yX2_rankOf, Cond.instanceMethod yX2_rankOf, Cond.selects RX2 yX2_rankOf yX2_rankOf, Cond.code yX2_rankOf cX2_rankOf 4 (some .int), Cond.fieldLink RX2 64 "ChannelBorrower$Network" "strategy" "I", Cond.methodLink RX2 187 yX1_groupAt, Cond.methodLink RX2 148 yX1_burdenIn, Cond.instanceMethod yX1_burdenIn, Cond.selects RX1 yX1_burdenIn yX1_burdenIn, Cond.code yX1_burdenIn cX1_burdenIn 6 (some .int), Cond.methodLink RX1 64 yX1_near, Cond.methodLink RX2 172 yX2_greatestOf, Cond.instanceMethod yX2_greatestOf, Cond.selects RX2 yX2_greatestOf yX2_greatestOf, Cond.code yX2_greatestOf cX2_greatestOf 3 (some .int), Cond.methodLink RL 76 yX4_usedCount, Cond.instanceMethod yX4_usedCount, Cond.selects RX4 yX4_usedCount yX4_usedCount, Cond.code yX4_usedCount cX4_usedCount 2 (some .int), Cond.methodLink RX4 147 yX2_usedIn]
def wsL_holds_r8 : List Cond := [Cond.methodLink RX4 142 yJ6_bitCount_0f7a4, Cond.methodLink RL 70 yX4_availableCount, Cond.instanceMethod yX4_availableCount, Cond.selects RX4 yX4_availableCount yX4_availableCount, Cond.code yX4_availableCount cX4_availableCount 2 (some .int), Cond.methodLink RX4 139 yX2_availableNominals, Cond.methodLink RL 79 yX4_nextDonor, Cond.instanceMethod yX4_nextDonor, Cond.selects RX4 yX4_nextDonor yX4_nextDonor, Cond.code yX4_nextDonor cX4_nextDonor 2 (some .int), Cond.methodLink RX4 156 yX2_chooseDonor, Cond.instanceMethod yX2_chooseDonor, Cond.selects RX2 yX2_chooseDonor yX2_chooseDonor, Cond.code yX2_chooseDonor cX2_chooseDonor 4 (some .int), Cond.methodLink RL 121 yX4_blockingCells, Cond.instanceMethod yX4_blockingCells, Cond.selects RX4 yX4_blockingCells yX4_blockingCells, Cond.code yX4_blockingCells cX4_blockingCells 3 (some .int), Cond.methodLink RL 29 yX4_blocked, Cond.instanceMethod yX4_blocked, Cond.selects RX4 yX4_blocked yX4_blocked, Cond.code yX4_blocked cX4_blocked 1 (some .int), Cond.fieldLink RX4 165 "ChannelBorrower$Network" "blocked" "I", Cond.methodLink RL 24 yX4_attempts]
def wsL_holds_r9 : List Cond := [Cond.instanceMethod yX4_attempts, Cond.selects RX4 yX4_attempts yX4_attempts, Cond.code yX4_attempts cX4_attempts 1 (some .int), Cond.fieldLink RX4 162 "ChannelBorrower$Network" "attempts" "I"]
def wsL_holds : List Cond := .code yL_holds cL_holds 9 (some .boolean) :: ((wsL_holds_r1 ++ (wsL_holds_r2 ++ (wsL_holds_r3 ++ (wsL_holds_r4 ++ (wsL_holds_r5 ++ (wsL_holds_r6 ++ (wsL_holds_r7 ++ (wsL_holds_r8 ++ wsL_holds_r9)))))))) ++ wsX40 ++ wsX20 ++ wsX10)
def wsL_law_r1 : List Cond := [Cond.classLink RL 9 RX4, Cond.instantiable RX4 4, Cond.initialized RX4, Cond.methodLink RL 124 yX4_init, Cond.instanceMethod yX4_init, Cond.code yX4_init cX4_init 2 none, Cond.methodLink RX4 3 objectInit, Cond.instanceMethod objectInit, Cond.code objectInit ⟨#[0xb1]⟩ 1 none, Cond.classLink RX4 9 RX1, Cond.instantiable RX1 8, Cond.initialized RX1, Cond.classLink RX4 14 RX2, Cond.instantiable RX2 15, Cond.initialized RX2, Cond.fieldLink RX4 19 "ChannelBorrower" "network" "LChannelBorrower$Network;", Cond.classLink RX4 23 RX0, Cond.instantiable RX0 3, Cond.initialized RX0, Cond.fieldLink RX4 26 "ChannelBorrower" "history" "LChannelBorrower$History;", Cond.fieldLink RX4 30 "ChannelBorrower" "snapshots" "[LChannelBorrower$Network;", Cond.classLink RX4 34 RX3, Cond.instantiable RX3 7, Cond.initialized RX3]
def wsL_law_r2 : List Cond := [Cond.fieldLink RX4 37 "ChannelBorrower" "script" "LChannelBorrower$Script;", Cond.methodLink RX4 11 yX1_init, Cond.instanceMethod yX1_init, Cond.code yX1_init cX1_init 7 none, Cond.methodLink RX1 3 objectInit, Cond.arrayClass .int, Cond.fieldLink RX1 9 "ChannelBorrower$Layout" "row" "[I", Cond.fieldLink RX1 15 "ChannelBorrower$Layout" "column" "[I", Cond.fieldLink RX1 18 "ChannelBorrower$Layout" "group" "[I", Cond.fieldLink RX1 21 "ChannelBorrower$Layout" "nominals" "[I", Cond.fieldLink RX1 24 "ChannelBorrower$Layout" "nearCells" "[I", Cond.fieldLink RX1 27 "ChannelBorrower$Layout" "cells" "I", Cond.fieldLink RX1 31 "ChannelBorrower$Layout" "channels" "I", Cond.fieldLink RX1 34 "ChannelBorrower$Layout" "groupSize" "I", Cond.methodLink RX1 37 yX1_placeCells, Cond.instanceMethod yX1_placeCells, Cond.selects RX1 yX1_placeCells yX1_placeCells, Cond.code yX1_placeCells cX1_placeCells 6 none, Cond.methodLink RX1 41 yX1_channelsOfGroup, Cond.instanceMethod yX1_channelsOfGroup, Cond.selects RX1 yX1_channelsOfGroup yX1_channelsOfGroup, Cond.code yX1_channelsOfGroup cX1_channelsOfGroup 5 (some .int), Cond.methodLink RX1 45 yX1_cellsWithin, Cond.instanceMethod yX1_cellsWithin]
def wsL_law_r3 : List Cond := [Cond.selects RX1 yX1_cellsWithin yX1_cellsWithin, Cond.code yX1_cellsWithin cX1_cellsWithin 5 (some .int), Cond.methodLink RX1 48 yX1_separation, Cond.instanceMethod yX1_separation, Cond.selects RX1 yX1_separation yX1_separation, Cond.code yX1_separation cX1_separation 5 (some .int), Cond.methodLink RX1 55 Lib.Math.abs.name, Cond.static Lib.Math.abs.name, Cond.initialized "java/lang/Math", Cond.code Lib.Math.abs.name Lib.Math.abs.code 1 (some .int), Cond.methodLink RX1 61 Lib.Math.max.name, Cond.static Lib.Math.max.name, Cond.code Lib.Math.max.name Lib.Math.max.code 2 (some .int), Cond.methodLink RX1 51 yX1_hasCell, Cond.instanceMethod yX1_hasCell, Cond.selects RX1 yX1_hasCell yX1_hasCell, Cond.code yX1_hasCell cX1_hasCell 2 (some .boolean), Cond.methodLink RX4 16 yX2_init, Cond.instanceMethod yX2_init, Cond.code yX2_init cX2_init 2 none, Cond.methodLink RX2 3 objectInit, Cond.fieldLink RX2 9 "ChannelBorrower$Network" "returning" "Z", Cond.fieldLink RX2 15 "ChannelBorrower$Network" "callCell" "[I", Cond.fieldLink RX2 19 "ChannelBorrower$Network" "callChannel" "[I"]
def wsL_law_r4 : List Cond := [Cond.fieldLink RX2 22 "ChannelBorrower$Network" "callFixed" "[I", Cond.fieldLink RX2 25 "ChannelBorrower$Network" "used" "[I", Cond.methodLink RX2 28 yX2_begin, Cond.instanceMethod yX2_begin, Cond.selects RX2 yX2_begin yX2_begin, Cond.code yX2_begin cX2_begin 2 none, Cond.fieldLink RX2 32 "ChannelBorrower$Network" "layout" "LChannelBorrower$Layout;", Cond.fieldLink RX2 36 "ChannelBorrower$Network" "attempts" "I", Cond.fieldLink RX2 40 "ChannelBorrower$Network" "blocked" "I", Cond.fieldLink RX2 43 "ChannelBorrower$Network" "blockedInFixed" "I", Cond.fieldLink RX2 46 "ChannelBorrower$Network" "dropped" "I", Cond.fieldLink RX2 49 "ChannelBorrower$Network" "droppedInFixed" "I", Cond.fieldLink RX2 52 "ChannelBorrower$Network" "borrowings" "I", Cond.fieldLink RX2 55 "ChannelBorrower$Network" "returnSteps" "I", Cond.methodLink RX2 58 yJ7_fill_53178, Cond.static yJ7_fill_53178, Cond.initialized RJ7, Cond.code yJ7_fill_53178 cJ7_fill_53178 4 none, Cond.methodLink RX4 25 yX0_init, Cond.instanceMethod yX0_init, Cond.code yX0_init cX0_init 3 none, Cond.methodLink RX0 3 objectInit, Cond.classLink RX0 9 RX2, Cond.fieldLink RX0 11 "ChannelBorrower$History" "states" "[LChannelBorrower$Network;"]
def wsL_law_r5 : List Cond := [Cond.methodLink RX0 17 yX2_init, Cond.instanceMethod yX3_init, Cond.code yX3_init cX3_init 1 none, Cond.methodLink RX3 3 objectInit, Cond.fieldLink RX3 9 "ChannelBorrower$Script" "letters" "[I", Cond.fieldLink RX3 15 "ChannelBorrower$Script" "firsts" "[I", Cond.fieldLink RX3 18 "ChannelBorrower$Script" "seconds" "[I", Cond.fieldLink RX3 21 "ChannelBorrower$Script" "text" "[I", Cond.methodLink RL 125 yX4_undo, Cond.instanceMethod yX4_undo, Cond.selects RX4 yX4_undo yX4_undo, Cond.code yX4_undo cX4_undo 1 (some .int), Cond.fieldLink RX4 217 "ChannelBorrower$History" "count" "I", Cond.methodLink RX4 213 yX0_pop, Cond.instanceMethod yX0_pop, Cond.selects RX0 yX0_pop yX0_pop, Cond.code yX0_pop cX0_pop 3 (some .boolean), Cond.fieldLink RX0 32 "ChannelBorrower$History" "count" "I", Cond.fieldLink RX0 20 "ChannelBorrower$History" "newest" "I", Cond.methodLink RX0 24 yX0_newestState, Cond.instanceMethod yX0_newestState, Cond.selects RX0 yX0_newestState yX0_newestState, Cond.code yX0_newestState cX0_newestState 1 (some (.object "ChannelBorrower$Network")), Cond.static yX4_isBetween]
def wsL_law_r6 : List Cond := [Cond.code yX4_isBetween cX4_isBetween 3 (some .boolean), Cond.methodLink RX0 28 yX2_copyFrom, Cond.instanceMethod yX2_copyFrom, Cond.selects RX2 yX2_copyFrom yX2_copyFrom, Cond.code yX2_copyFrom cX2_copyFrom 2 none, Cond.fieldLink RX2 64 "ChannelBorrower$Network" "strategy" "I", Cond.fieldLink RX2 67 "ChannelBorrower$Network" "reserve" "I", Cond.methodLink RX2 70 arraycopyName, Cond.native arraycopyName, Cond.static arraycopyName, Cond.initialized "java/lang/System", Cond.methodLink RL 128 yX4_restore, Cond.instanceMethod yX4_restore, Cond.selects RX4 yX4_restore yX4_restore, Cond.code yX4_restore cX4_restore 3 (some .int), Cond.methodLink RX4 41 yX4_isBetween, Cond.methodLink RX4 220 yX2_copyFrom, Cond.methodLink RX4 159 yX2_presentCalls, Cond.instanceMethod yX2_presentCalls, Cond.selects RX2 yX2_presentCalls yX2_presentCalls, Cond.code yX2_presentCalls cX2_presentCalls 3 (some .int), Cond.methodLink RX2 76 yX2_isPresent, Cond.instanceMethod yX2_isPresent, Cond.selects RX2 yX2_isPresent yX2_isPresent]
def wsL_law_r7 : List Cond := [Cond.code yX2_isPresent cX2_isPresent 2 (some .boolean), Cond.methodLink RL 103 yX4_endCall, Cond.instanceMethod yX4_endCall, Cond.selects RX4 yX4_endCall yX4_endCall, Cond.code yX4_endCall cX4_endCall 2 (some .int), Cond.methodLink RX4 95 yX2_isPresent, Cond.methodLink RX4 45 yX0_push, Cond.instanceMethod yX0_push, Cond.selects RX0 yX0_push yX0_push, Cond.code yX0_push cX0_push 3 none, Cond.methodLink RX0 35 Lib.Math.min.name, Cond.static Lib.Math.min.name, Cond.code Lib.Math.min.name Lib.Math.min.code 2 (some .int), Cond.methodLink RX4 98 yX2_end, Cond.instanceMethod yX2_end, Cond.selects RX2 yX2_end yX2_end, Cond.code yX2_end cX2_end 3 (some .int), Cond.methodLink RX2 80 yX2_channelAt, Cond.instanceMethod yX2_channelAt, Cond.selects RX2 yX2_channelAt yX2_channelAt, Cond.code yX2_channelAt cX2_channelAt 2 (some .int), Cond.methodLink RX2 118 yX2_release, Cond.instanceMethod yX2_release, Cond.selects RX2 yX2_release yX2_release]
def wsL_law_r8 : List Cond := [Cond.code yX2_release cX2_release 3 none, Cond.methodLink RX2 91 yX1_hasCell, Cond.methodLink RX2 122 yX2_returnCalls, Cond.instanceMethod yX2_returnCalls, Cond.selects RX2 yX2_returnCalls yX2_returnCalls, Cond.code yX2_returnCalls cX2_returnCalls 5 (some .int), Cond.methodLink RX2 139 yX2_nextToReturn, Cond.instanceMethod yX2_nextToReturn, Cond.selects RX2 yX2_nextToReturn yX2_nextToReturn, Cond.code yX2_nextToReturn cX2_nextToReturn 5 (some .int), Cond.methodLink RX2 133 yX2_borrows, Cond.instanceMethod yX2_borrows, Cond.selects RX2 yX2_borrows yX2_borrows, Cond.code yX2_borrows cX2_borrows 3 (some .boolean), Cond.methodLink RX2 84 yX2_cellAt, Cond.instanceMethod yX2_cellAt, Cond.selects RX2 yX2_cellAt yX2_cellAt, Cond.code yX2_cellAt cX2_cellAt 2 (some .int), Cond.methodLink RX2 87 yX2_isNominal, Cond.instanceMethod yX2_isNominal, Cond.selects RX2 yX2_isNominal yX2_isNominal, Cond.code yX2_isNominal cX2_isNominal 3 (some .boolean), Cond.methodLink RX2 151 yX1_nominalsOf, Cond.instanceMethod yX1_nominalsOf]
def wsL_law_r9 : List Cond := [Cond.selects RX1 yX1_nominalsOf yX1_nominalsOf, Cond.code yX1_nominalsOf cX1_nominalsOf 2 (some .int), Cond.static yX4_contains, Cond.code yX4_contains cX4_contains 2 (some .boolean), Cond.methodLink RX2 142 yX2_availableNominals, Cond.instanceMethod yX2_availableNominals, Cond.selects RX2 yX2_availableNominals yX2_availableNominals, Cond.code yX2_availableNominals cX2_availableNominals 2 (some .int), Cond.methodLink RX2 166 yX2_availableIn, Cond.instanceMethod yX2_availableIn, Cond.selects RX2 yX2_availableIn yX2_availableIn, Cond.code yX2_availableIn cX2_availableIn 5 (some .int), Cond.fieldLink RX2 163 "ChannelBorrower$Layout" "channels" "I", Cond.methodLink RX2 157 yX2_usedIn, Cond.instanceMethod yX2_usedIn, Cond.selects RX2 yX2_usedIn yX2_usedIn, Cond.code yX2_usedIn cX2_usedIn 2 (some .int), Cond.methodLink RX2 160 yX1_near, Cond.instanceMethod yX1_near, Cond.selects RX1 yX1_near yX1_near, Cond.code yX1_near cX1_near 2 (some .int), Cond.methodLink RX2 148 yX1_burdenIn, Cond.instanceMethod yX1_burdenIn, Cond.selects RX1 yX1_burdenIn yX1_burdenIn]
def wsL_law_r10 : List Cond := [Cond.code yX1_burdenIn cX1_burdenIn 6 (some .int), Cond.methodLink RX1 64 yX1_near, Cond.methodLink RX2 145 yX2_lowestOf, Cond.instanceMethod yX2_lowestOf, Cond.selects RX2 yX2_lowestOf yX2_lowestOf, Cond.code yX2_lowestOf cX2_lowestOf 3 (some .int), Cond.methodLink RX2 129 yX2_occupy, Cond.instanceMethod yX2_occupy, Cond.selects RX2 yX2_occupy yX2_occupy, Cond.code yX2_occupy cX2_occupy 4 none, Cond.methodLink RL 131 yL_cell, Cond.static yL_cell, Cond.initialized RL, Cond.code yL_cell cL_cell 2 (some .int), Cond.methodLink RL 135 yL_tale, Cond.static yL_tale, Cond.code yL_tale cL_tale 4 (some .long), Cond.constantLong RL 14 (31), Cond.constantLong RL 22 (3), Cond.constantLong RL 27 (5), Cond.constantLong RL 32 (7), Cond.constantLong RL 37 (11), Cond.constantLong RL 51 (37), Cond.constantLong RL 57 (13)]
def wsL_law_r11 : List Cond := [Cond.constantLong RL 65 (41), Cond.constantLong RL 82 (17), Cond.methodLink RL 8 yX4_cellCount, Cond.instanceMethod yX4_cellCount, Cond.selects RX4 yX4_cellCount yX4_cellCount, Cond.code yX4_cellCount cX4_cellCount 1 (some .int), Cond.fieldLink RX4 52 "ChannelBorrower$Network" "layout" "LChannelBorrower$Layout;", Cond.fieldLink RX4 74 "ChannelBorrower$Layout" "cells" "I", Cond.methodLink RL 16 yX4_channelCount, Cond.instanceMethod yX4_channelCount, Cond.selects RX4 yX4_channelCount yX4_channelCount, Cond.code yX4_channelCount cX4_channelCount 1 (some .int), Cond.fieldLink RX4 56 "ChannelBorrower$Layout" "channels" "I", Cond.methodLink RL 19 yX4_callCount, Cond.instanceMethod yX4_callCount, Cond.selects RX4 yX4_callCount yX4_callCount, Cond.code yX4_callCount cX4_callCount 1 (some .int), Cond.methodLink RL 24 yX4_attempts, Cond.instanceMethod yX4_attempts, Cond.selects RX4 yX4_attempts yX4_attempts, Cond.code yX4_attempts cX4_attempts 1 (some .int), Cond.fieldLink RX4 162 "ChannelBorrower$Network" "attempts" "I", Cond.methodLink RL 29 yX4_blocked, Cond.instanceMethod yX4_blocked]
def wsL_law_r12 : List Cond := [Cond.selects RX4 yX4_blocked yX4_blocked, Cond.code yX4_blocked cX4_blocked 1 (some .int), Cond.fieldLink RX4 165 "ChannelBorrower$Network" "blocked" "I", Cond.methodLink RL 34 yX4_blockedInFixedScheme, Cond.instanceMethod yX4_blockedInFixedScheme, Cond.selects RX4 yX4_blockedInFixedScheme yX4_blockedInFixedScheme, Cond.code yX4_blockedInFixedScheme cX4_blockedInFixedScheme 1 (some .int), Cond.fieldLink RX4 168 "ChannelBorrower$Network" "blockedInFixed" "I", Cond.methodLink RL 39 yX4_dropped, Cond.instanceMethod yX4_dropped, Cond.selects RX4 yX4_dropped yX4_dropped, Cond.code yX4_dropped cX4_dropped 1 (some .int), Cond.fieldLink RX4 171 "ChannelBorrower$Network" "dropped" "I", Cond.methodLink RL 42 yX4_droppedInFixedScheme, Cond.instanceMethod yX4_droppedInFixedScheme, Cond.selects RX4 yX4_droppedInFixedScheme yX4_droppedInFixedScheme, Cond.code yX4_droppedInFixedScheme cX4_droppedInFixedScheme 1 (some .int), Cond.fieldLink RX4 174 "ChannelBorrower$Network" "droppedInFixed" "I", Cond.methodLink RL 45 yX4_borrowings, Cond.instanceMethod yX4_borrowings, Cond.selects RX4 yX4_borrowings yX4_borrowings, Cond.code yX4_borrowings cX4_borrowings 1 (some .int), Cond.fieldLink RX4 177 "ChannelBorrower$Network" "borrowings" "I", Cond.methodLink RL 48 yX4_returns]
def wsL_law_r13 : List Cond := [Cond.instanceMethod yX4_returns, Cond.selects RX4 yX4_returns yX4_returns, Cond.code yX4_returns cX4_returns 1 (some .int), Cond.fieldLink RX4 180 "ChannelBorrower$Network" "returnSteps" "I", Cond.methodLink RL 53 yX4_cellOf, Cond.instanceMethod yX4_cellOf, Cond.selects RX4 yX4_cellOf yX4_cellOf, Cond.code yX4_cellOf cX4_cellOf 2 (some .int), Cond.methodLink RX4 107 yX2_cellAt, Cond.methodLink RL 59 yX4_channelOf, Cond.instanceMethod yX4_channelOf, Cond.selects RX4 yX4_channelOf yX4_channelOf, Cond.code yX4_channelOf cX4_channelOf 2 (some .int), Cond.methodLink RX4 110 yX2_channelAt, Cond.methodLink RL 62 yX4_isInFixedScheme, Cond.instanceMethod yX4_isInFixedScheme, Cond.selects RX4 yX4_isInFixedScheme yX4_isInFixedScheme, Cond.code yX4_isInFixedScheme cX4_isInFixedScheme 2 (some .int), Cond.methodLink RX4 120 yX2_isFixed, Cond.instanceMethod yX2_isFixed, Cond.selects RX2 yX2_isFixed yX2_isFixed, Cond.code yX2_isFixed cX2_isFixed 2 (some .boolean), Cond.methodLink RX4 116 yX4_asNumber, Cond.static yX4_asNumber]
def wsL_law_r14 : List Cond := [Cond.code yX4_asNumber cX4_asNumber 1 (some .int), Cond.methodLink RL 67 yX4_nextChannel, Cond.instanceMethod yX4_nextChannel, Cond.selects RX4 yX4_nextChannel yX4_nextChannel, Cond.code yX4_nextChannel cX4_nextChannel 2 (some .int), Cond.methodLink RX4 77 yX4_isCell, Cond.instanceMethod yX4_isCell, Cond.selects RX4 yX4_isCell yX4_isCell, Cond.code yX4_isCell cX4_isCell 2 (some .boolean), Cond.methodLink RX4 223 yX1_hasCell, Cond.methodLink RX4 153 yX2_chooseChannel, Cond.instanceMethod yX2_chooseChannel, Cond.selects RX2 yX2_chooseChannel yX2_chooseChannel, Cond.code yX2_chooseChannel cX2_chooseChannel 5 (some .int), Cond.methodLink RX2 169 yX2_bestDonor, Cond.instanceMethod yX2_bestDonor, Cond.selects RX2 yX2_bestDonor yX2_bestDonor, Cond.code yX2_bestDonor cX2_bestDonor 9 (some .int), Cond.fieldLink RX2 175 "ChannelBorrower$Layout" "cells" "I", Cond.methodLink RX2 125 yX1_separation, Cond.methodLink RX2 178 yJ6_bitCount_0f7a4, Cond.static yJ6_bitCount_0f7a4, Cond.initialized RJ6, Cond.code yJ6_bitCount_0f7a4 cJ6_bitCount_0f7a4 1 (some .int)]
def wsL_law_r15 : List Cond := [Cond.constant RJ6 265 (1431655765), Cond.constant RJ6 266 (858993459), Cond.constant RJ6 267 (252645135), Cond.methodLink RX2 183 yX2_rankOf, Cond.instanceMethod yX2_rankOf, Cond.selects RX2 yX2_rankOf yX2_rankOf, Cond.code yX2_rankOf cX2_rankOf 4 (some .int), Cond.methodLink RX2 187 yX1_groupAt, Cond.instanceMethod yX1_groupAt, Cond.selects RX1 yX1_groupAt yX1_groupAt, Cond.code yX1_groupAt cX1_groupAt 2 (some .int), Cond.methodLink RX2 172 yX2_greatestOf, Cond.instanceMethod yX2_greatestOf, Cond.selects RX2 yX2_greatestOf yX2_greatestOf, Cond.code yX2_greatestOf cX2_greatestOf 3 (some .int), Cond.methodLink RL 70 yX4_availableCount, Cond.instanceMethod yX4_availableCount, Cond.selects RX4 yX4_availableCount yX4_availableCount, Cond.code yX4_availableCount cX4_availableCount 2 (some .int), Cond.methodLink RX4 139 yX2_availableNominals, Cond.methodLink RX4 142 yJ6_bitCount_0f7a4, Cond.methodLink RL 73 yX4_lockedCount, Cond.instanceMethod yX4_lockedCount, Cond.selects RX4 yX4_lockedCount yX4_lockedCount]
def wsL_law_r16 : List Cond := [Cond.code yX4_lockedCount cX4_lockedCount 3 (some .int), Cond.methodLink RX4 147 yX2_usedIn, Cond.methodLink RX4 126 yX2_availableIn, Cond.methodLink RX4 150 yX1_nominalsOf, Cond.methodLink RL 76 yX4_usedCount, Cond.instanceMethod yX4_usedCount, Cond.selects RX4 yX4_usedCount yX4_usedCount, Cond.code yX4_usedCount cX4_usedCount 2 (some .int), Cond.methodLink RL 79 yX4_nextDonor, Cond.instanceMethod yX4_nextDonor, Cond.selects RX4 yX4_nextDonor yX4_nextDonor, Cond.code yX4_nextDonor cX4_nextDonor 2 (some .int), Cond.methodLink RX4 156 yX2_chooseDonor, Cond.instanceMethod yX2_chooseDonor, Cond.selects RX2 yX2_chooseDonor yX2_chooseDonor, Cond.code yX2_chooseDonor cX2_chooseDonor 4 (some .int), Cond.methodLink RL 139 yL_does, Cond.static yL_does, Cond.code yL_does cL_does 3 (some .int), Cond.methodLink RL 84 yL_low, Cond.static yL_low, Cond.code yL_low cL_low 2 (some .int), Cond.constant RL 7 (2147483647), Cond.methodLink RL 90 yX4_configure]
def wsL_law_r17 : List Cond := [Cond.instanceMethod yX4_configure, Cond.selects RX4 yX4_configure yX4_configure, Cond.code yX4_configure cX4_configure 6 (some .int), Cond.methodLink RX4 49 yX2_begin, Cond.methodLink RL 94 yX4_setStrategy, Cond.instanceMethod yX4_setStrategy, Cond.selects RX4 yX4_setStrategy yX4_setStrategy, Cond.code yX4_setStrategy cX4_setStrategy 3 (some .int), Cond.fieldLink RX4 60 "ChannelBorrower$Network" "strategy" "I", Cond.methodLink RL 97 yX4_setReserve, Cond.instanceMethod yX4_setReserve, Cond.selects RX4 yX4_setReserve yX4_setReserve, Cond.code yX4_setReserve cX4_setReserve 3 (some .int), Cond.fieldLink RX4 63 "ChannelBorrower$Network" "reserve" "I", Cond.methodLink RL 100 yX4_setReturning, Cond.instanceMethod yX4_setReturning, Cond.selects RX4 yX4_setReturning yX4_setReturning, Cond.code yX4_setReturning cX4_setReturning 2 (some .int), Cond.fieldLink RX4 66 "ChannelBorrower$Network" "returning" "Z", Cond.methodLink RX4 70 yX2_returnCalls, Cond.methodLink RL 106 yX4_handOver, Cond.instanceMethod yX4_handOver, Cond.selects RX4 yX4_handOver yX4_handOver, Cond.code yX4_handOver cX4_handOver 4 (some .int)]
def wsL_law_r18 : List Cond := [Cond.methodLink RX4 101 yX2_moveError, Cond.instanceMethod yX2_moveError, Cond.selects RX2 yX2_moveError yX2_moveError, Cond.code yX2_moveError cX2_moveError 4 (some .int), Cond.methodLink RX4 104 yX2_move, Cond.instanceMethod yX2_move, Cond.selects RX2 yX2_move yX2_move, Cond.code yX2_move cX2_move 4 (some .int), Cond.methodLink RX2 103 yX2_fixedAccepts, Cond.instanceMethod yX2_fixedAccepts, Cond.selects RX2 yX2_fixedAccepts yX2_fixedAccepts, Cond.code yX2_fixedAccepts cX2_fixedAccepts 4 (some .boolean), Cond.fieldLink RX2 136 "ChannelBorrower$Layout" "groupSize" "I", Cond.methodLink RX2 100 yX2_chooseChannel, Cond.methodLink RX2 114 yX2_place, Cond.instanceMethod yX2_place, Cond.selects RX2 yX2_place yX2_place, Cond.code yX2_place cX2_place 4 none, Cond.methodLink RL 109 yX4_startCall, Cond.instanceMethod yX4_startCall, Cond.selects RX4 yX4_startCall yX4_startCall, Cond.code yX4_startCall cX4_startCall 3 (some .int), Cond.methodLink RX4 89 yX2_startError, Cond.instanceMethod yX2_startError]
def wsL_law_r19 : List Cond := [Cond.selects RX2 yX2_startError yX2_startError, Cond.code yX2_startError cX2_startError 2 (some .int), Cond.methodLink RX2 96 yX2_lowestFreeNumber, Cond.instanceMethod yX2_lowestFreeNumber, Cond.selects RX2 yX2_lowestFreeNumber yX2_lowestFreeNumber, Cond.code yX2_lowestFreeNumber cX2_lowestFreeNumber 2 (some .int), Cond.methodLink RX4 92 yX2_start, Cond.instanceMethod yX2_start, Cond.selects RX2 yX2_start yX2_start, Cond.code yX2_start cX2_start 5 (some .int), Cond.methodLink RL 143 yL_holds, Cond.static yL_holds, Cond.code yL_holds cL_holds 9 (some .boolean), Cond.methodLink RL 112 yX4_distance, Cond.instanceMethod yX4_distance, Cond.selects RX4 yX4_distance yX4_distance, Cond.code yX4_distance cX4_distance 3 (some .int), Cond.methodLink RX4 85 yX1_separation, Cond.methodLink RL 115 yX4_groupOf, Cond.instanceMethod yX4_groupOf, Cond.selects RX4 yX4_groupOf yX4_groupOf, Cond.code yX4_groupOf cX4_groupOf 2 (some .int), Cond.methodLink RX4 81 yX1_groupAt, Cond.methodLink RL 118 yX4_isAvailable]
def wsL_law_r20 : List Cond := [Cond.instanceMethod yX4_isAvailable, Cond.selects RX4 yX4_isAvailable yX4_isAvailable, Cond.code yX4_isAvailable cX4_isAvailable 3 (some .int), Cond.methodLink RX4 123 yX4_isChannel, Cond.instanceMethod yX4_isChannel, Cond.selects RX4 yX4_isChannel yX4_isChannel, Cond.code yX4_isChannel cX4_isChannel 2 (some .boolean), Cond.methodLink RX4 129 yX4_contains, Cond.methodLink RL 121 yX4_blockingCells, Cond.instanceMethod yX4_blockingCells, Cond.selects RX4 yX4_blockingCells yX4_blockingCells, Cond.code yX4_blockingCells cX4_blockingCells 3 (some .int), Cond.methodLink RL 147 yX4_save, Cond.instanceMethod yX4_save, Cond.selects RX4 yX4_save yX4_save, Cond.code yX4_save cX4_save 3 (some .int)]
def wsL_law : List Cond := (wsL_law_r1 ++ (wsL_law_r2 ++ (wsL_law_r3 ++ (wsL_law_r4 ++ (wsL_law_r5 ++ (wsL_law_r6 ++ (wsL_law_r7 ++ (wsL_law_r8 ++ (wsL_law_r9 ++ (wsL_law_r10 ++ (wsL_law_r11 ++ (wsL_law_r12 ++ (wsL_law_r13 ++ (wsL_law_r14 ++ (wsL_law_r15 ++ (wsL_law_r16 ++ (wsL_law_r17 ++ (wsL_law_r18 ++ (wsL_law_r19 ++ wsL_law_r20))))))))))))))))))) ++ wsX40 ++ wsX10 ++ wsX20 ++ wsX00 ++ wsX30 ++ ([] : List Cond)
theorem inlX0 : ∀ w ∈ wsX00, w ∈ wsL_law := fun _ h => List.mem_append_left _ (List.mem_append_left _ (List.mem_append_right _ h))
theorem inlX1 : ∀ w ∈ wsX10, w ∈ wsL_law := fun _ h => List.mem_append_left _ (List.mem_append_left _ (List.mem_append_left _ (List.mem_append_left _ (List.mem_append_right _ h))))
theorem inlX2 : ∀ w ∈ wsX20, w ∈ wsL_law := fun _ h => List.mem_append_left _ (List.mem_append_left _ (List.mem_append_left _ (List.mem_append_right _ h)))
theorem inlX3 : ∀ w ∈ wsX30, w ∈ wsL_law := fun _ h => List.mem_append_left _ (List.mem_append_right _ h)
theorem inlX4 : ∀ w ∈ wsX40, w ∈ wsL_law := fun _ h => List.mem_append_left _ (List.mem_append_left _ (List.mem_append_left _ (List.mem_append_left _ (List.mem_append_left _ (List.mem_append_right _ h)))))
abbrev vwCl : List vw_C := [(RX0, TX0, 3), (RX1, TX1, 8), (RX2, TX2, 15), (RX3, TX3, 7), (RX4, TX4, 4)]
