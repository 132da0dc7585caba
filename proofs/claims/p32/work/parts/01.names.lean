/-! ===== BEGIN words of one list among another's, by their places ===== -/
theorem goodIn_r {big : List Cond} (ws : List Cond) (ps : List Nat) (hp : ws = ps.filterMap (fun i => big[i]?)) (h : ws.all goodWord = true) : GoodIn big ws := by
  intro w hw
  have h1 := List.all_eq_true.mp h w hw
  rw [hp] at hw
  obtain ⟨i, -, hi⟩ := List.mem_filterMap.mp hw
  have hm : w ∈ big := by first | exact List.mem_of_getElem? hi | exact List.getElem?_mem hi
  exact ⟨hm, good_of_word h1⟩
theorem goodIn_app {big a b : List Cond} (ha : GoodIn big a) (hb : GoodIn big b) : GoodIn big (a ++ b) := fun w h => (List.mem_append.mp h).elim (ha w) (hb w)
theorem goodIn_ca {big a b : List Cond} {c : Cond} (ha : GoodIn big (c :: a)) (hb : GoodIn big b) : GoodIn big (c :: (a ++ b)) := fun w h => (List.mem_cons.mp h).elim (fun e => ha w (List.mem_cons.mpr (Or.inl e))) (fun h => (List.mem_append.mp h).elim (fun h => ha w (List.mem_cons.mpr (Or.inr h))) (hb w))
theorem goodIn_sub {big ws : List Cond} (hm : ∀ w ∈ ws, w ∈ big) (h : ws.all goodWord = true) : GoodIn big ws := fun w hw => ⟨hm w hw, good_of_word (List.all_eq_true.mp h w hw)⟩
/-! ===== END ===== -/

/-! ===== BEGIN printed: names, fields, word lists, decode rows ===== -/
def RX0 : String := "ShadowTable$Copy"
def TX0 : u_T := fun k => match k with
  | 0 => ("ShadowTable$Copy", "shadow", "LShadowTable$Rows;", true)
  | 1 => ("ShadowTable$Copy", "log", "LShadowTable$Log;", true)
  | 2 => ("ShadowTable$Copy", "phase", "I", false)
  | 3 => ("ShadowTable$Copy", "kind", "I", false)
  | 4 => ("ShadowTable$Copy", "lot", "I", false)
  | 5 => ("ShadowTable$Copy", "cursor", "I", false)
  | _ => ("ShadowTable$Copy", "age", "I", false)
def tyX0 : Nat → FieldType := fun k => match k with
  | 0 => .object "ShadowTable$Rows"
  | 1 => .object "ShadowTable$Log"
  | 2 => .int
  | 3 => .int
  | 4 => .int
  | 5 => .int
  | _ => .int
abbrev wsX00 : List Cond := u_ws RX0 TX0 7
theorem nmX0 : ∀ a, a < 7 → ∀ b, b < 7 → a ≠ b → (TX0 a).2.1 ≠ (TX0 b).2.1 := by decide +kernel
theorem tyX0_ok : ∀ k, k < 7 → parseFieldDescriptor (TX0 k).2.2.1 = some (tyX0 k) := by decide +kernel
abbrev cX0_init : ByteArray := prog_2_method_1_code
def yX0_init : MethodName := ⟨RX0, "<init>", "()V"⟩
abbrev cX0_start : ByteArray := prog_2_method_2_code
def yX0_start : MethodName := ⟨RX0, "start", "(II)V"⟩
abbrev cX0_take : ByteArray := prog_2_method_3_code
def yX0_take : MethodName := ⟨RX0, "take", "(LShadowTable$Copy;)V"⟩
abbrev cX0_copyKey : ByteArray := prog_2_method_4_code
def yX0_copyKey : MethodName := ⟨RX0, "copyKey", "(II)Z"⟩
abbrev cX0_tell : ByteArray := prog_2_method_5_code
def yX0_tell : MethodName := ⟨RX0, "tell", "(I)I"⟩
def RX1 : String := "ShadowTable$History"
def TX1 : u_T := fun k => match k with
  | 0 => ("ShadowTable$History", "slots", "[LShadowTable$State;", true)
  | 1 => ("ShadowTable$History", "start", "I", false)
  | _ => ("ShadowTable$History", "count", "I", false)
def tyX1 : Nat → FieldType := fun k => match k with
  | 0 => .array (.object "ShadowTable$State")
  | 1 => .int
  | _ => .int
abbrev wsX10 : List Cond := u_ws RX1 TX1 3
theorem nmX1 : ∀ a, a < 3 → ∀ b, b < 3 → a ≠ b → (TX1 a).2.1 ≠ (TX1 b).2.1 := by decide +kernel
theorem tyX1_ok : ∀ k, k < 3 → parseFieldDescriptor (TX1 k).2.2.1 = some (tyX1 k) := by decide +kernel
abbrev cX1_init : ByteArray := prog_3_method_1_code
def yX1_init : MethodName := ⟨RX1, "<init>", "()V"⟩
abbrev cX1_prepare : ByteArray := prog_3_method_2_code
def yX1_prepare : MethodName := ⟨RX1, "prepare", "(LShadowTable$State;)V"⟩
abbrev cX1_keepPrepared : ByteArray := prog_3_method_3_code
def yX1_keepPrepared : MethodName := ⟨RX1, "keepPrepared", "()V"⟩
abbrev cX1_takeBack : ByteArray := prog_3_method_4_code
def yX1_takeBack : MethodName := ⟨RX1, "takeBack", "(LShadowTable$State;)I"⟩
abbrev cX1_slotOf : ByteArray := prog_3_method_5_code
def yX1_slotOf : MethodName := ⟨RX1, "slotOf", "(I)I"⟩
def RX2 : String := "ShadowTable$Log"
def TX2 : u_T := fun k => match k with
  | 0 => ("ShadowTable$Log", "keys", "[I", true)
  | 1 => ("ShadowTable$Log", "values", "[I", true)
  | 2 => ("ShadowTable$Log", "start", "I", false)
  | _ => ("ShadowTable$Log", "size", "I", false)
def tyX2 : Nat → FieldType := fun k => match k with
  | 0 => .array .int
  | 1 => .array .int
  | 2 => .int
  | _ => .int
abbrev wsX20 : List Cond := u_ws RX2 TX2 4
theorem nmX2 : ∀ a, a < 4 → ∀ b, b < 4 → a ≠ b → (TX2 a).2.1 ≠ (TX2 b).2.1 := by decide +kernel
theorem tyX2_ok : ∀ k, k < 4 → parseFieldDescriptor (TX2 k).2.2.1 = some (tyX2 k) := by decide +kernel
abbrev cX2_init : ByteArray := prog_4_method_1_code
def yX2_init : MethodName := ⟨RX2, "<init>", "()V"⟩
abbrev cX2_removeAll : ByteArray := prog_4_method_2_code
def yX2_removeAll : MethodName := ⟨RX2, "removeAll", "()V"⟩
abbrev cX2_take : ByteArray := prog_4_method_3_code
def yX2_take : MethodName := ⟨RX2, "take", "(LShadowTable$Log;)V"⟩
abbrev cX2_add : ByteArray := prog_4_method_4_code
def yX2_add : MethodName := ⟨RX2, "add", "(II)Z"⟩
abbrev cX2_removeFirst : ByteArray := prog_4_method_5_code
def yX2_removeFirst : MethodName := ⟨RX2, "removeFirst", "()V"⟩
abbrev cX2_keyAt : ByteArray := prog_4_method_6_code
def yX2_keyAt : MethodName := ⟨RX2, "keyAt", "(I)I"⟩
abbrev cX2_valueAt : ByteArray := prog_4_method_7_code
def yX2_valueAt : MethodName := ⟨RX2, "valueAt", "(I)I"⟩
abbrev cX2_slotOf : ByteArray := prog_4_method_8_code
def yX2_slotOf : MethodName := ⟨RX2, "slotOf", "(I)I"⟩
def RX3 : String := "ShadowTable$Rows"
def TX3 : u_T := fun k => match k with
  | _ => ("ShadowTable$Rows", "values", "[I", true)
def tyX3 : Nat → FieldType := fun k => match k with
  | _ => .array .int
abbrev wsX30 : List Cond := u_ws RX3 TX3 1
theorem nmX3 : ∀ a, a < 1 → ∀ b, b < 1 → a ≠ b → (TX3 a).2.1 ≠ (TX3 b).2.1 := by decide +kernel
theorem tyX3_ok : ∀ k, k < 1 → parseFieldDescriptor (TX3 k).2.2.1 = some (tyX3 k) := by decide +kernel
abbrev cX3_init : ByteArray := prog_5_method_1_code
def yX3_init : MethodName := ⟨RX3, "<init>", "()V"⟩
abbrev cX3_at : ByteArray := prog_5_method_2_code
def yX3_at : MethodName := ⟨RX3, "at", "(I)I"⟩
abbrev cX3_place : ByteArray := prog_5_method_3_code
def yX3_place : MethodName := ⟨RX3, "place", "(II)V"⟩
abbrev cX3_removeAll : ByteArray := prog_5_method_4_code
def yX3_removeAll : MethodName := ⟨RX3, "removeAll", "()V"⟩
abbrev cX3_take : ByteArray := prog_5_method_5_code
def yX3_take : MethodName := ⟨RX3, "take", "(LShadowTable$Rows;)V"⟩
abbrev cX3_tell : ByteArray := prog_5_method_6_code
def yX3_tell : MethodName := ⟨RX3, "tell", "(I)I"⟩
abbrev cX3_count : ByteArray := prog_5_method_7_code
def yX3_count : MethodName := ⟨RX3, "count", "()I"⟩
abbrev cX3_sum : ByteArray := prog_5_method_8_code
def yX3_sum : MethodName := ⟨RX3, "sum", "()I"⟩
abbrev cX3_leastKey : ByteArray := prog_5_method_9_code
def yX3_leastKey : MethodName := ⟨RX3, "leastKey", "()I"⟩
abbrev cX3_greatestKey : ByteArray := prog_5_method_10_code
def yX3_greatestKey : MethodName := ⟨RX3, "greatestKey", "()I"⟩
def RX4 : String := "ShadowTable$Script"
def TX4 : u_T := fun k => match k with
  | 0 => ("ShadowTable$Script", "characters", "[I", true)
  | 1 => ("ShadowTable$Script", "length", "I", false)
  | 2 => ("ShadowTable$Script", "position", "I", false)
  | 3 => ("ShadowTable$Script", "number", "I", false)
  | 4 => ("ShadowTable$Script", "order", "I", false)
  | 5 => ("ShadowTable$Script", "first", "I", false)
  | _ => ("ShadowTable$Script", "second", "I", false)
def tyX4 : Nat → FieldType := fun k => match k with
  | 0 => .array .int
  | 1 => .int
  | 2 => .int
  | 3 => .int
  | 4 => .int
  | 5 => .int
  | _ => .int
abbrev wsX40 : List Cond := u_ws RX4 TX4 7
theorem nmX4 : ∀ a, a < 7 → ∀ b, b < 7 → a ≠ b → (TX4 a).2.1 ≠ (TX4 b).2.1 := by decide +kernel
theorem tyX4_ok : ∀ k, k < 7 → parseFieldDescriptor (TX4 k).2.2.1 = some (tyX4 k) := by decide +kernel
abbrev cX4_init : ByteArray := prog_6_method_1_code
def yX4_init : MethodName := ⟨RX4, "<init>", "()V"⟩
def RX5 : String := "ShadowTable$State"
def TX5 : u_T := fun k => match k with
  | 0 => ("ShadowTable$State", "live", "LShadowTable$Rows;", true)
  | 1 => ("ShadowTable$State", "old", "LShadowTable$Rows;", true)
  | 2 => ("ShadowTable$State", "hasOld", "Z", false)
  | 3 => ("ShadowTable$State", "copy", "LShadowTable$Copy;", true)
  | 4 => ("ShadowTable$State", "settings", "[I", true)
  | _ => ("ShadowTable$State", "totals", "[I", true)
def tyX5 : Nat → FieldType := fun k => match k with
  | 0 => .object "ShadowTable$Rows"
  | 1 => .object "ShadowTable$Rows"
  | 2 => .boolean
  | 3 => .object "ShadowTable$Copy"
  | 4 => .array .int
  | _ => .array .int
abbrev wsX50 : List Cond := u_ws RX5 TX5 6
theorem nmX5 : ∀ a, a < 6 → ∀ b, b < 6 → a ≠ b → (TX5 a).2.1 ≠ (TX5 b).2.1 := by decide +kernel
theorem tyX5_ok : ∀ k, k < 6 → parseFieldDescriptor (TX5 k).2.2.1 = some (tyX5 k) := by decide +kernel
abbrev cX5_init : ByteArray := prog_7_method_1_code
def yX5_init : MethodName := ⟨RX5, "<init>", "()V"⟩
abbrev cX5_take : ByteArray := prog_7_method_2_code
def yX5_take : MethodName := ⟨RX5, "take", "(LShadowTable$State;)V"⟩
abbrev cX5_putRow : ByteArray := prog_7_method_3_code
def yX5_putRow : MethodName := ⟨RX5, "putRow", "(II)I"⟩
abbrev cX5_eraseRow : ByteArray := prog_7_method_4_code
def yX5_eraseRow : MethodName := ⟨RX5, "eraseRow", "(I)I"⟩
abbrev cX5_changeRow : ByteArray := prog_7_method_5_code
def yX5_changeRow : MethodName := ⟨RX5, "changeRow", "(II)I"⟩
abbrev cX5_beginCopy : ByteArray := prog_7_method_6_code
def yX5_beginCopy : MethodName := ⟨RX5, "beginCopy", "(II)I"⟩
abbrev cX5_makeTicks : ByteArray := prog_7_method_7_code
def yX5_makeTicks : MethodName := ⟨RX5, "makeTicks", "(I)I"⟩
abbrev cX5_makeTick : ByteArray := prog_7_method_8_code
def yX5_makeTick : MethodName := ⟨RX5, "makeTick", "()V"⟩
abbrev cX5_lockRunsOut : ByteArray := prog_7_method_9_code
def yX5_lockRunsOut : MethodName := ⟨RX5, "lockRunsOut", "()Z"⟩
abbrev cX5_applyEntries : ByteArray := prog_7_method_10_code
def yX5_applyEntries : MethodName := ⟨RX5, "applyEntries", "()V"⟩
abbrev cX5_copyLot : ByteArray := prog_7_method_11_code
def yX5_copyLot : MethodName := ⟨RX5, "copyLot", "()V"⟩
abbrev cX5_lockLive : ByteArray := prog_7_method_12_code
def yX5_lockLive : MethodName := ⟨RX5, "lockLive", "()I"⟩
abbrev cX5_unlockLive : ByteArray := prog_7_method_13_code
def yX5_unlockLive : MethodName := ⟨RX5, "unlockLive", "()I"⟩
abbrev cX5_swapTables : ByteArray := prog_7_method_14_code
def yX5_swapTables : MethodName := ⟨RX5, "swapTables", "()I"⟩
abbrev cX5_giveCopyUp : ByteArray := prog_7_method_15_code
def yX5_giveCopyUp : MethodName := ⟨RX5, "giveCopyUp", "()I"⟩
abbrev cX5_endGivenUp : ByteArray := prog_7_method_16_code
def yX5_endGivenUp : MethodName := ⟨RX5, "endGivenUp", "()V"⟩
abbrev cX5_changeSetting : ByteArray := prog_7_method_17_code
def yX5_changeSetting : MethodName := ⟨RX5, "changeSetting", "(II)I"⟩
abbrev cX5_hasCopy : ByteArray := prog_7_method_18_code
def yX5_hasCopy : MethodName := ⟨RX5, "hasCopy", "()Z"⟩
abbrev cX5_rowsOf : ByteArray := prog_7_method_19_code
def yX5_rowsOf : MethodName := ⟨RX5, "rowsOf", "(I)LShadowTable$Rows;"⟩
abbrev cX5_differsAt : ByteArray := prog_7_method_20_code
def yX5_differsAt : MethodName := ⟨RX5, "differsAt", "(I)Z"⟩
abbrev cX5_canBecomeReady : ByteArray := prog_7_method_21_code
def yX5_canBecomeReady : MethodName := ⟨RX5, "canBecomeReady", "()Z"⟩
abbrev cX5_ticksUntilReady : ByteArray := prog_7_method_22_code
def yX5_ticksUntilReady : MethodName := ⟨RX5, "ticksUntilReady", "(I)I"⟩
def RX6 : String := "ShadowTable"
def TX6 : u_T := fun k => match k with
  | 0 => ("ShadowTable", "state", "LShadowTable$State;", true)
  | 1 => ("ShadowTable", "snapshot", "LShadowTable$State;", true)
  | 2 => ("ShadowTable", "trial", "LShadowTable$State;", true)
  | 3 => ("ShadowTable", "history", "LShadowTable$History;", true)
  | 4 => ("ShadowTable", "script", "LShadowTable$Script;", true)
  | _ => ("ShadowTable", "hasSnapshot", "Z", false)
def tyX6 : Nat → FieldType := fun k => match k with
  | 0 => .object "ShadowTable$State"
  | 1 => .object "ShadowTable$State"
  | 2 => .object "ShadowTable$State"
  | 3 => .object "ShadowTable$History"
  | 4 => .object "ShadowTable$Script"
  | _ => .boolean
abbrev wsX60 : List Cond := u_ws RX6 TX6 6
theorem nmX6 : ∀ a, a < 6 → ∀ b, b < 6 → a ≠ b → (TX6 a).2.1 ≠ (TX6 b).2.1 := by decide +kernel
theorem tyX6_ok : ∀ k, k < 6 → parseFieldDescriptor (TX6 k).2.2.1 = some (tyX6 k) := by decide +kernel
abbrev cX6_init : ByteArray := prog_1_method_1_code
def yX6_init : MethodName := ⟨RX6, "<init>", "()V"⟩
abbrev cX6_put : ByteArray := prog_1_method_2_code
def yX6_put : MethodName := ⟨RX6, "put", "(II)I"⟩
abbrev cX6_erase : ByteArray := prog_1_method_3_code
def yX6_erase : MethodName := ⟨RX6, "erase", "(I)I"⟩
abbrev cX6_begin : ByteArray := prog_1_method_4_code
def yX6_begin : MethodName := ⟨RX6, "begin", "(II)I"⟩
abbrev cX6_tick : ByteArray := prog_1_method_5_code
def yX6_tick : MethodName := ⟨RX6, "tick", "(I)I"⟩
abbrev cX6_lock : ByteArray := prog_1_method_6_code
def yX6_lock : MethodName := ⟨RX6, "lock", "()I"⟩
abbrev cX6_unlock : ByteArray := prog_1_method_7_code
def yX6_unlock : MethodName := ⟨RX6, "unlock", "()I"⟩
abbrev cX6_swap : ByteArray := prog_1_method_8_code
def yX6_swap : MethodName := ⟨RX6, "swap", "()I"⟩
abbrev cX6_giveUp : ByteArray := prog_1_method_9_code
def yX6_giveUp : MethodName := ⟨RX6, "giveUp", "()I"⟩
abbrev cX6_set : ByteArray := prog_1_method_10_code
def yX6_set : MethodName := ⟨RX6, "set", "(II)I"⟩
abbrev cX6_undo : ByteArray := prog_1_method_15_code
def yX6_undo : MethodName := ⟨RX6, "undo", "()I"⟩
abbrev cX6_value : ByteArray := prog_1_method_18_code
def yX6_value : MethodName := ⟨RX6, "value", "(II)I"⟩
abbrev cX6_table : ByteArray := prog_1_method_19_code
def yX6_table : MethodName := ⟨RX6, "table", "(II)I"⟩
abbrev cX6_copy : ByteArray := prog_1_method_20_code
def yX6_copy : MethodName := ⟨RX6, "copy", "(I)I"⟩
abbrev cX6_entry : ByteArray := prog_1_method_21_code
def yX6_entry : MethodName := ⟨RX6, "entry", "(II)I"⟩
abbrev cX6_changed : ByteArray := prog_1_method_22_code
def yX6_changed : MethodName := ⟨RX6, "changed", "(III)I"⟩
abbrev cX6_differences : ByteArray := prog_1_method_23_code
def yX6_differences : MethodName := ⟨RX6, "differences", "()I"⟩
abbrev cX6_firstDifference : ByteArray := prog_1_method_24_code
def yX6_firstDifference : MethodName := ⟨RX6, "firstDifference", "()I"⟩
abbrev cX6_setting : ByteArray := prog_1_method_25_code
def yX6_setting : MethodName := ⟨RX6, "setting", "(I)I"⟩
abbrev cX6_total : ByteArray := prog_1_method_26_code
def yX6_total : MethodName := ⟨RX6, "total", "(I)I"⟩
abbrev cX6_readyIn : ByteArray := prog_1_method_28_code
def yX6_readyIn : MethodName := ⟨RX6, "readyIn", "()I"⟩
abbrev cX6_leastLot : ByteArray := prog_1_method_29_code
def yX6_leastLot : MethodName := ⟨RX6, "leastLot", "(I)I"⟩
abbrev cX6_progress : ByteArray := prog_1_method_30_code
def yX6_progress : MethodName := ⟨RX6, "progress", "()D"⟩
abbrev cX6_recorded : ByteArray := prog_1_method_31_code
def yX6_recorded : MethodName := ⟨RX6, "recorded", "(I)I"⟩
abbrev cX6_isError : ByteArray := prog_1_method_33_code
def yX6_isError : MethodName := ⟨RX6, "isError", "(I)Z"⟩
abbrev cX6_isIn : ByteArray := prog_1_method_34_code
def yX6_isIn : MethodName := ⟨RX6, "isIn", "(III)Z"⟩
abbrev cX6_isKey : ByteArray := prog_1_method_35_code
def yX6_isKey : MethodName := ⟨RX6, "isKey", "(I)Z"⟩
abbrev cX6_isValue : ByteArray := prog_1_method_36_code
def yX6_isValue : MethodName := ⟨RX6, "isValue", "(I)Z"⟩
abbrev cX6_isKind : ByteArray := prog_1_method_37_code
def yX6_isKind : MethodName := ⟨RX6, "isKind", "(I)Z"⟩
abbrev cX6_isLot : ByteArray := prog_1_method_38_code
def yX6_isLot : MethodName := ⟨RX6, "isLot", "(I)Z"⟩
abbrev cX6_isTicks : ByteArray := prog_1_method_39_code
def yX6_isTicks : MethodName := ⟨RX6, "isTicks", "(I)Z"⟩
abbrev cX6_isTable : ByteArray := prog_1_method_40_code
def yX6_isTable : MethodName := ⟨RX6, "isTable", "(I)Z"⟩
abbrev cX6_isSetting : ByteArray := prog_1_method_41_code
def yX6_isSetting : MethodName := ⟨RX6, "isSetting", "(I)Z"⟩
abbrev cX6_changedValue : ByteArray := prog_1_method_42_code
def yX6_changedValue : MethodName := ⟨RX6, "changedValue", "(III)I"⟩
def RX7 : String := "ShadowTableModel"
def TX7 : u_T := fun k => match k with
  | _ => ("", "", "", false)
def tyX7 : Nat → FieldType := fun k => match k with
  | _ => .int
abbrev wsX70 : List Cond := u_ws RX7 TX7 0
theorem nmX7 : ∀ a, a < 0 → ∀ b, b < 0 → a ≠ b → (TX7 a).2.1 ≠ (TX7 b).2.1 := by decide +kernel
theorem tyX7_ok : ∀ k, k < 0 → parseFieldDescriptor (TX7 k).2.2.1 = some (tyX7 k) := by decide +kernel
def RJ10 : String := "java/lang/System"
def TJ10 : u_T := fun k => match k with
  | _ => ("", "", "", false)
def tyJ10 : Nat → FieldType := fun k => match k with
  | _ => .int
abbrev wsJ100 : List Cond := u_ws RJ10 TJ10 0
theorem nmJ10 : ∀ a, a < 0 → ∀ b, b < 0 → a ≠ b → (TJ10 a).2.1 ≠ (TJ10 b).2.1 := by decide +kernel
theorem tyJ10_ok : ∀ k, k < 0 → parseFieldDescriptor (TJ10 k).2.2.1 = some (tyJ10 k) := by decide +kernel
def RJ7 : String := "java/util/Arrays"
def TJ7 : u_T := fun k => match k with
  | _ => ("", "", "", false)
def tyJ7 : Nat → FieldType := fun k => match k with
  | _ => .int
abbrev wsJ70 : List Cond := u_ws RJ7 TJ7 0
theorem nmJ7 : ∀ a, a < 0 → ∀ b, b < 0 → a ≠ b → (TJ7 a).2.1 ≠ (TJ7 b).2.1 := by decide +kernel
theorem tyJ7_ok : ∀ k, k < 0 → parseFieldDescriptor (TJ7 k).2.2.1 = some (tyJ7 k) := by decide +kernel
abbrev cJ7_fill_53178 : ByteArray := prog_11_method_103_code
def yJ7_fill_53178 : MethodName := ⟨RJ7, "fill", "([II)V"⟩
def RL : String := "ShadowTableLaw"
abbrev cL_cell : ByteArray := method_2_code
def yL_cell : MethodName := ⟨RL, "cell", "([II)I"⟩
abbrev cL_low : ByteArray := method_3_code
def yL_low : MethodName := ⟨RL, "low", "(II)I"⟩
abbrev cL_due : ByteArray := method_4_code
def yL_due : MethodName := ⟨RL, "due", "(LShadowTable;I)I"⟩
abbrev cL_holds : ByteArray := method_5_code
def yL_holds : MethodName := ⟨RL, "holds", "(LShadowTable;)Z"⟩
abbrev cL_tale : ByteArray := method_6_code
def yL_tale : MethodName := ⟨RL, "tale", "(LShadowTable;)J"⟩
abbrev cL_ticks : ByteArray := method_7_code
def yL_ticks : MethodName := ⟨RL, "ticks", "(LShadowTable;I)Z"⟩
abbrev cL_readySo : ByteArray := method_8_code
def yL_readySo : MethodName := ⟨RL, "readySo", "(LShadowTable;I)Z"⟩
abbrev cL_swaps : ByteArray := method_9_code
def yL_swaps : MethodName := ⟨RL, "swaps", "(LShadowTable;)Z"⟩
abbrev cL_changes : ByteArray := method_10_code
def yL_changes : MethodName := ⟨RL, "changes", "(LShadowTable;II)Z"⟩
abbrev cL_act : ByteArray := method_11_code
def yL_act : MethodName := ⟨RL, "act", "(LShadowTable;II)Z"⟩
abbrev cL_law : ByteArray := code
def yL_law : MethodName := ⟨RL, "law", "([I)Z"⟩
def wsJ7_fill_53178 : List Cond := .code yJ7_fill_53178 cJ7_fill_53178 4 none :: ([])
def wsX3_init : List Cond := .code yX3_init cX3_init 1 none :: ([.methodLink RX3 3 objectInit, .instanceMethod objectInit, .code objectInit ⟨#[0xb1]⟩ 1 none, .arrayClass .int, .fieldLink RX3 9 "ShadowTable$Rows" "values" "[I", .methodLink RX3 15 yJ7_fill_53178, .static yJ7_fill_53178, .initialized RJ7, .code yJ7_fill_53178 cJ7_fill_53178 4 none] ++ wsX30)
def wsX2_init : List Cond := .code yX2_init cX2_init 1 none :: ([.methodLink RX2 3 objectInit, .instanceMethod objectInit, .code objectInit ⟨#[0xb1]⟩ 1 none, .arrayClass .int, .fieldLink RX2 9 "ShadowTable$Log" "keys" "[I", .fieldLink RX2 15 "ShadowTable$Log" "values" "[I"] ++ wsX20)
def wsX0_init_r1 : List Cond := [Cond.methodLink RX0 3 objectInit, Cond.instanceMethod objectInit, Cond.code objectInit ⟨#[0xb1]⟩ 1 none, Cond.classLink RX0 9 RX3, Cond.instantiable RX3 1, Cond.initialized RX3, Cond.fieldLink RX0 12 "ShadowTable$Copy" "shadow" "LShadowTable$Rows;", Cond.classLink RX0 18 RX2, Cond.instantiable RX2 4, Cond.initialized RX2, Cond.fieldLink RX0 21 "ShadowTable$Copy" "log" "LShadowTable$Log;", Cond.fieldLink RX0 25 "ShadowTable$Copy" "phase" "I", Cond.methodLink RX0 11 yX3_init, Cond.instanceMethod yX3_init, Cond.code yX3_init cX3_init 1 none, Cond.methodLink RX3 3 objectInit, Cond.arrayClass .int, Cond.fieldLink RX3 9 "ShadowTable$Rows" "values" "[I", Cond.methodLink RX3 15 yJ7_fill_53178, Cond.static yJ7_fill_53178, Cond.initialized RJ7, Cond.code yJ7_fill_53178 cJ7_fill_53178 4 none, Cond.instanceMethod yX2_init, Cond.code yX2_init cX2_init 1 none]
def wsX0_init_r2 : List Cond := [Cond.methodLink RX2 3 objectInit, Cond.fieldLink RX2 9 "ShadowTable$Log" "keys" "[I", Cond.fieldLink RX2 15 "ShadowTable$Log" "values" "[I"]
def wsX0_init : List Cond := .code yX0_init cX0_init 1 none :: ((wsX0_init_r1 ++ wsX0_init_r2) ++ wsX30 ++ wsX00 ++ wsX20)
def wsX3_removeAll : List Cond := .code yX3_removeAll cX3_removeAll 1 none :: ([.fieldLink RX3 9 "ShadowTable$Rows" "values" "[I", .methodLink RX3 15 yJ7_fill_53178, .static yJ7_fill_53178, .initialized RJ7, .code yJ7_fill_53178 cJ7_fill_53178 4 none] ++ wsX30)
def wsX2_removeAll : List Cond := .code yX2_removeAll cX2_removeAll 1 none :: ([.fieldLink RX2 18 "ShadowTable$Log" "start" "I", .fieldLink RX2 22 "ShadowTable$Log" "size" "I"] ++ wsX20)
def wsX0_start : List Cond := .code yX0_start cX0_start 3 none :: ([.fieldLink RX0 12 "ShadowTable$Copy" "shadow" "LShadowTable$Rows;", .fieldLink RX0 21 "ShadowTable$Copy" "log" "LShadowTable$Log;", .fieldLink RX0 25 "ShadowTable$Copy" "phase" "I", .fieldLink RX0 33 "ShadowTable$Copy" "kind" "I", .fieldLink RX0 36 "ShadowTable$Copy" "lot" "I", .fieldLink RX0 39 "ShadowTable$Copy" "cursor" "I", .methodLink RX0 29 yX3_removeAll, .instanceMethod yX3_removeAll, .selects RX3 yX3_removeAll yX3_removeAll, .initialized RX3, .code yX3_removeAll cX3_removeAll 1 none, .fieldLink RX3 9 "ShadowTable$Rows" "values" "[I", .methodLink RX3 15 yJ7_fill_53178, .static yJ7_fill_53178, .initialized RJ7, .code yJ7_fill_53178 cJ7_fill_53178 4 none, .methodLink RX0 32 yX2_removeAll, .instanceMethod yX2_removeAll, .selects RX2 yX2_removeAll yX2_removeAll, .initialized RX2, .code yX2_removeAll cX2_removeAll 1 none, .fieldLink RX2 18 "ShadowTable$Log" "start" "I", .fieldLink RX2 22 "ShadowTable$Log" "size" "I"] ++ wsX00 ++ wsX30 ++ wsX20)
def wsX3_take : List Cond := .code yX3_take cX3_take 2 none :: ([.fieldLink RX3 9 "ShadowTable$Rows" "values" "[I", .methodLink RX3 21 arraycopyName, .native arraycopyName, .static arraycopyName, .initialized "java/lang/System"] ++ wsX30)
def wsX2_take : List Cond := .code yX2_take cX2_take 2 none :: ([.fieldLink RX2 9 "ShadowTable$Log" "keys" "[I", .methodLink RX2 25 arraycopyName, .native arraycopyName, .static arraycopyName, .initialized "java/lang/System", .fieldLink RX2 15 "ShadowTable$Log" "values" "[I", .fieldLink RX2 18 "ShadowTable$Log" "start" "I", .fieldLink RX2 22 "ShadowTable$Log" "size" "I"] ++ wsX20)
def wsX0_take_r1 : List Cond := [Cond.fieldLink RX0 12 "ShadowTable$Copy" "shadow" "LShadowTable$Rows;", Cond.fieldLink RX0 21 "ShadowTable$Copy" "log" "LShadowTable$Log;", Cond.fieldLink RX0 25 "ShadowTable$Copy" "phase" "I", Cond.fieldLink RX0 33 "ShadowTable$Copy" "kind" "I", Cond.fieldLink RX0 36 "ShadowTable$Copy" "lot" "I", Cond.fieldLink RX0 39 "ShadowTable$Copy" "cursor" "I", Cond.fieldLink RX0 49 "ShadowTable$Copy" "age" "I", Cond.methodLink RX0 42 yX3_take, Cond.instanceMethod yX3_take, Cond.selects RX3 yX3_take yX3_take, Cond.initialized RX3, Cond.code yX3_take cX3_take 2 none, Cond.fieldLink RX3 9 "ShadowTable$Rows" "values" "[I", Cond.methodLink RX3 21 arraycopyName, Cond.native arraycopyName, Cond.static arraycopyName, Cond.initialized "java/lang/System", Cond.methodLink RX0 46 yX2_take, Cond.instanceMethod yX2_take, Cond.selects RX2 yX2_take yX2_take, Cond.initialized RX2, Cond.code yX2_take cX2_take 2 none, Cond.fieldLink RX2 9 "ShadowTable$Log" "keys" "[I", Cond.methodLink RX2 25 arraycopyName]
def wsX0_take_r2 : List Cond := [Cond.fieldLink RX2 15 "ShadowTable$Log" "values" "[I", Cond.fieldLink RX2 18 "ShadowTable$Log" "start" "I", Cond.fieldLink RX2 22 "ShadowTable$Log" "size" "I"]
def wsX0_take : List Cond := .code yX0_take cX0_take 2 none :: ((wsX0_take_r1 ++ wsX0_take_r2) ++ wsX00 ++ wsX30 ++ wsX20)
def wsX6_changedValue : List Cond := .code yX6_changedValue cX6_changedValue 3 (some .int) :: ([])
def wsX3_at : List Cond := .code yX3_at cX3_at 2 (some .int) :: ([.fieldLink RX3 9 "ShadowTable$Rows" "values" "[I"] ++ wsX30)
def wsX3_place : List Cond := .code yX3_place cX3_place 3 none :: ([.fieldLink RX3 9 "ShadowTable$Rows" "values" "[I"] ++ wsX30)
def wsX0_copyKey : List Cond := .code yX0_copyKey cX0_copyKey 4 (some .boolean) :: ([.fieldLink RX0 39 "ShadowTable$Copy" "cursor" "I", .fieldLink RX0 33 "ShadowTable$Copy" "kind" "I", .fieldLink RX0 12 "ShadowTable$Copy" "shadow" "LShadowTable$Rows;", .static yX6_changedValue, .initialized RX6, .code yX6_changedValue cX6_changedValue 3 (some .int), .methodLink RX0 56 yX3_at, .instanceMethod yX3_at, .selects RX3 yX3_at yX3_at, .initialized RX3, .code yX3_at cX3_at 2 (some .int), .fieldLink RX3 9 "ShadowTable$Rows" "values" "[I", .methodLink RX0 60 yX3_place, .instanceMethod yX3_place, .selects RX3 yX3_place yX3_place, .code yX3_place cX3_place 3 none] ++ wsX00 ++ wsX30)
def wsX0_tell : List Cond := .code yX0_tell cX0_tell 2 (some .int) :: ([.fieldLink RX0 25 "ShadowTable$Copy" "phase" "I", .fieldLink RX0 49 "ShadowTable$Copy" "age" "I", .fieldLink RX0 33 "ShadowTable$Copy" "kind" "I", .fieldLink RX0 36 "ShadowTable$Copy" "lot" "I", .fieldLink RX0 39 "ShadowTable$Copy" "cursor" "I", .fieldLink RX0 21 "ShadowTable$Copy" "log" "LShadowTable$Log;"] ++ wsX00 ++ wsX20)
def wsX5_init_r1 : List Cond := [Cond.methodLink RX5 3 objectInit, Cond.instanceMethod objectInit, Cond.code objectInit ⟨#[0xb1]⟩ 1 none, Cond.classLink RX5 9 RX3, Cond.instantiable RX3 1, Cond.initialized RX3, Cond.fieldLink RX5 12 "ShadowTable$State" "live" "LShadowTable$Rows;", Cond.fieldLink RX5 18 "ShadowTable$State" "old" "LShadowTable$Rows;", Cond.classLink RX5 21 RX0, Cond.instantiable RX0 7, Cond.initialized RX0, Cond.fieldLink RX5 24 "ShadowTable$State" "copy" "LShadowTable$Copy;", Cond.arrayClass .int, Cond.fieldLink RX5 28 "ShadowTable$State" "settings" "[I", Cond.fieldLink RX5 32 "ShadowTable$State" "totals" "[I", Cond.methodLink RX5 11 yX3_init, Cond.instanceMethod yX3_init, Cond.code yX3_init cX3_init 1 none, Cond.methodLink RX3 3 objectInit, Cond.fieldLink RX3 9 "ShadowTable$Rows" "values" "[I", Cond.methodLink RX3 15 yJ7_fill_53178, Cond.static yJ7_fill_53178, Cond.initialized RJ7, Cond.code yJ7_fill_53178 cJ7_fill_53178 4 none]
def wsX5_init_r2 : List Cond := [Cond.instanceMethod yX0_init, Cond.code yX0_init cX0_init 1 none, Cond.methodLink RX0 3 objectInit, Cond.classLink RX0 9 RX3, Cond.fieldLink RX0 12 "ShadowTable$Copy" "shadow" "LShadowTable$Rows;", Cond.classLink RX0 18 RX2, Cond.instantiable RX2 4, Cond.initialized RX2, Cond.fieldLink RX0 21 "ShadowTable$Copy" "log" "LShadowTable$Log;", Cond.fieldLink RX0 25 "ShadowTable$Copy" "phase" "I", Cond.methodLink RX0 11 yX3_init, Cond.instanceMethod yX2_init, Cond.code yX2_init cX2_init 1 none, Cond.methodLink RX2 3 objectInit, Cond.fieldLink RX2 9 "ShadowTable$Log" "keys" "[I", Cond.fieldLink RX2 15 "ShadowTable$Log" "values" "[I"]
def wsX5_init : List Cond := .code yX5_init cX5_init 1 none :: ((wsX5_init_r1 ++ wsX5_init_r2) ++ wsX30 ++ wsX50 ++ wsX00 ++ wsX20)
def wsX1_init_r1 : List Cond := [Cond.methodLink RX1 3 objectInit, Cond.instanceMethod objectInit, Cond.code objectInit ⟨#[0xb1]⟩ 1 none, Cond.classLink RX1 11 RX5, Cond.fieldLink RX1 13 "ShadowTable$History" "slots" "[LShadowTable$State;", Cond.instantiable RX5 6, Cond.initialized RX5, Cond.instanceMethod yX5_init, Cond.code yX5_init cX5_init 1 none, Cond.methodLink RX5 3 objectInit, Cond.classLink RX5 9 RX3, Cond.instantiable RX3 1, Cond.initialized RX3, Cond.fieldLink RX5 12 "ShadowTable$State" "live" "LShadowTable$Rows;", Cond.fieldLink RX5 18 "ShadowTable$State" "old" "LShadowTable$Rows;", Cond.classLink RX5 21 RX0, Cond.instantiable RX0 7, Cond.initialized RX0, Cond.fieldLink RX5 24 "ShadowTable$State" "copy" "LShadowTable$Copy;", Cond.arrayClass .int, Cond.fieldLink RX5 28 "ShadowTable$State" "settings" "[I", Cond.fieldLink RX5 32 "ShadowTable$State" "totals" "[I", Cond.methodLink RX5 11 yX3_init, Cond.instanceMethod yX3_init]
def wsX1_init_r2 : List Cond := [Cond.code yX3_init cX3_init 1 none, Cond.methodLink RX3 3 objectInit, Cond.fieldLink RX3 9 "ShadowTable$Rows" "values" "[I", Cond.methodLink RX3 15 yJ7_fill_53178, Cond.static yJ7_fill_53178, Cond.initialized RJ7, Cond.code yJ7_fill_53178 cJ7_fill_53178 4 none, Cond.instanceMethod yX0_init, Cond.code yX0_init cX0_init 1 none, Cond.methodLink RX0 3 objectInit, Cond.classLink RX0 9 RX3, Cond.fieldLink RX0 12 "ShadowTable$Copy" "shadow" "LShadowTable$Rows;", Cond.classLink RX0 18 RX2, Cond.instantiable RX2 4, Cond.initialized RX2, Cond.fieldLink RX0 21 "ShadowTable$Copy" "log" "LShadowTable$Log;", Cond.fieldLink RX0 25 "ShadowTable$Copy" "phase" "I", Cond.methodLink RX0 11 yX3_init, Cond.instanceMethod yX2_init, Cond.code yX2_init cX2_init 1 none, Cond.methodLink RX2 3 objectInit, Cond.fieldLink RX2 9 "ShadowTable$Log" "keys" "[I", Cond.fieldLink RX2 15 "ShadowTable$Log" "values" "[I"]
def wsX1_init : List Cond := .code yX1_init cX1_init 2 none :: ((wsX1_init_r1 ++ wsX1_init_r2) ++ wsX10 ++ wsX50 ++ wsX30 ++ wsX00 ++ wsX20)
def wsX1_slotOf : List Cond := .code yX1_slotOf cX1_slotOf 2 (some .int) :: ([.fieldLink RX1 30 "ShadowTable$History" "start" "I"] ++ wsX10)
def wsX5_take_r1 : List Cond := [Cond.fieldLink RX5 12 "ShadowTable$State" "live" "LShadowTable$Rows;", Cond.fieldLink RX5 18 "ShadowTable$State" "old" "LShadowTable$Rows;", Cond.fieldLink RX5 39 "ShadowTable$State" "hasOld" "Z", Cond.fieldLink RX5 24 "ShadowTable$State" "copy" "LShadowTable$Copy;", Cond.fieldLink RX5 28 "ShadowTable$State" "settings" "[I", Cond.methodLink RX5 46 arraycopyName, Cond.native arraycopyName, Cond.static arraycopyName, Cond.initialized "java/lang/System", Cond.fieldLink RX5 32 "ShadowTable$State" "totals" "[I", Cond.methodLink RX5 35 yX3_take, Cond.instanceMethod yX3_take, Cond.selects RX3 yX3_take yX3_take, Cond.initialized RX3, Cond.code yX3_take cX3_take 2 none, Cond.fieldLink RX3 9 "ShadowTable$Rows" "values" "[I", Cond.methodLink RX3 21 arraycopyName, Cond.methodLink RX5 43 yX0_take, Cond.instanceMethod yX0_take, Cond.selects RX0 yX0_take yX0_take, Cond.initialized RX0, Cond.code yX0_take cX0_take 2 none, Cond.fieldLink RX0 12 "ShadowTable$Copy" "shadow" "LShadowTable$Rows;", Cond.fieldLink RX0 21 "ShadowTable$Copy" "log" "LShadowTable$Log;"]
def wsX5_take_r2 : List Cond := [Cond.fieldLink RX0 25 "ShadowTable$Copy" "phase" "I", Cond.fieldLink RX0 33 "ShadowTable$Copy" "kind" "I", Cond.fieldLink RX0 36 "ShadowTable$Copy" "lot" "I", Cond.fieldLink RX0 39 "ShadowTable$Copy" "cursor" "I", Cond.fieldLink RX0 49 "ShadowTable$Copy" "age" "I", Cond.methodLink RX0 42 yX3_take, Cond.methodLink RX0 46 yX2_take, Cond.instanceMethod yX2_take, Cond.selects RX2 yX2_take yX2_take, Cond.initialized RX2, Cond.code yX2_take cX2_take 2 none, Cond.fieldLink RX2 9 "ShadowTable$Log" "keys" "[I", Cond.methodLink RX2 25 arraycopyName, Cond.fieldLink RX2 15 "ShadowTable$Log" "values" "[I", Cond.fieldLink RX2 18 "ShadowTable$Log" "start" "I", Cond.fieldLink RX2 22 "ShadowTable$Log" "size" "I"]
def wsX5_take : List Cond := .code yX5_take cX5_take 2 none :: ((wsX5_take_r1 ++ wsX5_take_r2) ++ wsX50 ++ wsX30 ++ wsX00 ++ wsX20)
def wsX1_prepare_r1 : List Cond := [Cond.fieldLink RX1 13 "ShadowTable$History" "slots" "[LShadowTable$State;", Cond.fieldLink RX1 18 "ShadowTable$History" "count" "I", Cond.methodLink RX1 22 yX1_slotOf, Cond.instanceMethod yX1_slotOf, Cond.selects RX1 yX1_slotOf yX1_slotOf, Cond.initialized RX1, Cond.code yX1_slotOf cX1_slotOf 2 (some .int), Cond.fieldLink RX1 30 "ShadowTable$History" "start" "I", Cond.methodLink RX1 26 yX5_take, Cond.instanceMethod yX5_take, Cond.selects RX5 yX5_take yX5_take, Cond.initialized RX5, Cond.code yX5_take cX5_take 2 none, Cond.fieldLink RX5 12 "ShadowTable$State" "live" "LShadowTable$Rows;", Cond.fieldLink RX5 18 "ShadowTable$State" "old" "LShadowTable$Rows;", Cond.fieldLink RX5 39 "ShadowTable$State" "hasOld" "Z", Cond.fieldLink RX5 24 "ShadowTable$State" "copy" "LShadowTable$Copy;", Cond.fieldLink RX5 28 "ShadowTable$State" "settings" "[I", Cond.methodLink RX5 46 arraycopyName, Cond.native arraycopyName, Cond.static arraycopyName, Cond.initialized "java/lang/System", Cond.fieldLink RX5 32 "ShadowTable$State" "totals" "[I", Cond.methodLink RX5 35 yX3_take]
def wsX1_prepare_r2 : List Cond := [Cond.instanceMethod yX3_take, Cond.selects RX3 yX3_take yX3_take, Cond.initialized RX3, Cond.code yX3_take cX3_take 2 none, Cond.fieldLink RX3 9 "ShadowTable$Rows" "values" "[I", Cond.methodLink RX3 21 arraycopyName, Cond.methodLink RX5 43 yX0_take, Cond.instanceMethod yX0_take, Cond.selects RX0 yX0_take yX0_take, Cond.initialized RX0, Cond.code yX0_take cX0_take 2 none, Cond.fieldLink RX0 12 "ShadowTable$Copy" "shadow" "LShadowTable$Rows;", Cond.fieldLink RX0 21 "ShadowTable$Copy" "log" "LShadowTable$Log;", Cond.fieldLink RX0 25 "ShadowTable$Copy" "phase" "I", Cond.fieldLink RX0 33 "ShadowTable$Copy" "kind" "I", Cond.fieldLink RX0 36 "ShadowTable$Copy" "lot" "I", Cond.fieldLink RX0 39 "ShadowTable$Copy" "cursor" "I", Cond.fieldLink RX0 49 "ShadowTable$Copy" "age" "I", Cond.methodLink RX0 42 yX3_take, Cond.methodLink RX0 46 yX2_take, Cond.instanceMethod yX2_take, Cond.selects RX2 yX2_take yX2_take, Cond.initialized RX2, Cond.code yX2_take cX2_take 2 none]
def wsX1_prepare_r3 : List Cond := [Cond.fieldLink RX2 9 "ShadowTable$Log" "keys" "[I", Cond.methodLink RX2 25 arraycopyName, Cond.fieldLink RX2 15 "ShadowTable$Log" "values" "[I", Cond.fieldLink RX2 18 "ShadowTable$Log" "start" "I", Cond.fieldLink RX2 22 "ShadowTable$Log" "size" "I"]
def wsX1_prepare : List Cond := .code yX1_prepare cX1_prepare 2 none :: ((wsX1_prepare_r1 ++ (wsX1_prepare_r2 ++ wsX1_prepare_r3)) ++ wsX10 ++ wsX50 ++ wsX30 ++ wsX00 ++ wsX20)
def wsX1_keepPrepared : List Cond := .code yX1_keepPrepared cX1_keepPrepared 1 none :: ([.fieldLink RX1 18 "ShadowTable$History" "count" "I", .fieldLink RX1 30 "ShadowTable$History" "start" "I", .methodLink RX1 22 yX1_slotOf, .instanceMethod yX1_slotOf, .selects RX1 yX1_slotOf yX1_slotOf, .initialized RX1, .code yX1_slotOf cX1_slotOf 2 (some .int)] ++ wsX10)
def wsX1_takeBack_r1 : List Cond := [Cond.fieldLink RX1 18 "ShadowTable$History" "count" "I", Cond.fieldLink RX1 13 "ShadowTable$History" "slots" "[LShadowTable$State;", Cond.methodLink RX1 22 yX1_slotOf, Cond.instanceMethod yX1_slotOf, Cond.selects RX1 yX1_slotOf yX1_slotOf, Cond.initialized RX1, Cond.code yX1_slotOf cX1_slotOf 2 (some .int), Cond.fieldLink RX1 30 "ShadowTable$History" "start" "I", Cond.methodLink RX1 26 yX5_take, Cond.instanceMethod yX5_take, Cond.selects RX5 yX5_take yX5_take, Cond.initialized RX5, Cond.code yX5_take cX5_take 2 none, Cond.fieldLink RX5 12 "ShadowTable$State" "live" "LShadowTable$Rows;", Cond.fieldLink RX5 18 "ShadowTable$State" "old" "LShadowTable$Rows;", Cond.fieldLink RX5 39 "ShadowTable$State" "hasOld" "Z", Cond.fieldLink RX5 24 "ShadowTable$State" "copy" "LShadowTable$Copy;", Cond.fieldLink RX5 28 "ShadowTable$State" "settings" "[I", Cond.methodLink RX5 46 arraycopyName, Cond.native arraycopyName, Cond.static arraycopyName, Cond.initialized "java/lang/System", Cond.fieldLink RX5 32 "ShadowTable$State" "totals" "[I", Cond.methodLink RX5 35 yX3_take]
def wsX1_takeBack_r2 : List Cond := [Cond.instanceMethod yX3_take, Cond.selects RX3 yX3_take yX3_take, Cond.initialized RX3, Cond.code yX3_take cX3_take 2 none, Cond.fieldLink RX3 9 "ShadowTable$Rows" "values" "[I", Cond.methodLink RX3 21 arraycopyName, Cond.methodLink RX5 43 yX0_take, Cond.instanceMethod yX0_take, Cond.selects RX0 yX0_take yX0_take, Cond.initialized RX0, Cond.code yX0_take cX0_take 2 none, Cond.fieldLink RX0 12 "ShadowTable$Copy" "shadow" "LShadowTable$Rows;", Cond.fieldLink RX0 21 "ShadowTable$Copy" "log" "LShadowTable$Log;", Cond.fieldLink RX0 25 "ShadowTable$Copy" "phase" "I", Cond.fieldLink RX0 33 "ShadowTable$Copy" "kind" "I", Cond.fieldLink RX0 36 "ShadowTable$Copy" "lot" "I", Cond.fieldLink RX0 39 "ShadowTable$Copy" "cursor" "I", Cond.fieldLink RX0 49 "ShadowTable$Copy" "age" "I", Cond.methodLink RX0 42 yX3_take, Cond.methodLink RX0 46 yX2_take, Cond.instanceMethod yX2_take, Cond.selects RX2 yX2_take yX2_take, Cond.initialized RX2, Cond.code yX2_take cX2_take 2 none]
def wsX1_takeBack_r3 : List Cond := [Cond.fieldLink RX2 9 "ShadowTable$Log" "keys" "[I", Cond.methodLink RX2 25 arraycopyName, Cond.fieldLink RX2 15 "ShadowTable$Log" "values" "[I", Cond.fieldLink RX2 18 "ShadowTable$Log" "start" "I", Cond.fieldLink RX2 22 "ShadowTable$Log" "size" "I"]
def wsX1_takeBack : List Cond := .code yX1_takeBack cX1_takeBack 2 (some .int) :: ((wsX1_takeBack_r1 ++ (wsX1_takeBack_r2 ++ wsX1_takeBack_r3)) ++ wsX10 ++ wsX50 ++ wsX30 ++ wsX00 ++ wsX20)
def wsX2_slotOf : List Cond := .code yX2_slotOf cX2_slotOf 2 (some .int) :: ([.fieldLink RX2 18 "ShadowTable$Log" "start" "I"] ++ wsX20)
def wsX2_add : List Cond := .code yX2_add cX2_add 4 (some .boolean) :: ([.fieldLink RX2 22 "ShadowTable$Log" "size" "I", .fieldLink RX2 9 "ShadowTable$Log" "keys" "[I", .fieldLink RX2 15 "ShadowTable$Log" "values" "[I", .methodLink RX2 31 yX2_slotOf, .instanceMethod yX2_slotOf, .selects RX2 yX2_slotOf yX2_slotOf, .initialized RX2, .code yX2_slotOf cX2_slotOf 2 (some .int), .fieldLink RX2 18 "ShadowTable$Log" "start" "I"] ++ wsX20)
def wsX2_removeFirst : List Cond := .code yX2_removeFirst cX2_removeFirst 1 none :: ([.fieldLink RX2 22 "ShadowTable$Log" "size" "I", .fieldLink RX2 18 "ShadowTable$Log" "start" "I", .methodLink RX2 31 yX2_slotOf, .instanceMethod yX2_slotOf, .selects RX2 yX2_slotOf yX2_slotOf, .initialized RX2, .code yX2_slotOf cX2_slotOf 2 (some .int)] ++ wsX20)
def wsX2_keyAt : List Cond := .code yX2_keyAt cX2_keyAt 2 (some .int) :: ([.fieldLink RX2 22 "ShadowTable$Log" "size" "I", .fieldLink RX2 9 "ShadowTable$Log" "keys" "[I", .methodLink RX2 31 yX2_slotOf, .instanceMethod yX2_slotOf, .selects RX2 yX2_slotOf yX2_slotOf, .initialized RX2, .code yX2_slotOf cX2_slotOf 2 (some .int), .fieldLink RX2 18 "ShadowTable$Log" "start" "I"] ++ wsX20)
def wsX2_valueAt : List Cond := .code yX2_valueAt cX2_valueAt 2 (some .int) :: ([.fieldLink RX2 22 "ShadowTable$Log" "size" "I", .fieldLink RX2 15 "ShadowTable$Log" "values" "[I", .methodLink RX2 31 yX2_slotOf, .instanceMethod yX2_slotOf, .selects RX2 yX2_slotOf yX2_slotOf, .initialized RX2, .code yX2_slotOf cX2_slotOf 2 (some .int), .fieldLink RX2 18 "ShadowTable$Log" "start" "I"] ++ wsX20)
def wsX3_count : List Cond := .code yX3_count cX3_count 3 (some .int) :: ([.fieldLink RX3 9 "ShadowTable$Rows" "values" "[I"] ++ wsX30)
def wsX3_sum : List Cond := .code yX3_sum cX3_sum 3 (some .int) :: ([.fieldLink RX3 9 "ShadowTable$Rows" "values" "[I"] ++ wsX30)
def wsX3_leastKey : List Cond := .code yX3_leastKey cX3_leastKey 2 (some .int) :: ([.fieldLink RX3 9 "ShadowTable$Rows" "values" "[I"] ++ wsX30)
def wsX3_greatestKey : List Cond := .code yX3_greatestKey cX3_greatestKey 2 (some .int) :: ([.fieldLink RX3 9 "ShadowTable$Rows" "values" "[I"] ++ wsX30)
def wsX3_tell : List Cond := .code yX3_tell cX3_tell 2 (some .int) :: ([.methodLink RX3 27 yX3_count, .instanceMethod yX3_count, .selects RX3 yX3_count yX3_count, .initialized RX3, .code yX3_count cX3_count 3 (some .int), .fieldLink RX3 9 "ShadowTable$Rows" "values" "[I", .methodLink RX3 31 yX3_sum, .instanceMethod yX3_sum, .selects RX3 yX3_sum yX3_sum, .code yX3_sum cX3_sum 3 (some .int), .methodLink RX3 34 yX3_leastKey, .instanceMethod yX3_leastKey, .selects RX3 yX3_leastKey yX3_leastKey, .code yX3_leastKey cX3_leastKey 2 (some .int), .methodLink RX3 37 yX3_greatestKey, .instanceMethod yX3_greatestKey, .selects RX3 yX3_greatestKey yX3_greatestKey, .code yX3_greatestKey cX3_greatestKey 2 (some .int)] ++ wsX30)
def wsX4_init : List Cond := .code yX4_init cX4_init 1 none :: ([.methodLink RX4 3 objectInit, .instanceMethod objectInit, .code objectInit ⟨#[0xb1]⟩ 1 none, .arrayClass .int, .fieldLink RX4 9 "ShadowTable$Script" "characters" "[I"] ++ wsX40)
def wsX6_isIn : List Cond := .code yX6_isIn cX6_isIn 3 (some .boolean) :: ([])
def wsX6_isKey : List Cond := .code yX6_isKey cX6_isKey 1 (some .boolean) :: ([.methodLink RX6 135 yX6_isIn, .static yX6_isIn, .initialized RX6, .code yX6_isIn cX6_isIn 3 (some .boolean)])
def wsX6_isValue : List Cond := .code yX6_isValue cX6_isValue 1 (some .boolean) :: ([.methodLink RX6 135 yX6_isIn, .static yX6_isIn, .initialized RX6, .code yX6_isIn cX6_isIn 3 (some .boolean)])
def wsX5_hasCopy : List Cond := .code yX5_hasCopy cX5_hasCopy 1 (some .boolean) :: ([.fieldLink RX5 24 "ShadowTable$State" "copy" "LShadowTable$Copy;"] ++ wsX50 ++ wsX00)
def wsX5_endGivenUp : List Cond := .code yX5_endGivenUp cX5_endGivenUp 1 none :: ([.fieldLink RX5 24 "ShadowTable$State" "copy" "LShadowTable$Copy;", .fieldLink RX5 32 "ShadowTable$State" "totals" "[I"] ++ wsX50 ++ wsX00)
def wsX5_changeRow_r1 : List Cond := [Cond.fieldLink RX5 24 "ShadowTable$State" "copy" "LShadowTable$Copy;", Cond.fieldLink RX5 28 "ShadowTable$State" "settings" "[I", Cond.fieldLink RX5 12 "ShadowTable$State" "live" "LShadowTable$Rows;", Cond.methodLink RX5 71 yX5_hasCopy, Cond.instanceMethod yX5_hasCopy, Cond.selects RX5 yX5_hasCopy yX5_hasCopy, Cond.initialized RX5, Cond.code yX5_hasCopy cX5_hasCopy 1 (some .boolean), Cond.methodLink RX5 79 yX2_add, Cond.instanceMethod yX2_add, Cond.selects RX2 yX2_add yX2_add, Cond.initialized RX2, Cond.code yX2_add cX2_add 4 (some .boolean), Cond.fieldLink RX2 22 "ShadowTable$Log" "size" "I", Cond.fieldLink RX2 9 "ShadowTable$Log" "keys" "[I", Cond.fieldLink RX2 15 "ShadowTable$Log" "values" "[I", Cond.methodLink RX2 31 yX2_slotOf, Cond.instanceMethod yX2_slotOf, Cond.selects RX2 yX2_slotOf yX2_slotOf, Cond.code yX2_slotOf cX2_slotOf 2 (some .int), Cond.fieldLink RX2 18 "ShadowTable$Log" "start" "I", Cond.methodLink RX5 85 yX5_endGivenUp, Cond.instanceMethod yX5_endGivenUp, Cond.selects RX5 yX5_endGivenUp yX5_endGivenUp]
def wsX5_changeRow_r2 : List Cond := [Cond.code yX5_endGivenUp cX5_endGivenUp 1 none, Cond.fieldLink RX5 32 "ShadowTable$State" "totals" "[I", Cond.methodLink RX5 67 yX3_at, Cond.instanceMethod yX3_at, Cond.selects RX3 yX3_at yX3_at, Cond.initialized RX3, Cond.code yX3_at cX3_at 2 (some .int), Cond.fieldLink RX3 9 "ShadowTable$Rows" "values" "[I", Cond.methodLink RX5 88 yX3_place, Cond.instanceMethod yX3_place, Cond.selects RX3 yX3_place yX3_place, Cond.code yX3_place cX3_place 3 none]
def wsX5_changeRow : List Cond := .code yX5_changeRow cX5_changeRow 4 (some .int) :: ((wsX5_changeRow_r1 ++ wsX5_changeRow_r2) ++ wsX50 ++ wsX00 ++ wsX20 ++ wsX30)
def wsX5_putRow_r1 : List Cond := [Cond.fieldLink RX5 24 "ShadowTable$State" "copy" "LShadowTable$Copy;", Cond.static yX6_isKey, Cond.initialized RX6, Cond.code yX6_isKey cX6_isKey 1 (some .boolean), Cond.methodLink RX6 135 yX6_isIn, Cond.static yX6_isIn, Cond.code yX6_isIn cX6_isIn 3 (some .boolean), Cond.static yX6_isValue, Cond.code yX6_isValue cX6_isValue 1 (some .boolean), Cond.methodLink RX5 63 yX5_changeRow, Cond.instanceMethod yX5_changeRow, Cond.selects RX5 yX5_changeRow yX5_changeRow, Cond.initialized RX5, Cond.code yX5_changeRow cX5_changeRow 4 (some .int), Cond.fieldLink RX5 28 "ShadowTable$State" "settings" "[I", Cond.fieldLink RX5 12 "ShadowTable$State" "live" "LShadowTable$Rows;", Cond.methodLink RX5 71 yX5_hasCopy, Cond.instanceMethod yX5_hasCopy, Cond.selects RX5 yX5_hasCopy yX5_hasCopy, Cond.code yX5_hasCopy cX5_hasCopy 1 (some .boolean), Cond.methodLink RX5 79 yX2_add, Cond.instanceMethod yX2_add, Cond.selects RX2 yX2_add yX2_add, Cond.initialized RX2]
def wsX5_putRow_r2 : List Cond := [Cond.code yX2_add cX2_add 4 (some .boolean), Cond.fieldLink RX2 22 "ShadowTable$Log" "size" "I", Cond.fieldLink RX2 9 "ShadowTable$Log" "keys" "[I", Cond.fieldLink RX2 15 "ShadowTable$Log" "values" "[I", Cond.methodLink RX2 31 yX2_slotOf, Cond.instanceMethod yX2_slotOf, Cond.selects RX2 yX2_slotOf yX2_slotOf, Cond.code yX2_slotOf cX2_slotOf 2 (some .int), Cond.fieldLink RX2 18 "ShadowTable$Log" "start" "I", Cond.methodLink RX5 85 yX5_endGivenUp, Cond.instanceMethod yX5_endGivenUp, Cond.selects RX5 yX5_endGivenUp yX5_endGivenUp, Cond.code yX5_endGivenUp cX5_endGivenUp 1 none, Cond.fieldLink RX5 32 "ShadowTable$State" "totals" "[I", Cond.methodLink RX5 67 yX3_at, Cond.instanceMethod yX3_at, Cond.selects RX3 yX3_at yX3_at, Cond.initialized RX3, Cond.code yX3_at cX3_at 2 (some .int), Cond.fieldLink RX3 9 "ShadowTable$Rows" "values" "[I", Cond.methodLink RX5 88 yX3_place, Cond.instanceMethod yX3_place, Cond.selects RX3 yX3_place yX3_place, Cond.code yX3_place cX3_place 3 none]
def wsX5_putRow : List Cond := .code yX5_putRow cX5_putRow 3 (some .int) :: ((wsX5_putRow_r1 ++ wsX5_putRow_r2) ++ wsX50 ++ wsX00 ++ wsX20 ++ wsX30)
def wsX5_eraseRow_r1 : List Cond := [Cond.fieldLink RX5 24 "ShadowTable$State" "copy" "LShadowTable$Copy;", Cond.fieldLink RX5 12 "ShadowTable$State" "live" "LShadowTable$Rows;", Cond.static yX6_isKey, Cond.initialized RX6, Cond.code yX6_isKey cX6_isKey 1 (some .boolean), Cond.methodLink RX6 135 yX6_isIn, Cond.static yX6_isIn, Cond.code yX6_isIn cX6_isIn 3 (some .boolean), Cond.methodLink RX5 67 yX3_at, Cond.instanceMethod yX3_at, Cond.selects RX3 yX3_at yX3_at, Cond.initialized RX3, Cond.code yX3_at cX3_at 2 (some .int), Cond.fieldLink RX3 9 "ShadowTable$Rows" "values" "[I", Cond.methodLink RX5 63 yX5_changeRow, Cond.instanceMethod yX5_changeRow, Cond.selects RX5 yX5_changeRow yX5_changeRow, Cond.initialized RX5, Cond.code yX5_changeRow cX5_changeRow 4 (some .int), Cond.fieldLink RX5 28 "ShadowTable$State" "settings" "[I", Cond.methodLink RX5 71 yX5_hasCopy, Cond.instanceMethod yX5_hasCopy, Cond.selects RX5 yX5_hasCopy yX5_hasCopy, Cond.code yX5_hasCopy cX5_hasCopy 1 (some .boolean)]
def wsX5_eraseRow_r2 : List Cond := [Cond.methodLink RX5 79 yX2_add, Cond.instanceMethod yX2_add, Cond.selects RX2 yX2_add yX2_add, Cond.initialized RX2, Cond.code yX2_add cX2_add 4 (some .boolean), Cond.fieldLink RX2 22 "ShadowTable$Log" "size" "I", Cond.fieldLink RX2 9 "ShadowTable$Log" "keys" "[I", Cond.fieldLink RX2 15 "ShadowTable$Log" "values" "[I", Cond.methodLink RX2 31 yX2_slotOf, Cond.instanceMethod yX2_slotOf, Cond.selects RX2 yX2_slotOf yX2_slotOf, Cond.code yX2_slotOf cX2_slotOf 2 (some .int), Cond.fieldLink RX2 18 "ShadowTable$Log" "start" "I", Cond.methodLink RX5 85 yX5_endGivenUp, Cond.instanceMethod yX5_endGivenUp, Cond.selects RX5 yX5_endGivenUp yX5_endGivenUp, Cond.code yX5_endGivenUp cX5_endGivenUp 1 none, Cond.fieldLink RX5 32 "ShadowTable$State" "totals" "[I", Cond.methodLink RX5 88 yX3_place, Cond.instanceMethod yX3_place, Cond.selects RX3 yX3_place yX3_place, Cond.code yX3_place cX3_place 3 none]
def wsX5_eraseRow : List Cond := .code yX5_eraseRow cX5_eraseRow 2 (some .int) :: ((wsX5_eraseRow_r1 ++ wsX5_eraseRow_r2) ++ wsX50 ++ wsX00 ++ wsX30 ++ wsX20)
def wsX6_isKind : List Cond := .code yX6_isKind cX6_isKind 1 (some .boolean) :: ([.methodLink RX6 135 yX6_isIn, .static yX6_isIn, .initialized RX6, .code yX6_isIn cX6_isIn 3 (some .boolean)])
def wsX6_isLot : List Cond := .code yX6_isLot cX6_isLot 1 (some .boolean) :: ([.methodLink RX6 135 yX6_isIn, .static yX6_isIn, .initialized RX6, .code yX6_isIn cX6_isIn 3 (some .boolean)])
def wsX5_beginCopy_r1 : List Cond := [Cond.fieldLink RX5 24 "ShadowTable$State" "copy" "LShadowTable$Copy;", Cond.fieldLink RX5 32 "ShadowTable$State" "totals" "[I", Cond.fieldLink RX5 12 "ShadowTable$State" "live" "LShadowTable$Rows;", Cond.static yX6_isKind, Cond.initialized RX6, Cond.code yX6_isKind cX6_isKind 1 (some .boolean), Cond.methodLink RX6 135 yX6_isIn, Cond.static yX6_isIn, Cond.code yX6_isIn cX6_isIn 3 (some .boolean), Cond.static yX6_isLot, Cond.code yX6_isLot cX6_isLot 1 (some .boolean), Cond.methodLink RX5 71 yX5_hasCopy, Cond.instanceMethod yX5_hasCopy, Cond.selects RX5 yX5_hasCopy yX5_hasCopy, Cond.initialized RX5, Cond.code yX5_hasCopy cX5_hasCopy 1 (some .boolean), Cond.methodLink RX5 98 yX0_start, Cond.instanceMethod yX0_start, Cond.selects RX0 yX0_start yX0_start, Cond.initialized RX0, Cond.code yX0_start cX0_start 3 none, Cond.fieldLink RX0 12 "ShadowTable$Copy" "shadow" "LShadowTable$Rows;", Cond.fieldLink RX0 21 "ShadowTable$Copy" "log" "LShadowTable$Log;", Cond.fieldLink RX0 25 "ShadowTable$Copy" "phase" "I"]
def wsX5_beginCopy_r2 : List Cond := [Cond.fieldLink RX0 33 "ShadowTable$Copy" "kind" "I", Cond.fieldLink RX0 36 "ShadowTable$Copy" "lot" "I", Cond.fieldLink RX0 39 "ShadowTable$Copy" "cursor" "I", Cond.methodLink RX0 29 yX3_removeAll, Cond.instanceMethod yX3_removeAll, Cond.selects RX3 yX3_removeAll yX3_removeAll, Cond.initialized RX3, Cond.code yX3_removeAll cX3_removeAll 1 none, Cond.fieldLink RX3 9 "ShadowTable$Rows" "values" "[I", Cond.methodLink RX3 15 yJ7_fill_53178, Cond.static yJ7_fill_53178, Cond.initialized RJ7, Cond.code yJ7_fill_53178 cJ7_fill_53178 4 none, Cond.methodLink RX0 32 yX2_removeAll, Cond.instanceMethod yX2_removeAll, Cond.selects RX2 yX2_removeAll yX2_removeAll, Cond.initialized RX2, Cond.code yX2_removeAll cX2_removeAll 1 none, Cond.fieldLink RX2 18 "ShadowTable$Log" "start" "I", Cond.fieldLink RX2 22 "ShadowTable$Log" "size" "I", Cond.methodLink RX5 101 yX3_count, Cond.instanceMethod yX3_count, Cond.selects RX3 yX3_count yX3_count, Cond.code yX3_count cX3_count 3 (some .int)]
def wsX5_beginCopy : List Cond := .code yX5_beginCopy cX5_beginCopy 3 (some .int) :: ((wsX5_beginCopy_r1 ++ wsX5_beginCopy_r2) ++ wsX50 ++ wsX00 ++ wsX30 ++ wsX20)
def wsX6_isTicks : List Cond := .code yX6_isTicks cX6_isTicks 1 (some .boolean) :: ([.methodLink RX6 135 yX6_isIn, .static yX6_isIn, .initialized RX6, .code yX6_isIn cX6_isIn 3 (some .boolean)])
def wsX5_lockRunsOut : List Cond := .code yX5_lockRunsOut cX5_lockRunsOut 1 (some .boolean) :: ([.fieldLink RX5 24 "ShadowTable$State" "copy" "LShadowTable$Copy;", .fieldLink RX5 28 "ShadowTable$State" "settings" "[I", .fieldLink RX5 32 "ShadowTable$State" "totals" "[I"] ++ wsX50 ++ wsX00)
def wsX5_applyEntries_r1 : List Cond := [Cond.fieldLink RX5 24 "ShadowTable$State" "copy" "LShadowTable$Copy;", Cond.fieldLink RX5 28 "ShadowTable$State" "settings" "[I", Cond.fieldLink RX5 32 "ShadowTable$State" "totals" "[I", Cond.methodLink RX5 126 yX2_keyAt, Cond.instanceMethod yX2_keyAt, Cond.selects RX2 yX2_keyAt yX2_keyAt, Cond.initialized RX2, Cond.code yX2_keyAt cX2_keyAt 2 (some .int), Cond.fieldLink RX2 22 "ShadowTable$Log" "size" "I", Cond.fieldLink RX2 9 "ShadowTable$Log" "keys" "[I", Cond.methodLink RX2 31 yX2_slotOf, Cond.instanceMethod yX2_slotOf, Cond.selects RX2 yX2_slotOf yX2_slotOf, Cond.code yX2_slotOf cX2_slotOf 2 (some .int), Cond.fieldLink RX2 18 "ShadowTable$Log" "start" "I", Cond.methodLink RX5 135 yX2_valueAt, Cond.instanceMethod yX2_valueAt, Cond.selects RX2 yX2_valueAt yX2_valueAt, Cond.code yX2_valueAt cX2_valueAt 2 (some .int), Cond.fieldLink RX2 15 "ShadowTable$Log" "values" "[I", Cond.static yX6_changedValue, Cond.initialized RX6, Cond.code yX6_changedValue cX6_changedValue 3 (some .int), Cond.methodLink RX5 88 yX3_place]
def wsX5_applyEntries_r2 : List Cond := [Cond.instanceMethod yX3_place, Cond.selects RX3 yX3_place yX3_place, Cond.initialized RX3, Cond.code yX3_place cX3_place 3 none, Cond.fieldLink RX3 9 "ShadowTable$Rows" "values" "[I", Cond.methodLink RX5 142 yX2_removeFirst, Cond.instanceMethod yX2_removeFirst, Cond.selects RX2 yX2_removeFirst yX2_removeFirst, Cond.code yX2_removeFirst cX2_removeFirst 1 none]
def wsX5_applyEntries : List Cond := .code yX5_applyEntries cX5_applyEntries 4 none :: ((wsX5_applyEntries_r1 ++ wsX5_applyEntries_r2) ++ wsX50 ++ wsX00 ++ wsX20 ++ wsX30)
def wsX5_copyLot_r1 : List Cond := [Cond.fieldLink RX5 24 "ShadowTable$State" "copy" "LShadowTable$Copy;", Cond.fieldLink RX5 28 "ShadowTable$State" "settings" "[I", Cond.fieldLink RX5 32 "ShadowTable$State" "totals" "[I", Cond.fieldLink RX5 12 "ShadowTable$State" "live" "LShadowTable$Rows;", Cond.methodLink RX5 67 yX3_at, Cond.instanceMethod yX3_at, Cond.selects RX3 yX3_at yX3_at, Cond.initialized RX3, Cond.code yX3_at cX3_at 2 (some .int), Cond.fieldLink RX3 9 "ShadowTable$Rows" "values" "[I", Cond.methodLink RX5 151 yX0_copyKey, Cond.instanceMethod yX0_copyKey, Cond.selects RX0 yX0_copyKey yX0_copyKey, Cond.initialized RX0, Cond.code yX0_copyKey cX0_copyKey 4 (some .boolean), Cond.fieldLink RX0 39 "ShadowTable$Copy" "cursor" "I", Cond.fieldLink RX0 33 "ShadowTable$Copy" "kind" "I", Cond.fieldLink RX0 12 "ShadowTable$Copy" "shadow" "LShadowTable$Rows;", Cond.static yX6_changedValue, Cond.initialized RX6, Cond.code yX6_changedValue cX6_changedValue 3 (some .int), Cond.methodLink RX0 56 yX3_at, Cond.methodLink RX0 60 yX3_place, Cond.instanceMethod yX3_place]
def wsX5_copyLot_r2 : List Cond := [Cond.selects RX3 yX3_place yX3_place, Cond.code yX3_place cX3_place 3 none]
def wsX5_copyLot : List Cond := .code yX5_copyLot cX5_copyLot 3 none :: ((wsX5_copyLot_r1 ++ wsX5_copyLot_r2) ++ wsX50 ++ wsX00 ++ wsX20 ++ wsX30)
def wsX5_makeTick_r1 : List Cond := [Cond.fieldLink RX5 32 "ShadowTable$State" "totals" "[I", Cond.fieldLink RX5 24 "ShadowTable$State" "copy" "LShadowTable$Copy;", Cond.methodLink RX5 71 yX5_hasCopy, Cond.instanceMethod yX5_hasCopy, Cond.selects RX5 yX5_hasCopy yX5_hasCopy, Cond.initialized RX5, Cond.code yX5_hasCopy cX5_hasCopy 1 (some .boolean), Cond.methodLink RX5 111 yX5_lockRunsOut, Cond.instanceMethod yX5_lockRunsOut, Cond.selects RX5 yX5_lockRunsOut yX5_lockRunsOut, Cond.code yX5_lockRunsOut cX5_lockRunsOut 1 (some .boolean), Cond.fieldLink RX5 28 "ShadowTable$State" "settings" "[I", Cond.methodLink RX5 114 yX5_applyEntries, Cond.instanceMethod yX5_applyEntries, Cond.selects RX5 yX5_applyEntries yX5_applyEntries, Cond.code yX5_applyEntries cX5_applyEntries 4 none, Cond.methodLink RX5 126 yX2_keyAt, Cond.instanceMethod yX2_keyAt, Cond.selects RX2 yX2_keyAt yX2_keyAt, Cond.initialized RX2, Cond.code yX2_keyAt cX2_keyAt 2 (some .int), Cond.fieldLink RX2 22 "ShadowTable$Log" "size" "I", Cond.fieldLink RX2 9 "ShadowTable$Log" "keys" "[I", Cond.methodLink RX2 31 yX2_slotOf]
def wsX5_makeTick_r2 : List Cond := [Cond.instanceMethod yX2_slotOf, Cond.selects RX2 yX2_slotOf yX2_slotOf, Cond.code yX2_slotOf cX2_slotOf 2 (some .int), Cond.fieldLink RX2 18 "ShadowTable$Log" "start" "I", Cond.methodLink RX5 135 yX2_valueAt, Cond.instanceMethod yX2_valueAt, Cond.selects RX2 yX2_valueAt yX2_valueAt, Cond.code yX2_valueAt cX2_valueAt 2 (some .int), Cond.fieldLink RX2 15 "ShadowTable$Log" "values" "[I", Cond.static yX6_changedValue, Cond.initialized RX6, Cond.code yX6_changedValue cX6_changedValue 3 (some .int), Cond.methodLink RX5 88 yX3_place, Cond.instanceMethod yX3_place, Cond.selects RX3 yX3_place yX3_place, Cond.initialized RX3, Cond.code yX3_place cX3_place 3 none, Cond.fieldLink RX3 9 "ShadowTable$Rows" "values" "[I", Cond.methodLink RX5 142 yX2_removeFirst, Cond.instanceMethod yX2_removeFirst, Cond.selects RX2 yX2_removeFirst yX2_removeFirst, Cond.code yX2_removeFirst cX2_removeFirst 1 none, Cond.methodLink RX5 117 yX5_copyLot, Cond.instanceMethod yX5_copyLot]
def wsX5_makeTick_r3 : List Cond := [Cond.selects RX5 yX5_copyLot yX5_copyLot, Cond.code yX5_copyLot cX5_copyLot 3 none, Cond.fieldLink RX5 12 "ShadowTable$State" "live" "LShadowTable$Rows;", Cond.methodLink RX5 67 yX3_at, Cond.instanceMethod yX3_at, Cond.selects RX3 yX3_at yX3_at, Cond.code yX3_at cX3_at 2 (some .int), Cond.methodLink RX5 151 yX0_copyKey, Cond.instanceMethod yX0_copyKey, Cond.selects RX0 yX0_copyKey yX0_copyKey, Cond.initialized RX0, Cond.code yX0_copyKey cX0_copyKey 4 (some .boolean), Cond.fieldLink RX0 39 "ShadowTable$Copy" "cursor" "I", Cond.fieldLink RX0 33 "ShadowTable$Copy" "kind" "I", Cond.fieldLink RX0 12 "ShadowTable$Copy" "shadow" "LShadowTable$Rows;", Cond.methodLink RX0 56 yX3_at, Cond.methodLink RX0 60 yX3_place]
def wsX5_makeTick : List Cond := .code yX5_makeTick cX5_makeTick 1 none :: ((wsX5_makeTick_r1 ++ (wsX5_makeTick_r2 ++ wsX5_makeTick_r3)) ++ wsX50 ++ wsX00 ++ wsX20 ++ wsX30)
def wsX5_makeTicks_r1 : List Cond := [Cond.fieldLink RX5 24 "ShadowTable$State" "copy" "LShadowTable$Copy;", Cond.static yX6_isTicks, Cond.initialized RX6, Cond.code yX6_isTicks cX6_isTicks 1 (some .boolean), Cond.methodLink RX6 135 yX6_isIn, Cond.static yX6_isIn, Cond.code yX6_isIn cX6_isIn 3 (some .boolean), Cond.methodLink RX5 108 yX5_makeTick, Cond.instanceMethod yX5_makeTick, Cond.selects RX5 yX5_makeTick yX5_makeTick, Cond.initialized RX5, Cond.code yX5_makeTick cX5_makeTick 1 none, Cond.fieldLink RX5 32 "ShadowTable$State" "totals" "[I", Cond.methodLink RX5 71 yX5_hasCopy, Cond.instanceMethod yX5_hasCopy, Cond.selects RX5 yX5_hasCopy yX5_hasCopy, Cond.code yX5_hasCopy cX5_hasCopy 1 (some .boolean), Cond.methodLink RX5 111 yX5_lockRunsOut, Cond.instanceMethod yX5_lockRunsOut, Cond.selects RX5 yX5_lockRunsOut yX5_lockRunsOut, Cond.code yX5_lockRunsOut cX5_lockRunsOut 1 (some .boolean), Cond.fieldLink RX5 28 "ShadowTable$State" "settings" "[I", Cond.methodLink RX5 114 yX5_applyEntries, Cond.instanceMethod yX5_applyEntries]
def wsX5_makeTicks_r2 : List Cond := [Cond.selects RX5 yX5_applyEntries yX5_applyEntries, Cond.code yX5_applyEntries cX5_applyEntries 4 none, Cond.methodLink RX5 126 yX2_keyAt, Cond.instanceMethod yX2_keyAt, Cond.selects RX2 yX2_keyAt yX2_keyAt, Cond.initialized RX2, Cond.code yX2_keyAt cX2_keyAt 2 (some .int), Cond.fieldLink RX2 22 "ShadowTable$Log" "size" "I", Cond.fieldLink RX2 9 "ShadowTable$Log" "keys" "[I", Cond.methodLink RX2 31 yX2_slotOf, Cond.instanceMethod yX2_slotOf, Cond.selects RX2 yX2_slotOf yX2_slotOf, Cond.code yX2_slotOf cX2_slotOf 2 (some .int), Cond.fieldLink RX2 18 "ShadowTable$Log" "start" "I", Cond.methodLink RX5 135 yX2_valueAt, Cond.instanceMethod yX2_valueAt, Cond.selects RX2 yX2_valueAt yX2_valueAt, Cond.code yX2_valueAt cX2_valueAt 2 (some .int), Cond.fieldLink RX2 15 "ShadowTable$Log" "values" "[I", Cond.static yX6_changedValue, Cond.code yX6_changedValue cX6_changedValue 3 (some .int), Cond.methodLink RX5 88 yX3_place, Cond.instanceMethod yX3_place, Cond.selects RX3 yX3_place yX3_place]
def wsX5_makeTicks_r3 : List Cond := [Cond.initialized RX3, Cond.code yX3_place cX3_place 3 none, Cond.fieldLink RX3 9 "ShadowTable$Rows" "values" "[I", Cond.methodLink RX5 142 yX2_removeFirst, Cond.instanceMethod yX2_removeFirst, Cond.selects RX2 yX2_removeFirst yX2_removeFirst, Cond.code yX2_removeFirst cX2_removeFirst 1 none, Cond.methodLink RX5 117 yX5_copyLot, Cond.instanceMethod yX5_copyLot, Cond.selects RX5 yX5_copyLot yX5_copyLot, Cond.code yX5_copyLot cX5_copyLot 3 none, Cond.fieldLink RX5 12 "ShadowTable$State" "live" "LShadowTable$Rows;", Cond.methodLink RX5 67 yX3_at, Cond.instanceMethod yX3_at, Cond.selects RX3 yX3_at yX3_at, Cond.code yX3_at cX3_at 2 (some .int), Cond.methodLink RX5 151 yX0_copyKey, Cond.instanceMethod yX0_copyKey, Cond.selects RX0 yX0_copyKey yX0_copyKey, Cond.initialized RX0, Cond.code yX0_copyKey cX0_copyKey 4 (some .boolean), Cond.fieldLink RX0 39 "ShadowTable$Copy" "cursor" "I", Cond.fieldLink RX0 33 "ShadowTable$Copy" "kind" "I", Cond.fieldLink RX0 12 "ShadowTable$Copy" "shadow" "LShadowTable$Rows;"]
def wsX5_makeTicks_r4 : List Cond := [Cond.methodLink RX0 56 yX3_at, Cond.methodLink RX0 60 yX3_place]
def wsX5_makeTicks : List Cond := .code yX5_makeTicks cX5_makeTicks 3 (some .int) :: ((wsX5_makeTicks_r1 ++ (wsX5_makeTicks_r2 ++ (wsX5_makeTicks_r3 ++ wsX5_makeTicks_r4))) ++ wsX50 ++ wsX00 ++ wsX20 ++ wsX30)
def wsX5_lockLive : List Cond := .code yX5_lockLive cX5_lockLive 1 (some .int) :: ([.fieldLink RX5 24 "ShadowTable$State" "copy" "LShadowTable$Copy;"] ++ wsX50 ++ wsX00 ++ wsX20)
def wsX5_unlockLive : List Cond := .code yX5_unlockLive cX5_unlockLive 1 (some .int) :: ([.fieldLink RX5 24 "ShadowTable$State" "copy" "LShadowTable$Copy;"] ++ wsX50 ++ wsX00)
def wsX5_swapTables : List Cond := .code yX5_swapTables cX5_swapTables 1 (some .int) :: ([.fieldLink RX5 24 "ShadowTable$State" "copy" "LShadowTable$Copy;", .fieldLink RX5 18 "ShadowTable$State" "old" "LShadowTable$Rows;", .fieldLink RX5 12 "ShadowTable$State" "live" "LShadowTable$Rows;", .fieldLink RX5 39 "ShadowTable$State" "hasOld" "Z", .fieldLink RX5 32 "ShadowTable$State" "totals" "[I", .methodLink RX5 35 yX3_take, .instanceMethod yX3_take, .selects RX3 yX3_take yX3_take, .initialized RX3, .code yX3_take cX3_take 2 none, .fieldLink RX3 9 "ShadowTable$Rows" "values" "[I", .methodLink RX3 21 arraycopyName, .native arraycopyName, .static arraycopyName, .initialized "java/lang/System", .methodLink RX5 101 yX3_count, .instanceMethod yX3_count, .selects RX3 yX3_count yX3_count, .code yX3_count cX3_count 3 (some .int)] ++ wsX50 ++ wsX00 ++ wsX20 ++ wsX30)
def wsX5_giveCopyUp : List Cond := .code yX5_giveCopyUp cX5_giveCopyUp 1 (some .int) :: ([.fieldLink RX5 24 "ShadowTable$State" "copy" "LShadowTable$Copy;", .methodLink RX5 71 yX5_hasCopy, .instanceMethod yX5_hasCopy, .selects RX5 yX5_hasCopy yX5_hasCopy, .initialized RX5, .code yX5_hasCopy cX5_hasCopy 1 (some .boolean), .methodLink RX5 85 yX5_endGivenUp, .instanceMethod yX5_endGivenUp, .selects RX5 yX5_endGivenUp yX5_endGivenUp, .code yX5_endGivenUp cX5_endGivenUp 1 none, .fieldLink RX5 32 "ShadowTable$State" "totals" "[I", .methodLink RX5 101 yX3_count, .instanceMethod yX3_count, .selects RX3 yX3_count yX3_count, .initialized RX3, .code yX3_count cX3_count 3 (some .int), .fieldLink RX3 9 "ShadowTable$Rows" "values" "[I"] ++ wsX50 ++ wsX00 ++ wsX30)
def wsX6_isSetting : List Cond := .code yX6_isSetting cX6_isSetting 1 (some .boolean) :: ([.methodLink RX6 135 yX6_isIn, .static yX6_isIn, .initialized RX6, .code yX6_isIn cX6_isIn 3 (some .boolean)])
def wsX5_changeSetting : List Cond := .code yX5_changeSetting cX5_changeSetting 4 (some .int) :: ([.fieldLink RX5 28 "ShadowTable$State" "settings" "[I", .static yX6_isSetting, .initialized RX6, .code yX6_isSetting cX6_isSetting 1 (some .boolean), .methodLink RX6 135 yX6_isIn, .static yX6_isIn, .code yX6_isIn cX6_isIn 3 (some .boolean)] ++ wsX50)
def wsX5_rowsOf : List Cond := .code yX5_rowsOf cX5_rowsOf 2 (some (.object "ShadowTable$Rows")) :: ([.fieldLink RX5 12 "ShadowTable$State" "live" "LShadowTable$Rows;", .fieldLink RX5 24 "ShadowTable$State" "copy" "LShadowTable$Copy;", .fieldLink RX5 39 "ShadowTable$State" "hasOld" "Z", .fieldLink RX5 18 "ShadowTable$State" "old" "LShadowTable$Rows;", .methodLink RX5 71 yX5_hasCopy, .instanceMethod yX5_hasCopy, .selects RX5 yX5_hasCopy yX5_hasCopy, .initialized RX5, .code yX5_hasCopy cX5_hasCopy 1 (some .boolean)] ++ wsX50 ++ wsX00)
def wsX5_differsAt : List Cond := .code yX5_differsAt cX5_differsAt 2 (some .boolean) :: ([.fieldLink RX5 24 "ShadowTable$State" "copy" "LShadowTable$Copy;", .fieldLink RX5 12 "ShadowTable$State" "live" "LShadowTable$Rows;", .methodLink RX5 67 yX3_at, .instanceMethod yX3_at, .selects RX3 yX3_at yX3_at, .initialized RX3, .code yX3_at cX3_at 2 (some .int), .fieldLink RX3 9 "ShadowTable$Rows" "values" "[I", .static yX6_changedValue, .initialized RX6, .code yX6_changedValue cX6_changedValue 3 (some .int)] ++ wsX50 ++ wsX00 ++ wsX30)
def wsX5_canBecomeReady : List Cond := .code yX5_canBecomeReady cX5_canBecomeReady 1 (some .boolean) :: ([.fieldLink RX5 24 "ShadowTable$State" "copy" "LShadowTable$Copy;"] ++ wsX50 ++ wsX00)
def wsX5_ticksUntilReady_r1 : List Cond := [Cond.fieldLink RX5 24 "ShadowTable$State" "copy" "LShadowTable$Copy;", Cond.methodLink RX5 108 yX5_makeTick, Cond.instanceMethod yX5_makeTick, Cond.selects RX5 yX5_makeTick yX5_makeTick, Cond.initialized RX5, Cond.code yX5_makeTick cX5_makeTick 1 none, Cond.fieldLink RX5 32 "ShadowTable$State" "totals" "[I", Cond.methodLink RX5 71 yX5_hasCopy, Cond.instanceMethod yX5_hasCopy, Cond.selects RX5 yX5_hasCopy yX5_hasCopy, Cond.code yX5_hasCopy cX5_hasCopy 1 (some .boolean), Cond.methodLink RX5 111 yX5_lockRunsOut, Cond.instanceMethod yX5_lockRunsOut, Cond.selects RX5 yX5_lockRunsOut yX5_lockRunsOut, Cond.code yX5_lockRunsOut cX5_lockRunsOut 1 (some .boolean), Cond.fieldLink RX5 28 "ShadowTable$State" "settings" "[I", Cond.methodLink RX5 114 yX5_applyEntries, Cond.instanceMethod yX5_applyEntries, Cond.selects RX5 yX5_applyEntries yX5_applyEntries, Cond.code yX5_applyEntries cX5_applyEntries 4 none, Cond.methodLink RX5 126 yX2_keyAt, Cond.instanceMethod yX2_keyAt, Cond.selects RX2 yX2_keyAt yX2_keyAt, Cond.initialized RX2]
def wsX5_ticksUntilReady_r2 : List Cond := [Cond.code yX2_keyAt cX2_keyAt 2 (some .int), Cond.fieldLink RX2 22 "ShadowTable$Log" "size" "I", Cond.fieldLink RX2 9 "ShadowTable$Log" "keys" "[I", Cond.methodLink RX2 31 yX2_slotOf, Cond.instanceMethod yX2_slotOf, Cond.selects RX2 yX2_slotOf yX2_slotOf, Cond.code yX2_slotOf cX2_slotOf 2 (some .int), Cond.fieldLink RX2 18 "ShadowTable$Log" "start" "I", Cond.methodLink RX5 135 yX2_valueAt, Cond.instanceMethod yX2_valueAt, Cond.selects RX2 yX2_valueAt yX2_valueAt, Cond.code yX2_valueAt cX2_valueAt 2 (some .int), Cond.fieldLink RX2 15 "ShadowTable$Log" "values" "[I", Cond.static yX6_changedValue, Cond.initialized RX6, Cond.code yX6_changedValue cX6_changedValue 3 (some .int), Cond.methodLink RX5 88 yX3_place, Cond.instanceMethod yX3_place, Cond.selects RX3 yX3_place yX3_place, Cond.initialized RX3, Cond.code yX3_place cX3_place 3 none, Cond.fieldLink RX3 9 "ShadowTable$Rows" "values" "[I", Cond.methodLink RX5 142 yX2_removeFirst, Cond.instanceMethod yX2_removeFirst]
def wsX5_ticksUntilReady_r3 : List Cond := [Cond.selects RX2 yX2_removeFirst yX2_removeFirst, Cond.code yX2_removeFirst cX2_removeFirst 1 none, Cond.methodLink RX5 117 yX5_copyLot, Cond.instanceMethod yX5_copyLot, Cond.selects RX5 yX5_copyLot yX5_copyLot, Cond.code yX5_copyLot cX5_copyLot 3 none, Cond.fieldLink RX5 12 "ShadowTable$State" "live" "LShadowTable$Rows;", Cond.methodLink RX5 67 yX3_at, Cond.instanceMethod yX3_at, Cond.selects RX3 yX3_at yX3_at, Cond.code yX3_at cX3_at 2 (some .int), Cond.methodLink RX5 151 yX0_copyKey, Cond.instanceMethod yX0_copyKey, Cond.selects RX0 yX0_copyKey yX0_copyKey, Cond.initialized RX0, Cond.code yX0_copyKey cX0_copyKey 4 (some .boolean), Cond.fieldLink RX0 39 "ShadowTable$Copy" "cursor" "I", Cond.fieldLink RX0 33 "ShadowTable$Copy" "kind" "I", Cond.fieldLink RX0 12 "ShadowTable$Copy" "shadow" "LShadowTable$Rows;", Cond.methodLink RX0 56 yX3_at, Cond.methodLink RX0 60 yX3_place]
def wsX5_ticksUntilReady : List Cond := .code yX5_ticksUntilReady cX5_ticksUntilReady 3 (some .int) :: ((wsX5_ticksUntilReady_r1 ++ (wsX5_ticksUntilReady_r2 ++ wsX5_ticksUntilReady_r3)) ++ wsX50 ++ wsX00 ++ wsX20 ++ wsX30)
def wsX6_init_r1 : List Cond := [Cond.methodLink RX6 1 objectInit, Cond.instanceMethod objectInit, Cond.code objectInit ⟨#[0xb1]⟩ 1 none, Cond.classLink RX6 7 RX5, Cond.instantiable RX5 6, Cond.initialized RX5, Cond.fieldLink RX6 10 "ShadowTable" "state" "LShadowTable$State;", Cond.fieldLink RX6 16 "ShadowTable" "snapshot" "LShadowTable$State;", Cond.fieldLink RX6 19 "ShadowTable" "trial" "LShadowTable$State;", Cond.classLink RX6 22 RX1, Cond.instantiable RX1 3, Cond.initialized RX1, Cond.fieldLink RX6 25 "ShadowTable" "history" "LShadowTable$History;", Cond.classLink RX6 29 RX4, Cond.instantiable RX4 7, Cond.initialized RX4, Cond.fieldLink RX6 32 "ShadowTable" "script" "LShadowTable$Script;", Cond.instanceMethod yX5_init, Cond.code yX5_init cX5_init 1 none, Cond.methodLink RX5 3 objectInit, Cond.classLink RX5 9 RX3, Cond.instantiable RX3 1, Cond.initialized RX3, Cond.fieldLink RX5 12 "ShadowTable$State" "live" "LShadowTable$Rows;"]
def wsX6_init_r2 : List Cond := [Cond.fieldLink RX5 18 "ShadowTable$State" "old" "LShadowTable$Rows;", Cond.classLink RX5 21 RX0, Cond.instantiable RX0 7, Cond.initialized RX0, Cond.fieldLink RX5 24 "ShadowTable$State" "copy" "LShadowTable$Copy;", Cond.arrayClass .int, Cond.fieldLink RX5 28 "ShadowTable$State" "settings" "[I", Cond.fieldLink RX5 32 "ShadowTable$State" "totals" "[I", Cond.methodLink RX5 11 yX3_init, Cond.instanceMethod yX3_init, Cond.code yX3_init cX3_init 1 none, Cond.methodLink RX3 3 objectInit, Cond.fieldLink RX3 9 "ShadowTable$Rows" "values" "[I", Cond.methodLink RX3 15 yJ7_fill_53178, Cond.static yJ7_fill_53178, Cond.initialized RJ7, Cond.code yJ7_fill_53178 cJ7_fill_53178 4 none, Cond.instanceMethod yX0_init, Cond.code yX0_init cX0_init 1 none, Cond.methodLink RX0 3 objectInit, Cond.classLink RX0 9 RX3, Cond.fieldLink RX0 12 "ShadowTable$Copy" "shadow" "LShadowTable$Rows;", Cond.classLink RX0 18 RX2, Cond.instantiable RX2 4]
def wsX6_init_r3 : List Cond := [Cond.initialized RX2, Cond.fieldLink RX0 21 "ShadowTable$Copy" "log" "LShadowTable$Log;", Cond.fieldLink RX0 25 "ShadowTable$Copy" "phase" "I", Cond.methodLink RX0 11 yX3_init, Cond.instanceMethod yX2_init, Cond.code yX2_init cX2_init 1 none, Cond.methodLink RX2 3 objectInit, Cond.fieldLink RX2 9 "ShadowTable$Log" "keys" "[I", Cond.fieldLink RX2 15 "ShadowTable$Log" "values" "[I", Cond.methodLink RX6 24 yX1_init, Cond.instanceMethod yX1_init, Cond.code yX1_init cX1_init 2 none, Cond.methodLink RX1 3 objectInit, Cond.classLink RX1 11 RX5, Cond.fieldLink RX1 13 "ShadowTable$History" "slots" "[LShadowTable$State;", Cond.instanceMethod yX4_init, Cond.code yX4_init cX4_init 1 none, Cond.methodLink RX4 3 objectInit, Cond.fieldLink RX4 9 "ShadowTable$Script" "characters" "[I"]
def wsX6_init : List Cond := .code yX6_init cX6_init 1 none :: ((wsX6_init_r1 ++ (wsX6_init_r2 ++ wsX6_init_r3)) ++ wsX50 ++ wsX60 ++ wsX10 ++ wsX40 ++ wsX30 ++ wsX00 ++ wsX20)
def wsX6_isError : List Cond := .code yX6_isError cX6_isError 1 (some .boolean) :: ([])
def wsX6_recorded : List Cond := .code yX6_recorded cX6_recorded 2 (some .int) :: ([.fieldLink RX6 25 "ShadowTable" "history" "LShadowTable$History;", .methodLink RX6 95 yX6_isError, .static yX6_isError, .initialized RX6, .code yX6_isError cX6_isError 1 (some .boolean), .methodLink RX6 82 yX1_keepPrepared, .instanceMethod yX1_keepPrepared, .selects RX1 yX1_keepPrepared yX1_keepPrepared, .initialized RX1, .code yX1_keepPrepared cX1_keepPrepared 1 none, .fieldLink RX1 18 "ShadowTable$History" "count" "I", .fieldLink RX1 30 "ShadowTable$History" "start" "I", .methodLink RX1 22 yX1_slotOf, .instanceMethod yX1_slotOf, .selects RX1 yX1_slotOf yX1_slotOf, .code yX1_slotOf cX1_slotOf 2 (some .int)] ++ wsX60 ++ wsX10)
def wsX6_put_r1 : List Cond := [Cond.fieldLink RX6 25 "ShadowTable" "history" "LShadowTable$History;", Cond.fieldLink RX6 10 "ShadowTable" "state" "LShadowTable$State;", Cond.methodLink RX6 36 yX1_prepare, Cond.instanceMethod yX1_prepare, Cond.selects RX1 yX1_prepare yX1_prepare, Cond.initialized RX1, Cond.code yX1_prepare cX1_prepare 2 none, Cond.fieldLink RX1 13 "ShadowTable$History" "slots" "[LShadowTable$State;", Cond.fieldLink RX1 18 "ShadowTable$History" "count" "I", Cond.methodLink RX1 22 yX1_slotOf, Cond.instanceMethod yX1_slotOf, Cond.selects RX1 yX1_slotOf yX1_slotOf, Cond.code yX1_slotOf cX1_slotOf 2 (some .int), Cond.fieldLink RX1 30 "ShadowTable$History" "start" "I", Cond.methodLink RX1 26 yX5_take, Cond.instanceMethod yX5_take, Cond.selects RX5 yX5_take yX5_take, Cond.initialized RX5, Cond.code yX5_take cX5_take 2 none, Cond.fieldLink RX5 12 "ShadowTable$State" "live" "LShadowTable$Rows;", Cond.fieldLink RX5 18 "ShadowTable$State" "old" "LShadowTable$Rows;", Cond.fieldLink RX5 39 "ShadowTable$State" "hasOld" "Z", Cond.fieldLink RX5 24 "ShadowTable$State" "copy" "LShadowTable$Copy;", Cond.fieldLink RX5 28 "ShadowTable$State" "settings" "[I"]
def wsX6_put_r2 : List Cond := [Cond.methodLink RX5 46 arraycopyName, Cond.native arraycopyName, Cond.static arraycopyName, Cond.initialized "java/lang/System", Cond.fieldLink RX5 32 "ShadowTable$State" "totals" "[I", Cond.methodLink RX5 35 yX3_take, Cond.instanceMethod yX3_take, Cond.selects RX3 yX3_take yX3_take, Cond.initialized RX3, Cond.code yX3_take cX3_take 2 none, Cond.fieldLink RX3 9 "ShadowTable$Rows" "values" "[I", Cond.methodLink RX3 21 arraycopyName, Cond.methodLink RX5 43 yX0_take, Cond.instanceMethod yX0_take, Cond.selects RX0 yX0_take yX0_take, Cond.initialized RX0, Cond.code yX0_take cX0_take 2 none, Cond.fieldLink RX0 12 "ShadowTable$Copy" "shadow" "LShadowTable$Rows;", Cond.fieldLink RX0 21 "ShadowTable$Copy" "log" "LShadowTable$Log;", Cond.fieldLink RX0 25 "ShadowTable$Copy" "phase" "I", Cond.fieldLink RX0 33 "ShadowTable$Copy" "kind" "I", Cond.fieldLink RX0 36 "ShadowTable$Copy" "lot" "I", Cond.fieldLink RX0 39 "ShadowTable$Copy" "cursor" "I", Cond.fieldLink RX0 49 "ShadowTable$Copy" "age" "I"]
def wsX6_put_r3 : List Cond := [Cond.methodLink RX0 42 yX3_take, Cond.methodLink RX0 46 yX2_take, Cond.instanceMethod yX2_take, Cond.selects RX2 yX2_take yX2_take, Cond.initialized RX2, Cond.code yX2_take cX2_take 2 none, Cond.fieldLink RX2 9 "ShadowTable$Log" "keys" "[I", Cond.methodLink RX2 25 arraycopyName, Cond.fieldLink RX2 15 "ShadowTable$Log" "values" "[I", Cond.fieldLink RX2 18 "ShadowTable$Log" "start" "I", Cond.fieldLink RX2 22 "ShadowTable$Log" "size" "I", Cond.methodLink RX6 40 yX5_putRow, Cond.instanceMethod yX5_putRow, Cond.selects RX5 yX5_putRow yX5_putRow, Cond.code yX5_putRow cX5_putRow 3 (some .int), Cond.static yX6_isKey, Cond.initialized RX6, Cond.code yX6_isKey cX6_isKey 1 (some .boolean), Cond.methodLink RX6 135 yX6_isIn, Cond.static yX6_isIn, Cond.code yX6_isIn cX6_isIn 3 (some .boolean), Cond.static yX6_isValue, Cond.code yX6_isValue cX6_isValue 1 (some .boolean), Cond.methodLink RX5 63 yX5_changeRow]
def wsX6_put_r4 : List Cond := [Cond.instanceMethod yX5_changeRow, Cond.selects RX5 yX5_changeRow yX5_changeRow, Cond.code yX5_changeRow cX5_changeRow 4 (some .int), Cond.methodLink RX5 71 yX5_hasCopy, Cond.instanceMethod yX5_hasCopy, Cond.selects RX5 yX5_hasCopy yX5_hasCopy, Cond.code yX5_hasCopy cX5_hasCopy 1 (some .boolean), Cond.methodLink RX5 79 yX2_add, Cond.instanceMethod yX2_add, Cond.selects RX2 yX2_add yX2_add, Cond.code yX2_add cX2_add 4 (some .boolean), Cond.methodLink RX2 31 yX2_slotOf, Cond.instanceMethod yX2_slotOf, Cond.selects RX2 yX2_slotOf yX2_slotOf, Cond.code yX2_slotOf cX2_slotOf 2 (some .int), Cond.methodLink RX5 85 yX5_endGivenUp, Cond.instanceMethod yX5_endGivenUp, Cond.selects RX5 yX5_endGivenUp yX5_endGivenUp, Cond.code yX5_endGivenUp cX5_endGivenUp 1 none, Cond.methodLink RX5 67 yX3_at, Cond.instanceMethod yX3_at, Cond.selects RX3 yX3_at yX3_at, Cond.code yX3_at cX3_at 2 (some .int), Cond.methodLink RX5 88 yX3_place]
def wsX6_put_r5 : List Cond := [Cond.instanceMethod yX3_place, Cond.selects RX3 yX3_place yX3_place, Cond.code yX3_place cX3_place 3 none, Cond.methodLink RX6 44 yX6_recorded, Cond.instanceMethod yX6_recorded, Cond.selects RX6 yX6_recorded yX6_recorded, Cond.code yX6_recorded cX6_recorded 2 (some .int), Cond.methodLink RX6 95 yX6_isError, Cond.static yX6_isError, Cond.code yX6_isError cX6_isError 1 (some .boolean), Cond.methodLink RX6 82 yX1_keepPrepared, Cond.instanceMethod yX1_keepPrepared, Cond.selects RX1 yX1_keepPrepared yX1_keepPrepared, Cond.code yX1_keepPrepared cX1_keepPrepared 1 none]
def wsX6_put : List Cond := .code yX6_put cX6_put 3 (some .int) :: ((wsX6_put_r1 ++ (wsX6_put_r2 ++ (wsX6_put_r3 ++ (wsX6_put_r4 ++ wsX6_put_r5)))) ++ wsX60 ++ wsX10 ++ wsX50 ++ wsX30 ++ wsX00 ++ wsX20)
def wsX6_erase_r1 : List Cond := [Cond.fieldLink RX6 25 "ShadowTable" "history" "LShadowTable$History;", Cond.fieldLink RX6 10 "ShadowTable" "state" "LShadowTable$State;", Cond.methodLink RX6 36 yX1_prepare, Cond.instanceMethod yX1_prepare, Cond.selects RX1 yX1_prepare yX1_prepare, Cond.initialized RX1, Cond.code yX1_prepare cX1_prepare 2 none, Cond.fieldLink RX1 13 "ShadowTable$History" "slots" "[LShadowTable$State;", Cond.fieldLink RX1 18 "ShadowTable$History" "count" "I", Cond.methodLink RX1 22 yX1_slotOf, Cond.instanceMethod yX1_slotOf, Cond.selects RX1 yX1_slotOf yX1_slotOf, Cond.code yX1_slotOf cX1_slotOf 2 (some .int), Cond.fieldLink RX1 30 "ShadowTable$History" "start" "I", Cond.methodLink RX1 26 yX5_take, Cond.instanceMethod yX5_take, Cond.selects RX5 yX5_take yX5_take, Cond.initialized RX5, Cond.code yX5_take cX5_take 2 none, Cond.fieldLink RX5 12 "ShadowTable$State" "live" "LShadowTable$Rows;", Cond.fieldLink RX5 18 "ShadowTable$State" "old" "LShadowTable$Rows;", Cond.fieldLink RX5 39 "ShadowTable$State" "hasOld" "Z", Cond.fieldLink RX5 24 "ShadowTable$State" "copy" "LShadowTable$Copy;", Cond.fieldLink RX5 28 "ShadowTable$State" "settings" "[I"]
def wsX6_erase_r2 : List Cond := [Cond.methodLink RX5 46 arraycopyName, Cond.native arraycopyName, Cond.static arraycopyName, Cond.initialized "java/lang/System", Cond.fieldLink RX5 32 "ShadowTable$State" "totals" "[I", Cond.methodLink RX5 35 yX3_take, Cond.instanceMethod yX3_take, Cond.selects RX3 yX3_take yX3_take, Cond.initialized RX3, Cond.code yX3_take cX3_take 2 none, Cond.fieldLink RX3 9 "ShadowTable$Rows" "values" "[I", Cond.methodLink RX3 21 arraycopyName, Cond.methodLink RX5 43 yX0_take, Cond.instanceMethod yX0_take, Cond.selects RX0 yX0_take yX0_take, Cond.initialized RX0, Cond.code yX0_take cX0_take 2 none, Cond.fieldLink RX0 12 "ShadowTable$Copy" "shadow" "LShadowTable$Rows;", Cond.fieldLink RX0 21 "ShadowTable$Copy" "log" "LShadowTable$Log;", Cond.fieldLink RX0 25 "ShadowTable$Copy" "phase" "I", Cond.fieldLink RX0 33 "ShadowTable$Copy" "kind" "I", Cond.fieldLink RX0 36 "ShadowTable$Copy" "lot" "I", Cond.fieldLink RX0 39 "ShadowTable$Copy" "cursor" "I", Cond.fieldLink RX0 49 "ShadowTable$Copy" "age" "I"]
def wsX6_erase_r3 : List Cond := [Cond.methodLink RX0 42 yX3_take, Cond.methodLink RX0 46 yX2_take, Cond.instanceMethod yX2_take, Cond.selects RX2 yX2_take yX2_take, Cond.initialized RX2, Cond.code yX2_take cX2_take 2 none, Cond.fieldLink RX2 9 "ShadowTable$Log" "keys" "[I", Cond.methodLink RX2 25 arraycopyName, Cond.fieldLink RX2 15 "ShadowTable$Log" "values" "[I", Cond.fieldLink RX2 18 "ShadowTable$Log" "start" "I", Cond.fieldLink RX2 22 "ShadowTable$Log" "size" "I", Cond.methodLink RX6 48 yX5_eraseRow, Cond.instanceMethod yX5_eraseRow, Cond.selects RX5 yX5_eraseRow yX5_eraseRow, Cond.code yX5_eraseRow cX5_eraseRow 2 (some .int), Cond.static yX6_isKey, Cond.initialized RX6, Cond.code yX6_isKey cX6_isKey 1 (some .boolean), Cond.methodLink RX6 135 yX6_isIn, Cond.static yX6_isIn, Cond.code yX6_isIn cX6_isIn 3 (some .boolean), Cond.methodLink RX5 67 yX3_at, Cond.instanceMethod yX3_at, Cond.selects RX3 yX3_at yX3_at]
def wsX6_erase_r4 : List Cond := [Cond.code yX3_at cX3_at 2 (some .int), Cond.methodLink RX5 63 yX5_changeRow, Cond.instanceMethod yX5_changeRow, Cond.selects RX5 yX5_changeRow yX5_changeRow, Cond.code yX5_changeRow cX5_changeRow 4 (some .int), Cond.methodLink RX5 71 yX5_hasCopy, Cond.instanceMethod yX5_hasCopy, Cond.selects RX5 yX5_hasCopy yX5_hasCopy, Cond.code yX5_hasCopy cX5_hasCopy 1 (some .boolean), Cond.methodLink RX5 79 yX2_add, Cond.instanceMethod yX2_add, Cond.selects RX2 yX2_add yX2_add, Cond.code yX2_add cX2_add 4 (some .boolean), Cond.methodLink RX2 31 yX2_slotOf, Cond.instanceMethod yX2_slotOf, Cond.selects RX2 yX2_slotOf yX2_slotOf, Cond.code yX2_slotOf cX2_slotOf 2 (some .int), Cond.methodLink RX5 85 yX5_endGivenUp, Cond.instanceMethod yX5_endGivenUp, Cond.selects RX5 yX5_endGivenUp yX5_endGivenUp, Cond.code yX5_endGivenUp cX5_endGivenUp 1 none, Cond.methodLink RX5 88 yX3_place, Cond.instanceMethod yX3_place, Cond.selects RX3 yX3_place yX3_place]
def wsX6_erase_r5 : List Cond := [Cond.code yX3_place cX3_place 3 none, Cond.methodLink RX6 44 yX6_recorded, Cond.instanceMethod yX6_recorded, Cond.selects RX6 yX6_recorded yX6_recorded, Cond.code yX6_recorded cX6_recorded 2 (some .int), Cond.methodLink RX6 95 yX6_isError, Cond.static yX6_isError, Cond.code yX6_isError cX6_isError 1 (some .boolean), Cond.methodLink RX6 82 yX1_keepPrepared, Cond.instanceMethod yX1_keepPrepared, Cond.selects RX1 yX1_keepPrepared yX1_keepPrepared, Cond.code yX1_keepPrepared cX1_keepPrepared 1 none]
def wsX6_erase : List Cond := .code yX6_erase cX6_erase 2 (some .int) :: ((wsX6_erase_r1 ++ (wsX6_erase_r2 ++ (wsX6_erase_r3 ++ (wsX6_erase_r4 ++ wsX6_erase_r5)))) ++ wsX60 ++ wsX10 ++ wsX50 ++ wsX30 ++ wsX00 ++ wsX20)
def wsX6_begin_r1 : List Cond := [Cond.fieldLink RX6 25 "ShadowTable" "history" "LShadowTable$History;", Cond.fieldLink RX6 10 "ShadowTable" "state" "LShadowTable$State;", Cond.methodLink RX6 36 yX1_prepare, Cond.instanceMethod yX1_prepare, Cond.selects RX1 yX1_prepare yX1_prepare, Cond.initialized RX1, Cond.code yX1_prepare cX1_prepare 2 none, Cond.fieldLink RX1 13 "ShadowTable$History" "slots" "[LShadowTable$State;", Cond.fieldLink RX1 18 "ShadowTable$History" "count" "I", Cond.methodLink RX1 22 yX1_slotOf, Cond.instanceMethod yX1_slotOf, Cond.selects RX1 yX1_slotOf yX1_slotOf, Cond.code yX1_slotOf cX1_slotOf 2 (some .int), Cond.fieldLink RX1 30 "ShadowTable$History" "start" "I", Cond.methodLink RX1 26 yX5_take, Cond.instanceMethod yX5_take, Cond.selects RX5 yX5_take yX5_take, Cond.initialized RX5, Cond.code yX5_take cX5_take 2 none, Cond.fieldLink RX5 12 "ShadowTable$State" "live" "LShadowTable$Rows;", Cond.fieldLink RX5 18 "ShadowTable$State" "old" "LShadowTable$Rows;", Cond.fieldLink RX5 39 "ShadowTable$State" "hasOld" "Z", Cond.fieldLink RX5 24 "ShadowTable$State" "copy" "LShadowTable$Copy;", Cond.fieldLink RX5 28 "ShadowTable$State" "settings" "[I"]
def wsX6_begin_r2 : List Cond := [Cond.methodLink RX5 46 arraycopyName, Cond.native arraycopyName, Cond.static arraycopyName, Cond.initialized "java/lang/System", Cond.fieldLink RX5 32 "ShadowTable$State" "totals" "[I", Cond.methodLink RX5 35 yX3_take, Cond.instanceMethod yX3_take, Cond.selects RX3 yX3_take yX3_take, Cond.initialized RX3, Cond.code yX3_take cX3_take 2 none, Cond.fieldLink RX3 9 "ShadowTable$Rows" "values" "[I", Cond.methodLink RX3 21 arraycopyName, Cond.methodLink RX5 43 yX0_take, Cond.instanceMethod yX0_take, Cond.selects RX0 yX0_take yX0_take, Cond.initialized RX0, Cond.code yX0_take cX0_take 2 none, Cond.fieldLink RX0 12 "ShadowTable$Copy" "shadow" "LShadowTable$Rows;", Cond.fieldLink RX0 21 "ShadowTable$Copy" "log" "LShadowTable$Log;", Cond.fieldLink RX0 25 "ShadowTable$Copy" "phase" "I", Cond.fieldLink RX0 33 "ShadowTable$Copy" "kind" "I", Cond.fieldLink RX0 36 "ShadowTable$Copy" "lot" "I", Cond.fieldLink RX0 39 "ShadowTable$Copy" "cursor" "I", Cond.fieldLink RX0 49 "ShadowTable$Copy" "age" "I"]
def wsX6_begin_r3 : List Cond := [Cond.methodLink RX0 42 yX3_take, Cond.methodLink RX0 46 yX2_take, Cond.instanceMethod yX2_take, Cond.selects RX2 yX2_take yX2_take, Cond.initialized RX2, Cond.code yX2_take cX2_take 2 none, Cond.fieldLink RX2 9 "ShadowTable$Log" "keys" "[I", Cond.methodLink RX2 25 arraycopyName, Cond.fieldLink RX2 15 "ShadowTable$Log" "values" "[I", Cond.fieldLink RX2 18 "ShadowTable$Log" "start" "I", Cond.fieldLink RX2 22 "ShadowTable$Log" "size" "I", Cond.methodLink RX6 51 yX5_beginCopy, Cond.instanceMethod yX5_beginCopy, Cond.selects RX5 yX5_beginCopy yX5_beginCopy, Cond.code yX5_beginCopy cX5_beginCopy 3 (some .int), Cond.static yX6_isKind, Cond.initialized RX6, Cond.code yX6_isKind cX6_isKind 1 (some .boolean), Cond.methodLink RX6 135 yX6_isIn, Cond.static yX6_isIn, Cond.code yX6_isIn cX6_isIn 3 (some .boolean), Cond.static yX6_isLot, Cond.code yX6_isLot cX6_isLot 1 (some .boolean), Cond.methodLink RX5 71 yX5_hasCopy]
def wsX6_begin_r4 : List Cond := [Cond.instanceMethod yX5_hasCopy, Cond.selects RX5 yX5_hasCopy yX5_hasCopy, Cond.code yX5_hasCopy cX5_hasCopy 1 (some .boolean), Cond.methodLink RX5 98 yX0_start, Cond.instanceMethod yX0_start, Cond.selects RX0 yX0_start yX0_start, Cond.code yX0_start cX0_start 3 none, Cond.methodLink RX0 29 yX3_removeAll, Cond.instanceMethod yX3_removeAll, Cond.selects RX3 yX3_removeAll yX3_removeAll, Cond.code yX3_removeAll cX3_removeAll 1 none, Cond.methodLink RX3 15 yJ7_fill_53178, Cond.static yJ7_fill_53178, Cond.initialized RJ7, Cond.code yJ7_fill_53178 cJ7_fill_53178 4 none, Cond.methodLink RX0 32 yX2_removeAll, Cond.instanceMethod yX2_removeAll, Cond.selects RX2 yX2_removeAll yX2_removeAll, Cond.code yX2_removeAll cX2_removeAll 1 none, Cond.methodLink RX5 101 yX3_count, Cond.instanceMethod yX3_count, Cond.selects RX3 yX3_count yX3_count, Cond.code yX3_count cX3_count 3 (some .int), Cond.methodLink RX6 44 yX6_recorded]
def wsX6_begin_r5 : List Cond := [Cond.instanceMethod yX6_recorded, Cond.selects RX6 yX6_recorded yX6_recorded, Cond.code yX6_recorded cX6_recorded 2 (some .int), Cond.methodLink RX6 95 yX6_isError, Cond.static yX6_isError, Cond.code yX6_isError cX6_isError 1 (some .boolean), Cond.methodLink RX6 82 yX1_keepPrepared, Cond.instanceMethod yX1_keepPrepared, Cond.selects RX1 yX1_keepPrepared yX1_keepPrepared, Cond.code yX1_keepPrepared cX1_keepPrepared 1 none]
def wsX6_begin : List Cond := .code yX6_begin cX6_begin 3 (some .int) :: ((wsX6_begin_r1 ++ (wsX6_begin_r2 ++ (wsX6_begin_r3 ++ (wsX6_begin_r4 ++ wsX6_begin_r5)))) ++ wsX60 ++ wsX10 ++ wsX50 ++ wsX30 ++ wsX00 ++ wsX20)
def wsX6_tick_r1 : List Cond := [Cond.fieldLink RX6 25 "ShadowTable" "history" "LShadowTable$History;", Cond.fieldLink RX6 10 "ShadowTable" "state" "LShadowTable$State;", Cond.methodLink RX6 36 yX1_prepare, Cond.instanceMethod yX1_prepare, Cond.selects RX1 yX1_prepare yX1_prepare, Cond.initialized RX1, Cond.code yX1_prepare cX1_prepare 2 none, Cond.fieldLink RX1 13 "ShadowTable$History" "slots" "[LShadowTable$State;", Cond.fieldLink RX1 18 "ShadowTable$History" "count" "I", Cond.methodLink RX1 22 yX1_slotOf, Cond.instanceMethod yX1_slotOf, Cond.selects RX1 yX1_slotOf yX1_slotOf, Cond.code yX1_slotOf cX1_slotOf 2 (some .int), Cond.fieldLink RX1 30 "ShadowTable$History" "start" "I", Cond.methodLink RX1 26 yX5_take, Cond.instanceMethod yX5_take, Cond.selects RX5 yX5_take yX5_take, Cond.initialized RX5, Cond.code yX5_take cX5_take 2 none, Cond.fieldLink RX5 12 "ShadowTable$State" "live" "LShadowTable$Rows;", Cond.fieldLink RX5 18 "ShadowTable$State" "old" "LShadowTable$Rows;", Cond.fieldLink RX5 39 "ShadowTable$State" "hasOld" "Z", Cond.fieldLink RX5 24 "ShadowTable$State" "copy" "LShadowTable$Copy;", Cond.fieldLink RX5 28 "ShadowTable$State" "settings" "[I"]
def wsX6_tick_r2 : List Cond := [Cond.methodLink RX5 46 arraycopyName, Cond.native arraycopyName, Cond.static arraycopyName, Cond.initialized "java/lang/System", Cond.fieldLink RX5 32 "ShadowTable$State" "totals" "[I", Cond.methodLink RX5 35 yX3_take, Cond.instanceMethod yX3_take, Cond.selects RX3 yX3_take yX3_take, Cond.initialized RX3, Cond.code yX3_take cX3_take 2 none, Cond.fieldLink RX3 9 "ShadowTable$Rows" "values" "[I", Cond.methodLink RX3 21 arraycopyName, Cond.methodLink RX5 43 yX0_take, Cond.instanceMethod yX0_take, Cond.selects RX0 yX0_take yX0_take, Cond.initialized RX0, Cond.code yX0_take cX0_take 2 none, Cond.fieldLink RX0 12 "ShadowTable$Copy" "shadow" "LShadowTable$Rows;", Cond.fieldLink RX0 21 "ShadowTable$Copy" "log" "LShadowTable$Log;", Cond.fieldLink RX0 25 "ShadowTable$Copy" "phase" "I", Cond.fieldLink RX0 33 "ShadowTable$Copy" "kind" "I", Cond.fieldLink RX0 36 "ShadowTable$Copy" "lot" "I", Cond.fieldLink RX0 39 "ShadowTable$Copy" "cursor" "I", Cond.fieldLink RX0 49 "ShadowTable$Copy" "age" "I"]
def wsX6_tick_r3 : List Cond := [Cond.methodLink RX0 42 yX3_take, Cond.methodLink RX0 46 yX2_take, Cond.instanceMethod yX2_take, Cond.selects RX2 yX2_take yX2_take, Cond.initialized RX2, Cond.code yX2_take cX2_take 2 none, Cond.fieldLink RX2 9 "ShadowTable$Log" "keys" "[I", Cond.methodLink RX2 25 arraycopyName, Cond.fieldLink RX2 15 "ShadowTable$Log" "values" "[I", Cond.fieldLink RX2 18 "ShadowTable$Log" "start" "I", Cond.fieldLink RX2 22 "ShadowTable$Log" "size" "I", Cond.methodLink RX6 54 yX5_makeTicks, Cond.instanceMethod yX5_makeTicks, Cond.selects RX5 yX5_makeTicks yX5_makeTicks, Cond.code yX5_makeTicks cX5_makeTicks 3 (some .int), Cond.static yX6_isTicks, Cond.initialized RX6, Cond.code yX6_isTicks cX6_isTicks 1 (some .boolean), Cond.methodLink RX6 135 yX6_isIn, Cond.static yX6_isIn, Cond.code yX6_isIn cX6_isIn 3 (some .boolean), Cond.methodLink RX5 108 yX5_makeTick, Cond.instanceMethod yX5_makeTick, Cond.selects RX5 yX5_makeTick yX5_makeTick]
def wsX6_tick_r4 : List Cond := [Cond.code yX5_makeTick cX5_makeTick 1 none, Cond.methodLink RX5 71 yX5_hasCopy, Cond.instanceMethod yX5_hasCopy, Cond.selects RX5 yX5_hasCopy yX5_hasCopy, Cond.code yX5_hasCopy cX5_hasCopy 1 (some .boolean), Cond.methodLink RX5 111 yX5_lockRunsOut, Cond.instanceMethod yX5_lockRunsOut, Cond.selects RX5 yX5_lockRunsOut yX5_lockRunsOut, Cond.code yX5_lockRunsOut cX5_lockRunsOut 1 (some .boolean), Cond.methodLink RX5 114 yX5_applyEntries, Cond.instanceMethod yX5_applyEntries, Cond.selects RX5 yX5_applyEntries yX5_applyEntries, Cond.code yX5_applyEntries cX5_applyEntries 4 none, Cond.methodLink RX5 126 yX2_keyAt, Cond.instanceMethod yX2_keyAt, Cond.selects RX2 yX2_keyAt yX2_keyAt, Cond.code yX2_keyAt cX2_keyAt 2 (some .int), Cond.methodLink RX2 31 yX2_slotOf, Cond.instanceMethod yX2_slotOf, Cond.selects RX2 yX2_slotOf yX2_slotOf, Cond.code yX2_slotOf cX2_slotOf 2 (some .int), Cond.methodLink RX5 135 yX2_valueAt, Cond.instanceMethod yX2_valueAt, Cond.selects RX2 yX2_valueAt yX2_valueAt]
def wsX6_tick_r5 : List Cond := [Cond.code yX2_valueAt cX2_valueAt 2 (some .int), Cond.static yX6_changedValue, Cond.code yX6_changedValue cX6_changedValue 3 (some .int), Cond.methodLink RX5 88 yX3_place, Cond.instanceMethod yX3_place, Cond.selects RX3 yX3_place yX3_place, Cond.code yX3_place cX3_place 3 none, Cond.methodLink RX5 142 yX2_removeFirst, Cond.instanceMethod yX2_removeFirst, Cond.selects RX2 yX2_removeFirst yX2_removeFirst, Cond.code yX2_removeFirst cX2_removeFirst 1 none, Cond.methodLink RX5 117 yX5_copyLot, Cond.instanceMethod yX5_copyLot, Cond.selects RX5 yX5_copyLot yX5_copyLot, Cond.code yX5_copyLot cX5_copyLot 3 none, Cond.methodLink RX5 67 yX3_at, Cond.instanceMethod yX3_at, Cond.selects RX3 yX3_at yX3_at, Cond.code yX3_at cX3_at 2 (some .int), Cond.methodLink RX5 151 yX0_copyKey, Cond.instanceMethod yX0_copyKey, Cond.selects RX0 yX0_copyKey yX0_copyKey, Cond.code yX0_copyKey cX0_copyKey 4 (some .boolean), Cond.methodLink RX0 56 yX3_at]
def wsX6_tick_r6 : List Cond := [Cond.methodLink RX0 60 yX3_place, Cond.methodLink RX6 44 yX6_recorded, Cond.instanceMethod yX6_recorded, Cond.selects RX6 yX6_recorded yX6_recorded, Cond.code yX6_recorded cX6_recorded 2 (some .int), Cond.methodLink RX6 95 yX6_isError, Cond.static yX6_isError, Cond.code yX6_isError cX6_isError 1 (some .boolean), Cond.methodLink RX6 82 yX1_keepPrepared, Cond.instanceMethod yX1_keepPrepared, Cond.selects RX1 yX1_keepPrepared yX1_keepPrepared, Cond.code yX1_keepPrepared cX1_keepPrepared 1 none]
def wsX6_tick : List Cond := .code yX6_tick cX6_tick 2 (some .int) :: ((wsX6_tick_r1 ++ (wsX6_tick_r2 ++ (wsX6_tick_r3 ++ (wsX6_tick_r4 ++ (wsX6_tick_r5 ++ wsX6_tick_r6))))) ++ wsX60 ++ wsX10 ++ wsX50 ++ wsX30 ++ wsX00 ++ wsX20)
def wsX6_lock_r1 : List Cond := [Cond.fieldLink RX6 25 "ShadowTable" "history" "LShadowTable$History;", Cond.fieldLink RX6 10 "ShadowTable" "state" "LShadowTable$State;", Cond.methodLink RX6 36 yX1_prepare, Cond.instanceMethod yX1_prepare, Cond.selects RX1 yX1_prepare yX1_prepare, Cond.initialized RX1, Cond.code yX1_prepare cX1_prepare 2 none, Cond.fieldLink RX1 13 "ShadowTable$History" "slots" "[LShadowTable$State;", Cond.fieldLink RX1 18 "ShadowTable$History" "count" "I", Cond.methodLink RX1 22 yX1_slotOf, Cond.instanceMethod yX1_slotOf, Cond.selects RX1 yX1_slotOf yX1_slotOf, Cond.code yX1_slotOf cX1_slotOf 2 (some .int), Cond.fieldLink RX1 30 "ShadowTable$History" "start" "I", Cond.methodLink RX1 26 yX5_take, Cond.instanceMethod yX5_take, Cond.selects RX5 yX5_take yX5_take, Cond.initialized RX5, Cond.code yX5_take cX5_take 2 none, Cond.fieldLink RX5 12 "ShadowTable$State" "live" "LShadowTable$Rows;", Cond.fieldLink RX5 18 "ShadowTable$State" "old" "LShadowTable$Rows;", Cond.fieldLink RX5 39 "ShadowTable$State" "hasOld" "Z", Cond.fieldLink RX5 24 "ShadowTable$State" "copy" "LShadowTable$Copy;", Cond.fieldLink RX5 28 "ShadowTable$State" "settings" "[I"]
def wsX6_lock_r2 : List Cond := [Cond.methodLink RX5 46 arraycopyName, Cond.native arraycopyName, Cond.static arraycopyName, Cond.initialized "java/lang/System", Cond.fieldLink RX5 32 "ShadowTable$State" "totals" "[I", Cond.methodLink RX5 35 yX3_take, Cond.instanceMethod yX3_take, Cond.selects RX3 yX3_take yX3_take, Cond.initialized RX3, Cond.code yX3_take cX3_take 2 none, Cond.fieldLink RX3 9 "ShadowTable$Rows" "values" "[I", Cond.methodLink RX3 21 arraycopyName, Cond.methodLink RX5 43 yX0_take, Cond.instanceMethod yX0_take, Cond.selects RX0 yX0_take yX0_take, Cond.initialized RX0, Cond.code yX0_take cX0_take 2 none, Cond.fieldLink RX0 12 "ShadowTable$Copy" "shadow" "LShadowTable$Rows;", Cond.fieldLink RX0 21 "ShadowTable$Copy" "log" "LShadowTable$Log;", Cond.fieldLink RX0 25 "ShadowTable$Copy" "phase" "I", Cond.fieldLink RX0 33 "ShadowTable$Copy" "kind" "I", Cond.fieldLink RX0 36 "ShadowTable$Copy" "lot" "I", Cond.fieldLink RX0 39 "ShadowTable$Copy" "cursor" "I", Cond.fieldLink RX0 49 "ShadowTable$Copy" "age" "I"]
def wsX6_lock_r3 : List Cond := [Cond.methodLink RX0 42 yX3_take, Cond.methodLink RX0 46 yX2_take, Cond.instanceMethod yX2_take, Cond.selects RX2 yX2_take yX2_take, Cond.initialized RX2, Cond.code yX2_take cX2_take 2 none, Cond.fieldLink RX2 9 "ShadowTable$Log" "keys" "[I", Cond.methodLink RX2 25 arraycopyName, Cond.fieldLink RX2 15 "ShadowTable$Log" "values" "[I", Cond.fieldLink RX2 18 "ShadowTable$Log" "start" "I", Cond.fieldLink RX2 22 "ShadowTable$Log" "size" "I", Cond.methodLink RX6 57 yX5_lockLive, Cond.instanceMethod yX5_lockLive, Cond.selects RX5 yX5_lockLive yX5_lockLive, Cond.code yX5_lockLive cX5_lockLive 1 (some .int), Cond.methodLink RX6 44 yX6_recorded, Cond.instanceMethod yX6_recorded, Cond.selects RX6 yX6_recorded yX6_recorded, Cond.initialized RX6, Cond.code yX6_recorded cX6_recorded 2 (some .int), Cond.methodLink RX6 95 yX6_isError, Cond.static yX6_isError, Cond.code yX6_isError cX6_isError 1 (some .boolean), Cond.methodLink RX6 82 yX1_keepPrepared]
def wsX6_lock_r4 : List Cond := [Cond.instanceMethod yX1_keepPrepared, Cond.selects RX1 yX1_keepPrepared yX1_keepPrepared, Cond.code yX1_keepPrepared cX1_keepPrepared 1 none]
def wsX6_lock : List Cond := .code yX6_lock cX6_lock 1 (some .int) :: ((wsX6_lock_r1 ++ (wsX6_lock_r2 ++ (wsX6_lock_r3 ++ wsX6_lock_r4))) ++ wsX60 ++ wsX10 ++ wsX50 ++ wsX30 ++ wsX00 ++ wsX20)
def wsX6_unlock_r1 : List Cond := [Cond.fieldLink RX6 25 "ShadowTable" "history" "LShadowTable$History;", Cond.fieldLink RX6 10 "ShadowTable" "state" "LShadowTable$State;", Cond.methodLink RX6 36 yX1_prepare, Cond.instanceMethod yX1_prepare, Cond.selects RX1 yX1_prepare yX1_prepare, Cond.initialized RX1, Cond.code yX1_prepare cX1_prepare 2 none, Cond.fieldLink RX1 13 "ShadowTable$History" "slots" "[LShadowTable$State;", Cond.fieldLink RX1 18 "ShadowTable$History" "count" "I", Cond.methodLink RX1 22 yX1_slotOf, Cond.instanceMethod yX1_slotOf, Cond.selects RX1 yX1_slotOf yX1_slotOf, Cond.code yX1_slotOf cX1_slotOf 2 (some .int), Cond.fieldLink RX1 30 "ShadowTable$History" "start" "I", Cond.methodLink RX1 26 yX5_take, Cond.instanceMethod yX5_take, Cond.selects RX5 yX5_take yX5_take, Cond.initialized RX5, Cond.code yX5_take cX5_take 2 none, Cond.fieldLink RX5 12 "ShadowTable$State" "live" "LShadowTable$Rows;", Cond.fieldLink RX5 18 "ShadowTable$State" "old" "LShadowTable$Rows;", Cond.fieldLink RX5 39 "ShadowTable$State" "hasOld" "Z", Cond.fieldLink RX5 24 "ShadowTable$State" "copy" "LShadowTable$Copy;", Cond.fieldLink RX5 28 "ShadowTable$State" "settings" "[I"]
def wsX6_unlock_r2 : List Cond := [Cond.methodLink RX5 46 arraycopyName, Cond.native arraycopyName, Cond.static arraycopyName, Cond.initialized "java/lang/System", Cond.fieldLink RX5 32 "ShadowTable$State" "totals" "[I", Cond.methodLink RX5 35 yX3_take, Cond.instanceMethod yX3_take, Cond.selects RX3 yX3_take yX3_take, Cond.initialized RX3, Cond.code yX3_take cX3_take 2 none, Cond.fieldLink RX3 9 "ShadowTable$Rows" "values" "[I", Cond.methodLink RX3 21 arraycopyName, Cond.methodLink RX5 43 yX0_take, Cond.instanceMethod yX0_take, Cond.selects RX0 yX0_take yX0_take, Cond.initialized RX0, Cond.code yX0_take cX0_take 2 none, Cond.fieldLink RX0 12 "ShadowTable$Copy" "shadow" "LShadowTable$Rows;", Cond.fieldLink RX0 21 "ShadowTable$Copy" "log" "LShadowTable$Log;", Cond.fieldLink RX0 25 "ShadowTable$Copy" "phase" "I", Cond.fieldLink RX0 33 "ShadowTable$Copy" "kind" "I", Cond.fieldLink RX0 36 "ShadowTable$Copy" "lot" "I", Cond.fieldLink RX0 39 "ShadowTable$Copy" "cursor" "I", Cond.fieldLink RX0 49 "ShadowTable$Copy" "age" "I"]
def wsX6_unlock_r3 : List Cond := [Cond.methodLink RX0 42 yX3_take, Cond.methodLink RX0 46 yX2_take, Cond.instanceMethod yX2_take, Cond.selects RX2 yX2_take yX2_take, Cond.initialized RX2, Cond.code yX2_take cX2_take 2 none, Cond.fieldLink RX2 9 "ShadowTable$Log" "keys" "[I", Cond.methodLink RX2 25 arraycopyName, Cond.fieldLink RX2 15 "ShadowTable$Log" "values" "[I", Cond.fieldLink RX2 18 "ShadowTable$Log" "start" "I", Cond.fieldLink RX2 22 "ShadowTable$Log" "size" "I", Cond.methodLink RX6 61 yX5_unlockLive, Cond.instanceMethod yX5_unlockLive, Cond.selects RX5 yX5_unlockLive yX5_unlockLive, Cond.code yX5_unlockLive cX5_unlockLive 1 (some .int), Cond.methodLink RX6 44 yX6_recorded, Cond.instanceMethod yX6_recorded, Cond.selects RX6 yX6_recorded yX6_recorded, Cond.initialized RX6, Cond.code yX6_recorded cX6_recorded 2 (some .int), Cond.methodLink RX6 95 yX6_isError, Cond.static yX6_isError, Cond.code yX6_isError cX6_isError 1 (some .boolean), Cond.methodLink RX6 82 yX1_keepPrepared]
def wsX6_unlock_r4 : List Cond := [Cond.instanceMethod yX1_keepPrepared, Cond.selects RX1 yX1_keepPrepared yX1_keepPrepared, Cond.code yX1_keepPrepared cX1_keepPrepared 1 none]
def wsX6_unlock : List Cond := .code yX6_unlock cX6_unlock 1 (some .int) :: ((wsX6_unlock_r1 ++ (wsX6_unlock_r2 ++ (wsX6_unlock_r3 ++ wsX6_unlock_r4))) ++ wsX60 ++ wsX10 ++ wsX50 ++ wsX30 ++ wsX00 ++ wsX20)
def wsX6_swap_r1 : List Cond := [Cond.fieldLink RX6 25 "ShadowTable" "history" "LShadowTable$History;", Cond.fieldLink RX6 10 "ShadowTable" "state" "LShadowTable$State;", Cond.methodLink RX6 36 yX1_prepare, Cond.instanceMethod yX1_prepare, Cond.selects RX1 yX1_prepare yX1_prepare, Cond.initialized RX1, Cond.code yX1_prepare cX1_prepare 2 none, Cond.fieldLink RX1 13 "ShadowTable$History" "slots" "[LShadowTable$State;", Cond.fieldLink RX1 18 "ShadowTable$History" "count" "I", Cond.methodLink RX1 22 yX1_slotOf, Cond.instanceMethod yX1_slotOf, Cond.selects RX1 yX1_slotOf yX1_slotOf, Cond.code yX1_slotOf cX1_slotOf 2 (some .int), Cond.fieldLink RX1 30 "ShadowTable$History" "start" "I", Cond.methodLink RX1 26 yX5_take, Cond.instanceMethod yX5_take, Cond.selects RX5 yX5_take yX5_take, Cond.initialized RX5, Cond.code yX5_take cX5_take 2 none, Cond.fieldLink RX5 12 "ShadowTable$State" "live" "LShadowTable$Rows;", Cond.fieldLink RX5 18 "ShadowTable$State" "old" "LShadowTable$Rows;", Cond.fieldLink RX5 39 "ShadowTable$State" "hasOld" "Z", Cond.fieldLink RX5 24 "ShadowTable$State" "copy" "LShadowTable$Copy;", Cond.fieldLink RX5 28 "ShadowTable$State" "settings" "[I"]
def wsX6_swap_r2 : List Cond := [Cond.methodLink RX5 46 arraycopyName, Cond.native arraycopyName, Cond.static arraycopyName, Cond.initialized "java/lang/System", Cond.fieldLink RX5 32 "ShadowTable$State" "totals" "[I", Cond.methodLink RX5 35 yX3_take, Cond.instanceMethod yX3_take, Cond.selects RX3 yX3_take yX3_take, Cond.initialized RX3, Cond.code yX3_take cX3_take 2 none, Cond.fieldLink RX3 9 "ShadowTable$Rows" "values" "[I", Cond.methodLink RX3 21 arraycopyName, Cond.methodLink RX5 43 yX0_take, Cond.instanceMethod yX0_take, Cond.selects RX0 yX0_take yX0_take, Cond.initialized RX0, Cond.code yX0_take cX0_take 2 none, Cond.fieldLink RX0 12 "ShadowTable$Copy" "shadow" "LShadowTable$Rows;", Cond.fieldLink RX0 21 "ShadowTable$Copy" "log" "LShadowTable$Log;", Cond.fieldLink RX0 25 "ShadowTable$Copy" "phase" "I", Cond.fieldLink RX0 33 "ShadowTable$Copy" "kind" "I", Cond.fieldLink RX0 36 "ShadowTable$Copy" "lot" "I", Cond.fieldLink RX0 39 "ShadowTable$Copy" "cursor" "I", Cond.fieldLink RX0 49 "ShadowTable$Copy" "age" "I"]
def wsX6_swap_r3 : List Cond := [Cond.methodLink RX0 42 yX3_take, Cond.methodLink RX0 46 yX2_take, Cond.instanceMethod yX2_take, Cond.selects RX2 yX2_take yX2_take, Cond.initialized RX2, Cond.code yX2_take cX2_take 2 none, Cond.fieldLink RX2 9 "ShadowTable$Log" "keys" "[I", Cond.methodLink RX2 25 arraycopyName, Cond.fieldLink RX2 15 "ShadowTable$Log" "values" "[I", Cond.fieldLink RX2 18 "ShadowTable$Log" "start" "I", Cond.fieldLink RX2 22 "ShadowTable$Log" "size" "I", Cond.methodLink RX6 64 yX5_swapTables, Cond.instanceMethod yX5_swapTables, Cond.selects RX5 yX5_swapTables yX5_swapTables, Cond.code yX5_swapTables cX5_swapTables 1 (some .int), Cond.methodLink RX5 101 yX3_count, Cond.instanceMethod yX3_count, Cond.selects RX3 yX3_count yX3_count, Cond.code yX3_count cX3_count 3 (some .int), Cond.methodLink RX6 44 yX6_recorded, Cond.instanceMethod yX6_recorded, Cond.selects RX6 yX6_recorded yX6_recorded, Cond.initialized RX6, Cond.code yX6_recorded cX6_recorded 2 (some .int)]
def wsX6_swap_r4 : List Cond := [Cond.methodLink RX6 95 yX6_isError, Cond.static yX6_isError, Cond.code yX6_isError cX6_isError 1 (some .boolean), Cond.methodLink RX6 82 yX1_keepPrepared, Cond.instanceMethod yX1_keepPrepared, Cond.selects RX1 yX1_keepPrepared yX1_keepPrepared, Cond.code yX1_keepPrepared cX1_keepPrepared 1 none]
def wsX6_swap : List Cond := .code yX6_swap cX6_swap 1 (some .int) :: ((wsX6_swap_r1 ++ (wsX6_swap_r2 ++ (wsX6_swap_r3 ++ wsX6_swap_r4))) ++ wsX60 ++ wsX10 ++ wsX50 ++ wsX30 ++ wsX00 ++ wsX20)
def wsX6_giveUp_r1 : List Cond := [Cond.fieldLink RX6 25 "ShadowTable" "history" "LShadowTable$History;", Cond.fieldLink RX6 10 "ShadowTable" "state" "LShadowTable$State;", Cond.methodLink RX6 36 yX1_prepare, Cond.instanceMethod yX1_prepare, Cond.selects RX1 yX1_prepare yX1_prepare, Cond.initialized RX1, Cond.code yX1_prepare cX1_prepare 2 none, Cond.fieldLink RX1 13 "ShadowTable$History" "slots" "[LShadowTable$State;", Cond.fieldLink RX1 18 "ShadowTable$History" "count" "I", Cond.methodLink RX1 22 yX1_slotOf, Cond.instanceMethod yX1_slotOf, Cond.selects RX1 yX1_slotOf yX1_slotOf, Cond.code yX1_slotOf cX1_slotOf 2 (some .int), Cond.fieldLink RX1 30 "ShadowTable$History" "start" "I", Cond.methodLink RX1 26 yX5_take, Cond.instanceMethod yX5_take, Cond.selects RX5 yX5_take yX5_take, Cond.initialized RX5, Cond.code yX5_take cX5_take 2 none, Cond.fieldLink RX5 12 "ShadowTable$State" "live" "LShadowTable$Rows;", Cond.fieldLink RX5 18 "ShadowTable$State" "old" "LShadowTable$Rows;", Cond.fieldLink RX5 39 "ShadowTable$State" "hasOld" "Z", Cond.fieldLink RX5 24 "ShadowTable$State" "copy" "LShadowTable$Copy;", Cond.fieldLink RX5 28 "ShadowTable$State" "settings" "[I"]
def wsX6_giveUp_r2 : List Cond := [Cond.methodLink RX5 46 arraycopyName, Cond.native arraycopyName, Cond.static arraycopyName, Cond.initialized "java/lang/System", Cond.fieldLink RX5 32 "ShadowTable$State" "totals" "[I", Cond.methodLink RX5 35 yX3_take, Cond.instanceMethod yX3_take, Cond.selects RX3 yX3_take yX3_take, Cond.initialized RX3, Cond.code yX3_take cX3_take 2 none, Cond.fieldLink RX3 9 "ShadowTable$Rows" "values" "[I", Cond.methodLink RX3 21 arraycopyName, Cond.methodLink RX5 43 yX0_take, Cond.instanceMethod yX0_take, Cond.selects RX0 yX0_take yX0_take, Cond.initialized RX0, Cond.code yX0_take cX0_take 2 none, Cond.fieldLink RX0 12 "ShadowTable$Copy" "shadow" "LShadowTable$Rows;", Cond.fieldLink RX0 21 "ShadowTable$Copy" "log" "LShadowTable$Log;", Cond.fieldLink RX0 25 "ShadowTable$Copy" "phase" "I", Cond.fieldLink RX0 33 "ShadowTable$Copy" "kind" "I", Cond.fieldLink RX0 36 "ShadowTable$Copy" "lot" "I", Cond.fieldLink RX0 39 "ShadowTable$Copy" "cursor" "I", Cond.fieldLink RX0 49 "ShadowTable$Copy" "age" "I"]
def wsX6_giveUp_r3 : List Cond := [Cond.methodLink RX0 42 yX3_take, Cond.methodLink RX0 46 yX2_take, Cond.instanceMethod yX2_take, Cond.selects RX2 yX2_take yX2_take, Cond.initialized RX2, Cond.code yX2_take cX2_take 2 none, Cond.fieldLink RX2 9 "ShadowTable$Log" "keys" "[I", Cond.methodLink RX2 25 arraycopyName, Cond.fieldLink RX2 15 "ShadowTable$Log" "values" "[I", Cond.fieldLink RX2 18 "ShadowTable$Log" "start" "I", Cond.fieldLink RX2 22 "ShadowTable$Log" "size" "I", Cond.methodLink RX6 67 yX5_giveCopyUp, Cond.instanceMethod yX5_giveCopyUp, Cond.selects RX5 yX5_giveCopyUp yX5_giveCopyUp, Cond.code yX5_giveCopyUp cX5_giveCopyUp 1 (some .int), Cond.methodLink RX5 71 yX5_hasCopy, Cond.instanceMethod yX5_hasCopy, Cond.selects RX5 yX5_hasCopy yX5_hasCopy, Cond.code yX5_hasCopy cX5_hasCopy 1 (some .boolean), Cond.methodLink RX5 85 yX5_endGivenUp, Cond.instanceMethod yX5_endGivenUp, Cond.selects RX5 yX5_endGivenUp yX5_endGivenUp, Cond.code yX5_endGivenUp cX5_endGivenUp 1 none, Cond.methodLink RX5 101 yX3_count]
def wsX6_giveUp_r4 : List Cond := [Cond.instanceMethod yX3_count, Cond.selects RX3 yX3_count yX3_count, Cond.code yX3_count cX3_count 3 (some .int), Cond.methodLink RX6 44 yX6_recorded, Cond.instanceMethod yX6_recorded, Cond.selects RX6 yX6_recorded yX6_recorded, Cond.initialized RX6, Cond.code yX6_recorded cX6_recorded 2 (some .int), Cond.methodLink RX6 95 yX6_isError, Cond.static yX6_isError, Cond.code yX6_isError cX6_isError 1 (some .boolean), Cond.methodLink RX6 82 yX1_keepPrepared, Cond.instanceMethod yX1_keepPrepared, Cond.selects RX1 yX1_keepPrepared yX1_keepPrepared, Cond.code yX1_keepPrepared cX1_keepPrepared 1 none]
def wsX6_giveUp : List Cond := .code yX6_giveUp cX6_giveUp 1 (some .int) :: ((wsX6_giveUp_r1 ++ (wsX6_giveUp_r2 ++ (wsX6_giveUp_r3 ++ wsX6_giveUp_r4))) ++ wsX60 ++ wsX10 ++ wsX50 ++ wsX30 ++ wsX00 ++ wsX20)
def wsX6_set_r1 : List Cond := [Cond.fieldLink RX6 25 "ShadowTable" "history" "LShadowTable$History;", Cond.fieldLink RX6 10 "ShadowTable" "state" "LShadowTable$State;", Cond.methodLink RX6 36 yX1_prepare, Cond.instanceMethod yX1_prepare, Cond.selects RX1 yX1_prepare yX1_prepare, Cond.initialized RX1, Cond.code yX1_prepare cX1_prepare 2 none, Cond.fieldLink RX1 13 "ShadowTable$History" "slots" "[LShadowTable$State;", Cond.fieldLink RX1 18 "ShadowTable$History" "count" "I", Cond.methodLink RX1 22 yX1_slotOf, Cond.instanceMethod yX1_slotOf, Cond.selects RX1 yX1_slotOf yX1_slotOf, Cond.code yX1_slotOf cX1_slotOf 2 (some .int), Cond.fieldLink RX1 30 "ShadowTable$History" "start" "I", Cond.methodLink RX1 26 yX5_take, Cond.instanceMethod yX5_take, Cond.selects RX5 yX5_take yX5_take, Cond.initialized RX5, Cond.code yX5_take cX5_take 2 none, Cond.fieldLink RX5 12 "ShadowTable$State" "live" "LShadowTable$Rows;", Cond.fieldLink RX5 18 "ShadowTable$State" "old" "LShadowTable$Rows;", Cond.fieldLink RX5 39 "ShadowTable$State" "hasOld" "Z", Cond.fieldLink RX5 24 "ShadowTable$State" "copy" "LShadowTable$Copy;", Cond.fieldLink RX5 28 "ShadowTable$State" "settings" "[I"]
def wsX6_set_r2 : List Cond := [Cond.methodLink RX5 46 arraycopyName, Cond.native arraycopyName, Cond.static arraycopyName, Cond.initialized "java/lang/System", Cond.fieldLink RX5 32 "ShadowTable$State" "totals" "[I", Cond.methodLink RX5 35 yX3_take, Cond.instanceMethod yX3_take, Cond.selects RX3 yX3_take yX3_take, Cond.initialized RX3, Cond.code yX3_take cX3_take 2 none, Cond.fieldLink RX3 9 "ShadowTable$Rows" "values" "[I", Cond.methodLink RX3 21 arraycopyName, Cond.methodLink RX5 43 yX0_take, Cond.instanceMethod yX0_take, Cond.selects RX0 yX0_take yX0_take, Cond.initialized RX0, Cond.code yX0_take cX0_take 2 none, Cond.fieldLink RX0 12 "ShadowTable$Copy" "shadow" "LShadowTable$Rows;", Cond.fieldLink RX0 21 "ShadowTable$Copy" "log" "LShadowTable$Log;", Cond.fieldLink RX0 25 "ShadowTable$Copy" "phase" "I", Cond.fieldLink RX0 33 "ShadowTable$Copy" "kind" "I", Cond.fieldLink RX0 36 "ShadowTable$Copy" "lot" "I", Cond.fieldLink RX0 39 "ShadowTable$Copy" "cursor" "I", Cond.fieldLink RX0 49 "ShadowTable$Copy" "age" "I"]
def wsX6_set_r3 : List Cond := [Cond.methodLink RX0 42 yX3_take, Cond.methodLink RX0 46 yX2_take, Cond.instanceMethod yX2_take, Cond.selects RX2 yX2_take yX2_take, Cond.initialized RX2, Cond.code yX2_take cX2_take 2 none, Cond.fieldLink RX2 9 "ShadowTable$Log" "keys" "[I", Cond.methodLink RX2 25 arraycopyName, Cond.fieldLink RX2 15 "ShadowTable$Log" "values" "[I", Cond.fieldLink RX2 18 "ShadowTable$Log" "start" "I", Cond.fieldLink RX2 22 "ShadowTable$Log" "size" "I", Cond.methodLink RX6 70 yX5_changeSetting, Cond.instanceMethod yX5_changeSetting, Cond.selects RX5 yX5_changeSetting yX5_changeSetting, Cond.code yX5_changeSetting cX5_changeSetting 4 (some .int), Cond.static yX6_isSetting, Cond.initialized RX6, Cond.code yX6_isSetting cX6_isSetting 1 (some .boolean), Cond.methodLink RX6 135 yX6_isIn, Cond.static yX6_isIn, Cond.code yX6_isIn cX6_isIn 3 (some .boolean), Cond.methodLink RX6 44 yX6_recorded, Cond.instanceMethod yX6_recorded, Cond.selects RX6 yX6_recorded yX6_recorded]
def wsX6_set_r4 : List Cond := [Cond.code yX6_recorded cX6_recorded 2 (some .int), Cond.methodLink RX6 95 yX6_isError, Cond.static yX6_isError, Cond.code yX6_isError cX6_isError 1 (some .boolean), Cond.methodLink RX6 82 yX1_keepPrepared, Cond.instanceMethod yX1_keepPrepared, Cond.selects RX1 yX1_keepPrepared yX1_keepPrepared, Cond.code yX1_keepPrepared cX1_keepPrepared 1 none]
def wsX6_set : List Cond := .code yX6_set cX6_set 3 (some .int) :: ((wsX6_set_r1 ++ (wsX6_set_r2 ++ (wsX6_set_r3 ++ wsX6_set_r4))) ++ wsX60 ++ wsX10 ++ wsX50 ++ wsX30 ++ wsX00 ++ wsX20)
def wsX6_undo_r1 : List Cond := [Cond.fieldLink RX6 25 "ShadowTable" "history" "LShadowTable$History;", Cond.fieldLink RX6 10 "ShadowTable" "state" "LShadowTable$State;", Cond.methodLink RX6 102 yX1_takeBack, Cond.instanceMethod yX1_takeBack, Cond.selects RX1 yX1_takeBack yX1_takeBack, Cond.initialized RX1, Cond.code yX1_takeBack cX1_takeBack 2 (some .int), Cond.fieldLink RX1 18 "ShadowTable$History" "count" "I", Cond.fieldLink RX1 13 "ShadowTable$History" "slots" "[LShadowTable$State;", Cond.methodLink RX1 22 yX1_slotOf, Cond.instanceMethod yX1_slotOf, Cond.selects RX1 yX1_slotOf yX1_slotOf, Cond.code yX1_slotOf cX1_slotOf 2 (some .int), Cond.fieldLink RX1 30 "ShadowTable$History" "start" "I", Cond.methodLink RX1 26 yX5_take, Cond.instanceMethod yX5_take, Cond.selects RX5 yX5_take yX5_take, Cond.initialized RX5, Cond.code yX5_take cX5_take 2 none, Cond.fieldLink RX5 12 "ShadowTable$State" "live" "LShadowTable$Rows;", Cond.fieldLink RX5 18 "ShadowTable$State" "old" "LShadowTable$Rows;", Cond.fieldLink RX5 39 "ShadowTable$State" "hasOld" "Z", Cond.fieldLink RX5 24 "ShadowTable$State" "copy" "LShadowTable$Copy;", Cond.fieldLink RX5 28 "ShadowTable$State" "settings" "[I"]
def wsX6_undo_r2 : List Cond := [Cond.methodLink RX5 46 arraycopyName, Cond.native arraycopyName, Cond.static arraycopyName, Cond.initialized "java/lang/System", Cond.fieldLink RX5 32 "ShadowTable$State" "totals" "[I", Cond.methodLink RX5 35 yX3_take, Cond.instanceMethod yX3_take, Cond.selects RX3 yX3_take yX3_take, Cond.initialized RX3, Cond.code yX3_take cX3_take 2 none, Cond.fieldLink RX3 9 "ShadowTable$Rows" "values" "[I", Cond.methodLink RX3 21 arraycopyName, Cond.methodLink RX5 43 yX0_take, Cond.instanceMethod yX0_take, Cond.selects RX0 yX0_take yX0_take, Cond.initialized RX0, Cond.code yX0_take cX0_take 2 none, Cond.fieldLink RX0 12 "ShadowTable$Copy" "shadow" "LShadowTable$Rows;", Cond.fieldLink RX0 21 "ShadowTable$Copy" "log" "LShadowTable$Log;", Cond.fieldLink RX0 25 "ShadowTable$Copy" "phase" "I", Cond.fieldLink RX0 33 "ShadowTable$Copy" "kind" "I", Cond.fieldLink RX0 36 "ShadowTable$Copy" "lot" "I", Cond.fieldLink RX0 39 "ShadowTable$Copy" "cursor" "I", Cond.fieldLink RX0 49 "ShadowTable$Copy" "age" "I"]
def wsX6_undo_r3 : List Cond := [Cond.methodLink RX0 42 yX3_take, Cond.methodLink RX0 46 yX2_take, Cond.instanceMethod yX2_take, Cond.selects RX2 yX2_take yX2_take, Cond.initialized RX2, Cond.code yX2_take cX2_take 2 none, Cond.fieldLink RX2 9 "ShadowTable$Log" "keys" "[I", Cond.methodLink RX2 25 arraycopyName, Cond.fieldLink RX2 15 "ShadowTable$Log" "values" "[I", Cond.fieldLink RX2 18 "ShadowTable$Log" "start" "I", Cond.fieldLink RX2 22 "ShadowTable$Log" "size" "I"]
def wsX6_undo : List Cond := .code yX6_undo cX6_undo 1 (some .int) :: ((wsX6_undo_r1 ++ (wsX6_undo_r2 ++ wsX6_undo_r3)) ++ wsX60 ++ wsX10 ++ wsX50 ++ wsX30 ++ wsX00 ++ wsX20)
def wsX6_isTable : List Cond := .code yX6_isTable cX6_isTable 1 (some .boolean) :: ([.methodLink RX6 135 yX6_isIn, .static yX6_isIn, .initialized RX6, .code yX6_isIn cX6_isIn 3 (some .boolean)])
def wsX6_value_r1 : List Cond := [Cond.fieldLink RX6 10 "ShadowTable" "state" "LShadowTable$State;", Cond.methodLink RX6 122 yX6_isKey, Cond.static yX6_isKey, Cond.initialized RX6, Cond.code yX6_isKey cX6_isKey 1 (some .boolean), Cond.methodLink RX6 135 yX6_isIn, Cond.static yX6_isIn, Cond.code yX6_isIn cX6_isIn 3 (some .boolean), Cond.methodLink RX6 125 yX6_isTable, Cond.static yX6_isTable, Cond.code yX6_isTable cX6_isTable 1 (some .boolean), Cond.methodLink RX6 128 yX5_rowsOf, Cond.instanceMethod yX5_rowsOf, Cond.selects RX5 yX5_rowsOf yX5_rowsOf, Cond.initialized RX5, Cond.code yX5_rowsOf cX5_rowsOf 2 (some (.object "ShadowTable$Rows")), Cond.fieldLink RX5 12 "ShadowTable$State" "live" "LShadowTable$Rows;", Cond.fieldLink RX5 24 "ShadowTable$State" "copy" "LShadowTable$Copy;", Cond.fieldLink RX5 39 "ShadowTable$State" "hasOld" "Z", Cond.fieldLink RX5 18 "ShadowTable$State" "old" "LShadowTable$Rows;", Cond.methodLink RX5 71 yX5_hasCopy, Cond.instanceMethod yX5_hasCopy, Cond.selects RX5 yX5_hasCopy yX5_hasCopy, Cond.code yX5_hasCopy cX5_hasCopy 1 (some .boolean)]
def wsX6_value_r2 : List Cond := [Cond.methodLink RX6 132 yX3_at, Cond.instanceMethod yX3_at, Cond.selects RX3 yX3_at yX3_at, Cond.initialized RX3, Cond.code yX3_at cX3_at 2 (some .int), Cond.fieldLink RX3 9 "ShadowTable$Rows" "values" "[I"]
def wsX6_value : List Cond := .code yX6_value cX6_value 4 (some .int) :: ((wsX6_value_r1 ++ wsX6_value_r2) ++ wsX60 ++ wsX50 ++ wsX00 ++ wsX30)
def wsX6_table_r1 : List Cond := [Cond.fieldLink RX6 10 "ShadowTable" "state" "LShadowTable$State;", Cond.methodLink RX6 125 yX6_isTable, Cond.static yX6_isTable, Cond.initialized RX6, Cond.code yX6_isTable cX6_isTable 1 (some .boolean), Cond.methodLink RX6 135 yX6_isIn, Cond.static yX6_isIn, Cond.code yX6_isIn cX6_isIn 3 (some .boolean), Cond.methodLink RX6 128 yX5_rowsOf, Cond.instanceMethod yX5_rowsOf, Cond.selects RX5 yX5_rowsOf yX5_rowsOf, Cond.initialized RX5, Cond.code yX5_rowsOf cX5_rowsOf 2 (some (.object "ShadowTable$Rows")), Cond.fieldLink RX5 12 "ShadowTable$State" "live" "LShadowTable$Rows;", Cond.fieldLink RX5 24 "ShadowTable$State" "copy" "LShadowTable$Copy;", Cond.fieldLink RX5 39 "ShadowTable$State" "hasOld" "Z", Cond.fieldLink RX5 18 "ShadowTable$State" "old" "LShadowTable$Rows;", Cond.methodLink RX5 71 yX5_hasCopy, Cond.instanceMethod yX5_hasCopy, Cond.selects RX5 yX5_hasCopy yX5_hasCopy, Cond.code yX5_hasCopy cX5_hasCopy 1 (some .boolean), Cond.methodLink RX6 139 yX3_tell, Cond.instanceMethod yX3_tell, Cond.selects RX3 yX3_tell yX3_tell]
def wsX6_table_r2 : List Cond := [Cond.initialized RX3, Cond.code yX3_tell cX3_tell 2 (some .int), Cond.methodLink RX3 27 yX3_count, Cond.instanceMethod yX3_count, Cond.selects RX3 yX3_count yX3_count, Cond.code yX3_count cX3_count 3 (some .int), Cond.fieldLink RX3 9 "ShadowTable$Rows" "values" "[I", Cond.methodLink RX3 31 yX3_sum, Cond.instanceMethod yX3_sum, Cond.selects RX3 yX3_sum yX3_sum, Cond.code yX3_sum cX3_sum 3 (some .int), Cond.methodLink RX3 34 yX3_leastKey, Cond.instanceMethod yX3_leastKey, Cond.selects RX3 yX3_leastKey yX3_leastKey, Cond.code yX3_leastKey cX3_leastKey 2 (some .int), Cond.methodLink RX3 37 yX3_greatestKey, Cond.instanceMethod yX3_greatestKey, Cond.selects RX3 yX3_greatestKey yX3_greatestKey, Cond.code yX3_greatestKey cX3_greatestKey 2 (some .int)]
def wsX6_table : List Cond := .code yX6_table cX6_table 4 (some .int) :: ((wsX6_table_r1 ++ wsX6_table_r2) ++ wsX60 ++ wsX50 ++ wsX00 ++ wsX30)
def wsX6_copy : List Cond := .code yX6_copy cX6_copy 2 (some .int) :: ([.fieldLink RX6 10 "ShadowTable" "state" "LShadowTable$State;", .methodLink RX6 135 yX6_isIn, .static yX6_isIn, .initialized RX6, .code yX6_isIn cX6_isIn 3 (some .boolean), .methodLink RX6 146 yX0_tell, .instanceMethod yX0_tell, .selects RX0 yX0_tell yX0_tell, .initialized RX0, .code yX0_tell cX0_tell 2 (some .int), .fieldLink RX0 25 "ShadowTable$Copy" "phase" "I", .fieldLink RX0 49 "ShadowTable$Copy" "age" "I", .fieldLink RX0 33 "ShadowTable$Copy" "kind" "I", .fieldLink RX0 36 "ShadowTable$Copy" "lot" "I", .fieldLink RX0 39 "ShadowTable$Copy" "cursor" "I", .fieldLink RX0 21 "ShadowTable$Copy" "log" "LShadowTable$Log;"] ++ wsX60 ++ wsX50 ++ wsX00 ++ wsX20)
def wsX6_entry_r1 : List Cond := [Cond.fieldLink RX6 10 "ShadowTable" "state" "LShadowTable$State;", Cond.methodLink RX6 135 yX6_isIn, Cond.static yX6_isIn, Cond.initialized RX6, Cond.code yX6_isIn cX6_isIn 3 (some .boolean), Cond.methodLink RX6 149 yX5_hasCopy, Cond.instanceMethod yX5_hasCopy, Cond.selects RX5 yX5_hasCopy yX5_hasCopy, Cond.initialized RX5, Cond.code yX5_hasCopy cX5_hasCopy 1 (some .boolean), Cond.fieldLink RX5 24 "ShadowTable$State" "copy" "LShadowTable$Copy;", Cond.methodLink RX6 156 yX2_keyAt, Cond.instanceMethod yX2_keyAt, Cond.selects RX2 yX2_keyAt yX2_keyAt, Cond.initialized RX2, Cond.code yX2_keyAt cX2_keyAt 2 (some .int), Cond.fieldLink RX2 22 "ShadowTable$Log" "size" "I", Cond.fieldLink RX2 9 "ShadowTable$Log" "keys" "[I", Cond.methodLink RX2 31 yX2_slotOf, Cond.instanceMethod yX2_slotOf, Cond.selects RX2 yX2_slotOf yX2_slotOf, Cond.code yX2_slotOf cX2_slotOf 2 (some .int), Cond.fieldLink RX2 18 "ShadowTable$Log" "start" "I", Cond.methodLink RX6 161 yX2_valueAt]
def wsX6_entry_r2 : List Cond := [Cond.instanceMethod yX2_valueAt, Cond.selects RX2 yX2_valueAt yX2_valueAt, Cond.code yX2_valueAt cX2_valueAt 2 (some .int), Cond.fieldLink RX2 15 "ShadowTable$Log" "values" "[I"]
def wsX6_entry : List Cond := .code yX6_entry cX6_entry 4 (some .int) :: ((wsX6_entry_r1 ++ wsX6_entry_r2) ++ wsX60 ++ wsX50 ++ wsX00 ++ wsX20)
def wsX6_changed : List Cond := .code yX6_changed cX6_changed 4 (some .int) :: ([.methodLink RX6 122 yX6_isKey, .static yX6_isKey, .initialized RX6, .code yX6_isKey cX6_isKey 1 (some .boolean), .methodLink RX6 135 yX6_isIn, .static yX6_isIn, .code yX6_isIn cX6_isIn 3 (some .boolean), .methodLink RX6 164 yX6_isKind, .static yX6_isKind, .code yX6_isKind cX6_isKind 1 (some .boolean), .methodLink RX6 167 yX6_isValue, .static yX6_isValue, .code yX6_isValue cX6_isValue 1 (some .boolean), .methodLink RX6 170 yX6_changedValue, .static yX6_changedValue, .code yX6_changedValue cX6_changedValue 3 (some .int)])
def wsX6_differences : List Cond := .code yX6_differences cX6_differences 3 (some .int) :: ([.fieldLink RX6 10 "ShadowTable" "state" "LShadowTable$State;", .methodLink RX6 149 yX5_hasCopy, .instanceMethod yX5_hasCopy, .selects RX5 yX5_hasCopy yX5_hasCopy, .initialized RX5, .code yX5_hasCopy cX5_hasCopy 1 (some .boolean), .fieldLink RX5 24 "ShadowTable$State" "copy" "LShadowTable$Copy;", .methodLink RX6 174 yX5_differsAt, .instanceMethod yX5_differsAt, .selects RX5 yX5_differsAt yX5_differsAt, .code yX5_differsAt cX5_differsAt 2 (some .boolean), .fieldLink RX5 12 "ShadowTable$State" "live" "LShadowTable$Rows;", .methodLink RX5 67 yX3_at, .instanceMethod yX3_at, .selects RX3 yX3_at yX3_at, .initialized RX3, .code yX3_at cX3_at 2 (some .int), .fieldLink RX3 9 "ShadowTable$Rows" "values" "[I", .static yX6_changedValue, .initialized RX6, .code yX6_changedValue cX6_changedValue 3 (some .int)] ++ wsX60 ++ wsX50 ++ wsX00 ++ wsX30)
def wsX6_firstDifference : List Cond := .code yX6_firstDifference cX6_firstDifference 2 (some .int) :: ([.fieldLink RX6 10 "ShadowTable" "state" "LShadowTable$State;", .methodLink RX6 149 yX5_hasCopy, .instanceMethod yX5_hasCopy, .selects RX5 yX5_hasCopy yX5_hasCopy, .initialized RX5, .code yX5_hasCopy cX5_hasCopy 1 (some .boolean), .fieldLink RX5 24 "ShadowTable$State" "copy" "LShadowTable$Copy;", .methodLink RX6 174 yX5_differsAt, .instanceMethod yX5_differsAt, .selects RX5 yX5_differsAt yX5_differsAt, .code yX5_differsAt cX5_differsAt 2 (some .boolean), .fieldLink RX5 12 "ShadowTable$State" "live" "LShadowTable$Rows;", .methodLink RX5 67 yX3_at, .instanceMethod yX3_at, .selects RX3 yX3_at yX3_at, .initialized RX3, .code yX3_at cX3_at 2 (some .int), .fieldLink RX3 9 "ShadowTable$Rows" "values" "[I", .static yX6_changedValue, .initialized RX6, .code yX6_changedValue cX6_changedValue 3 (some .int)] ++ wsX60 ++ wsX50 ++ wsX00 ++ wsX30)
def wsX6_setting : List Cond := .code yX6_setting cX6_setting 2 (some .int) :: ([.fieldLink RX6 10 "ShadowTable" "state" "LShadowTable$State;", .methodLink RX6 177 yX6_isSetting, .static yX6_isSetting, .initialized RX6, .code yX6_isSetting cX6_isSetting 1 (some .boolean), .methodLink RX6 135 yX6_isIn, .static yX6_isIn, .code yX6_isIn cX6_isIn 3 (some .boolean)] ++ wsX60 ++ wsX50)
def wsX6_total : List Cond := .code yX6_total cX6_total 2 (some .int) :: ([.fieldLink RX6 10 "ShadowTable" "state" "LShadowTable$State;", .methodLink RX6 135 yX6_isIn, .static yX6_isIn, .initialized RX6, .code yX6_isIn cX6_isIn 3 (some .boolean)] ++ wsX60 ++ wsX50)
def wsX6_readyIn_r1 : List Cond := [Cond.fieldLink RX6 10 "ShadowTable" "state" "LShadowTable$State;", Cond.fieldLink RX6 19 "ShadowTable" "trial" "LShadowTable$State;", Cond.methodLink RX6 190 yX5_canBecomeReady, Cond.instanceMethod yX5_canBecomeReady, Cond.selects RX5 yX5_canBecomeReady yX5_canBecomeReady, Cond.initialized RX5, Cond.code yX5_canBecomeReady cX5_canBecomeReady 1 (some .boolean), Cond.fieldLink RX5 24 "ShadowTable$State" "copy" "LShadowTable$Copy;", Cond.methodLink RX6 106 yX5_take, Cond.instanceMethod yX5_take, Cond.selects RX5 yX5_take yX5_take, Cond.code yX5_take cX5_take 2 none, Cond.fieldLink RX5 12 "ShadowTable$State" "live" "LShadowTable$Rows;", Cond.fieldLink RX5 18 "ShadowTable$State" "old" "LShadowTable$Rows;", Cond.fieldLink RX5 39 "ShadowTable$State" "hasOld" "Z", Cond.fieldLink RX5 28 "ShadowTable$State" "settings" "[I", Cond.methodLink RX5 46 arraycopyName, Cond.native arraycopyName, Cond.static arraycopyName, Cond.initialized "java/lang/System", Cond.fieldLink RX5 32 "ShadowTable$State" "totals" "[I", Cond.methodLink RX5 35 yX3_take, Cond.instanceMethod yX3_take, Cond.selects RX3 yX3_take yX3_take]
def wsX6_readyIn_r2 : List Cond := [Cond.initialized RX3, Cond.code yX3_take cX3_take 2 none, Cond.fieldLink RX3 9 "ShadowTable$Rows" "values" "[I", Cond.methodLink RX3 21 arraycopyName, Cond.methodLink RX5 43 yX0_take, Cond.instanceMethod yX0_take, Cond.selects RX0 yX0_take yX0_take, Cond.initialized RX0, Cond.code yX0_take cX0_take 2 none, Cond.fieldLink RX0 12 "ShadowTable$Copy" "shadow" "LShadowTable$Rows;", Cond.fieldLink RX0 21 "ShadowTable$Copy" "log" "LShadowTable$Log;", Cond.fieldLink RX0 25 "ShadowTable$Copy" "phase" "I", Cond.fieldLink RX0 33 "ShadowTable$Copy" "kind" "I", Cond.fieldLink RX0 36 "ShadowTable$Copy" "lot" "I", Cond.fieldLink RX0 39 "ShadowTable$Copy" "cursor" "I", Cond.fieldLink RX0 49 "ShadowTable$Copy" "age" "I", Cond.methodLink RX0 42 yX3_take, Cond.methodLink RX0 46 yX2_take, Cond.instanceMethod yX2_take, Cond.selects RX2 yX2_take yX2_take, Cond.initialized RX2, Cond.code yX2_take cX2_take 2 none, Cond.fieldLink RX2 9 "ShadowTable$Log" "keys" "[I", Cond.methodLink RX2 25 arraycopyName]
def wsX6_readyIn_r3 : List Cond := [Cond.fieldLink RX2 15 "ShadowTable$Log" "values" "[I", Cond.fieldLink RX2 18 "ShadowTable$Log" "start" "I", Cond.fieldLink RX2 22 "ShadowTable$Log" "size" "I", Cond.methodLink RX6 193 yX5_ticksUntilReady, Cond.instanceMethod yX5_ticksUntilReady, Cond.selects RX5 yX5_ticksUntilReady yX5_ticksUntilReady, Cond.code yX5_ticksUntilReady cX5_ticksUntilReady 3 (some .int), Cond.methodLink RX5 108 yX5_makeTick, Cond.instanceMethod yX5_makeTick, Cond.selects RX5 yX5_makeTick yX5_makeTick, Cond.code yX5_makeTick cX5_makeTick 1 none, Cond.methodLink RX5 71 yX5_hasCopy, Cond.instanceMethod yX5_hasCopy, Cond.selects RX5 yX5_hasCopy yX5_hasCopy, Cond.code yX5_hasCopy cX5_hasCopy 1 (some .boolean), Cond.methodLink RX5 111 yX5_lockRunsOut, Cond.instanceMethod yX5_lockRunsOut, Cond.selects RX5 yX5_lockRunsOut yX5_lockRunsOut, Cond.code yX5_lockRunsOut cX5_lockRunsOut 1 (some .boolean), Cond.methodLink RX5 114 yX5_applyEntries, Cond.instanceMethod yX5_applyEntries, Cond.selects RX5 yX5_applyEntries yX5_applyEntries, Cond.code yX5_applyEntries cX5_applyEntries 4 none, Cond.methodLink RX5 126 yX2_keyAt]
def wsX6_readyIn_r4 : List Cond := [Cond.instanceMethod yX2_keyAt, Cond.selects RX2 yX2_keyAt yX2_keyAt, Cond.code yX2_keyAt cX2_keyAt 2 (some .int), Cond.methodLink RX2 31 yX2_slotOf, Cond.instanceMethod yX2_slotOf, Cond.selects RX2 yX2_slotOf yX2_slotOf, Cond.code yX2_slotOf cX2_slotOf 2 (some .int), Cond.methodLink RX5 135 yX2_valueAt, Cond.instanceMethod yX2_valueAt, Cond.selects RX2 yX2_valueAt yX2_valueAt, Cond.code yX2_valueAt cX2_valueAt 2 (some .int), Cond.static yX6_changedValue, Cond.initialized RX6, Cond.code yX6_changedValue cX6_changedValue 3 (some .int), Cond.methodLink RX5 88 yX3_place, Cond.instanceMethod yX3_place, Cond.selects RX3 yX3_place yX3_place, Cond.code yX3_place cX3_place 3 none, Cond.methodLink RX5 142 yX2_removeFirst, Cond.instanceMethod yX2_removeFirst, Cond.selects RX2 yX2_removeFirst yX2_removeFirst, Cond.code yX2_removeFirst cX2_removeFirst 1 none, Cond.methodLink RX5 117 yX5_copyLot, Cond.instanceMethod yX5_copyLot]
def wsX6_readyIn_r5 : List Cond := [Cond.selects RX5 yX5_copyLot yX5_copyLot, Cond.code yX5_copyLot cX5_copyLot 3 none, Cond.methodLink RX5 67 yX3_at, Cond.instanceMethod yX3_at, Cond.selects RX3 yX3_at yX3_at, Cond.code yX3_at cX3_at 2 (some .int), Cond.methodLink RX5 151 yX0_copyKey, Cond.instanceMethod yX0_copyKey, Cond.selects RX0 yX0_copyKey yX0_copyKey, Cond.code yX0_copyKey cX0_copyKey 4 (some .boolean), Cond.methodLink RX0 56 yX3_at, Cond.methodLink RX0 60 yX3_place]
def wsX6_readyIn : List Cond := .code yX6_readyIn cX6_readyIn 1 (some .int) :: ((wsX6_readyIn_r1 ++ (wsX6_readyIn_r2 ++ (wsX6_readyIn_r3 ++ (wsX6_readyIn_r4 ++ wsX6_readyIn_r5)))) ++ wsX60 ++ wsX50 ++ wsX00 ++ wsX30 ++ wsX20)
def wsX6_leastLot_r1 : List Cond := [Cond.fieldLink RX6 10 "ShadowTable" "state" "LShadowTable$State;", Cond.fieldLink RX6 19 "ShadowTable" "trial" "LShadowTable$State;", Cond.methodLink RX6 196 yX6_isTicks, Cond.static yX6_isTicks, Cond.initialized RX6, Cond.code yX6_isTicks cX6_isTicks 1 (some .boolean), Cond.methodLink RX6 135 yX6_isIn, Cond.static yX6_isIn, Cond.code yX6_isIn cX6_isIn 3 (some .boolean), Cond.methodLink RX6 190 yX5_canBecomeReady, Cond.instanceMethod yX5_canBecomeReady, Cond.selects RX5 yX5_canBecomeReady yX5_canBecomeReady, Cond.initialized RX5, Cond.code yX5_canBecomeReady cX5_canBecomeReady 1 (some .boolean), Cond.fieldLink RX5 24 "ShadowTable$State" "copy" "LShadowTable$Copy;", Cond.methodLink RX6 106 yX5_take, Cond.instanceMethod yX5_take, Cond.selects RX5 yX5_take yX5_take, Cond.code yX5_take cX5_take 2 none, Cond.fieldLink RX5 12 "ShadowTable$State" "live" "LShadowTable$Rows;", Cond.fieldLink RX5 18 "ShadowTable$State" "old" "LShadowTable$Rows;", Cond.fieldLink RX5 39 "ShadowTable$State" "hasOld" "Z", Cond.fieldLink RX5 28 "ShadowTable$State" "settings" "[I", Cond.methodLink RX5 46 arraycopyName]
def wsX6_leastLot_r2 : List Cond := [Cond.native arraycopyName, Cond.static arraycopyName, Cond.initialized "java/lang/System", Cond.fieldLink RX5 32 "ShadowTable$State" "totals" "[I", Cond.methodLink RX5 35 yX3_take, Cond.instanceMethod yX3_take, Cond.selects RX3 yX3_take yX3_take, Cond.initialized RX3, Cond.code yX3_take cX3_take 2 none, Cond.fieldLink RX3 9 "ShadowTable$Rows" "values" "[I", Cond.methodLink RX3 21 arraycopyName, Cond.methodLink RX5 43 yX0_take, Cond.instanceMethod yX0_take, Cond.selects RX0 yX0_take yX0_take, Cond.initialized RX0, Cond.code yX0_take cX0_take 2 none, Cond.fieldLink RX0 12 "ShadowTable$Copy" "shadow" "LShadowTable$Rows;", Cond.fieldLink RX0 21 "ShadowTable$Copy" "log" "LShadowTable$Log;", Cond.fieldLink RX0 25 "ShadowTable$Copy" "phase" "I", Cond.fieldLink RX0 33 "ShadowTable$Copy" "kind" "I", Cond.fieldLink RX0 36 "ShadowTable$Copy" "lot" "I", Cond.fieldLink RX0 39 "ShadowTable$Copy" "cursor" "I", Cond.fieldLink RX0 49 "ShadowTable$Copy" "age" "I", Cond.methodLink RX0 42 yX3_take]
def wsX6_leastLot_r3 : List Cond := [Cond.methodLink RX0 46 yX2_take, Cond.instanceMethod yX2_take, Cond.selects RX2 yX2_take yX2_take, Cond.initialized RX2, Cond.code yX2_take cX2_take 2 none, Cond.fieldLink RX2 9 "ShadowTable$Log" "keys" "[I", Cond.methodLink RX2 25 arraycopyName, Cond.fieldLink RX2 15 "ShadowTable$Log" "values" "[I", Cond.fieldLink RX2 18 "ShadowTable$Log" "start" "I", Cond.fieldLink RX2 22 "ShadowTable$Log" "size" "I", Cond.methodLink RX6 193 yX5_ticksUntilReady, Cond.instanceMethod yX5_ticksUntilReady, Cond.selects RX5 yX5_ticksUntilReady yX5_ticksUntilReady, Cond.code yX5_ticksUntilReady cX5_ticksUntilReady 3 (some .int), Cond.methodLink RX5 108 yX5_makeTick, Cond.instanceMethod yX5_makeTick, Cond.selects RX5 yX5_makeTick yX5_makeTick, Cond.code yX5_makeTick cX5_makeTick 1 none, Cond.methodLink RX5 71 yX5_hasCopy, Cond.instanceMethod yX5_hasCopy, Cond.selects RX5 yX5_hasCopy yX5_hasCopy, Cond.code yX5_hasCopy cX5_hasCopy 1 (some .boolean), Cond.methodLink RX5 111 yX5_lockRunsOut, Cond.instanceMethod yX5_lockRunsOut]
def wsX6_leastLot_r4 : List Cond := [Cond.selects RX5 yX5_lockRunsOut yX5_lockRunsOut, Cond.code yX5_lockRunsOut cX5_lockRunsOut 1 (some .boolean), Cond.methodLink RX5 114 yX5_applyEntries, Cond.instanceMethod yX5_applyEntries, Cond.selects RX5 yX5_applyEntries yX5_applyEntries, Cond.code yX5_applyEntries cX5_applyEntries 4 none, Cond.methodLink RX5 126 yX2_keyAt, Cond.instanceMethod yX2_keyAt, Cond.selects RX2 yX2_keyAt yX2_keyAt, Cond.code yX2_keyAt cX2_keyAt 2 (some .int), Cond.methodLink RX2 31 yX2_slotOf, Cond.instanceMethod yX2_slotOf, Cond.selects RX2 yX2_slotOf yX2_slotOf, Cond.code yX2_slotOf cX2_slotOf 2 (some .int), Cond.methodLink RX5 135 yX2_valueAt, Cond.instanceMethod yX2_valueAt, Cond.selects RX2 yX2_valueAt yX2_valueAt, Cond.code yX2_valueAt cX2_valueAt 2 (some .int), Cond.static yX6_changedValue, Cond.code yX6_changedValue cX6_changedValue 3 (some .int), Cond.methodLink RX5 88 yX3_place, Cond.instanceMethod yX3_place, Cond.selects RX3 yX3_place yX3_place, Cond.code yX3_place cX3_place 3 none]
def wsX6_leastLot_r5 : List Cond := [Cond.methodLink RX5 142 yX2_removeFirst, Cond.instanceMethod yX2_removeFirst, Cond.selects RX2 yX2_removeFirst yX2_removeFirst, Cond.code yX2_removeFirst cX2_removeFirst 1 none, Cond.methodLink RX5 117 yX5_copyLot, Cond.instanceMethod yX5_copyLot, Cond.selects RX5 yX5_copyLot yX5_copyLot, Cond.code yX5_copyLot cX5_copyLot 3 none, Cond.methodLink RX5 67 yX3_at, Cond.instanceMethod yX3_at, Cond.selects RX3 yX3_at yX3_at, Cond.code yX3_at cX3_at 2 (some .int), Cond.methodLink RX5 151 yX0_copyKey, Cond.instanceMethod yX0_copyKey, Cond.selects RX0 yX0_copyKey yX0_copyKey, Cond.code yX0_copyKey cX0_copyKey 4 (some .boolean), Cond.methodLink RX0 56 yX3_at, Cond.methodLink RX0 60 yX3_place]
def wsX6_leastLot : List Cond := .code yX6_leastLot cX6_leastLot 3 (some .int) :: ((wsX6_leastLot_r1 ++ (wsX6_leastLot_r2 ++ (wsX6_leastLot_r3 ++ (wsX6_leastLot_r4 ++ wsX6_leastLot_r5)))) ++ wsX60 ++ wsX50 ++ wsX00 ++ wsX30 ++ wsX20)
def wsX6_progress : List Cond := .code yX6_progress cX6_progress 1 (some .double) :: ([.fieldLink RX6 10 "ShadowTable" "state" "LShadowTable$State;", .constantDouble RX6 205 (4629700416936869888), .methodLink RX6 149 yX5_hasCopy, .instanceMethod yX5_hasCopy, .selects RX5 yX5_hasCopy yX5_hasCopy, .initialized RX5, .code yX5_hasCopy cX5_hasCopy 1 (some .boolean), .fieldLink RX5 24 "ShadowTable$State" "copy" "LShadowTable$Copy;"] ++ wsX60 ++ wsX50 ++ wsX00)
def wsL_cell : List Cond := .code yL_cell cL_cell 2 (some .int) :: ([.constant RL 7 (836224489), .constant RL 8 (750383527)])
def wsL_low : List Cond := .code yL_low cL_low 2 (some .int) :: ([.constant RL 9 (2147483647)])
def wsL_due_r1 : List Cond := [Cond.methodLink RL 10 yX6_value, Cond.instanceMethod yX6_value, Cond.selects RX6 yX6_value yX6_value, Cond.initialized RX6, Cond.code yX6_value cX6_value 4 (some .int), Cond.fieldLink RX6 10 "ShadowTable" "state" "LShadowTable$State;", Cond.methodLink RX6 122 yX6_isKey, Cond.static yX6_isKey, Cond.code yX6_isKey cX6_isKey 1 (some .boolean), Cond.methodLink RX6 135 yX6_isIn, Cond.static yX6_isIn, Cond.code yX6_isIn cX6_isIn 3 (some .boolean), Cond.methodLink RX6 125 yX6_isTable, Cond.static yX6_isTable, Cond.code yX6_isTable cX6_isTable 1 (some .boolean), Cond.methodLink RX6 128 yX5_rowsOf, Cond.instanceMethod yX5_rowsOf, Cond.selects RX5 yX5_rowsOf yX5_rowsOf, Cond.initialized RX5, Cond.code yX5_rowsOf cX5_rowsOf 2 (some (.object "ShadowTable$Rows")), Cond.fieldLink RX5 12 "ShadowTable$State" "live" "LShadowTable$Rows;", Cond.fieldLink RX5 24 "ShadowTable$State" "copy" "LShadowTable$Copy;", Cond.fieldLink RX5 39 "ShadowTable$State" "hasOld" "Z", Cond.fieldLink RX5 18 "ShadowTable$State" "old" "LShadowTable$Rows;"]
def wsL_due_r2 : List Cond := [Cond.methodLink RX5 71 yX5_hasCopy, Cond.instanceMethod yX5_hasCopy, Cond.selects RX5 yX5_hasCopy yX5_hasCopy, Cond.code yX5_hasCopy cX5_hasCopy 1 (some .boolean), Cond.methodLink RX6 132 yX3_at, Cond.instanceMethod yX3_at, Cond.selects RX3 yX3_at yX3_at, Cond.initialized RX3, Cond.code yX3_at cX3_at 2 (some .int), Cond.fieldLink RX3 9 "ShadowTable$Rows" "values" "[I", Cond.methodLink RL 16 yX6_copy, Cond.instanceMethod yX6_copy, Cond.selects RX6 yX6_copy yX6_copy, Cond.code yX6_copy cX6_copy 2 (some .int), Cond.methodLink RX6 146 yX0_tell, Cond.instanceMethod yX0_tell, Cond.selects RX0 yX0_tell yX0_tell, Cond.initialized RX0, Cond.code yX0_tell cX0_tell 2 (some .int), Cond.fieldLink RX0 25 "ShadowTable$Copy" "phase" "I", Cond.fieldLink RX0 49 "ShadowTable$Copy" "age" "I", Cond.fieldLink RX0 33 "ShadowTable$Copy" "kind" "I", Cond.fieldLink RX0 36 "ShadowTable$Copy" "lot" "I", Cond.fieldLink RX0 39 "ShadowTable$Copy" "cursor" "I"]
def wsL_due_r3 : List Cond := [Cond.fieldLink RX0 21 "ShadowTable$Copy" "log" "LShadowTable$Log;", Cond.methodLink RL 20 yX6_changed, Cond.instanceMethod yX6_changed, Cond.selects RX6 yX6_changed yX6_changed, Cond.code yX6_changed cX6_changed 4 (some .int), Cond.methodLink RX6 164 yX6_isKind, Cond.static yX6_isKind, Cond.code yX6_isKind cX6_isKind 1 (some .boolean), Cond.methodLink RX6 167 yX6_isValue, Cond.static yX6_isValue, Cond.code yX6_isValue cX6_isValue 1 (some .boolean), Cond.methodLink RX6 170 yX6_changedValue, Cond.static yX6_changedValue, Cond.code yX6_changedValue cX6_changedValue 3 (some .int)]
def wsL_due : List Cond := .code yL_due cL_due 3 (some .int) :: ((wsL_due_r1 ++ (wsL_due_r2 ++ wsL_due_r3)) ++ wsX60 ++ wsX50 ++ wsX00 ++ wsX30 ++ wsX20)
def wsL_holds_r1 : List Cond := [Cond.methodLink RL 16 yX6_copy, Cond.instanceMethod yX6_copy, Cond.selects RX6 yX6_copy yX6_copy, Cond.initialized RX6, Cond.code yX6_copy cX6_copy 2 (some .int), Cond.fieldLink RX6 10 "ShadowTable" "state" "LShadowTable$State;", Cond.methodLink RX6 135 yX6_isIn, Cond.static yX6_isIn, Cond.code yX6_isIn cX6_isIn 3 (some .boolean), Cond.methodLink RX6 146 yX0_tell, Cond.instanceMethod yX0_tell, Cond.selects RX0 yX0_tell yX0_tell, Cond.initialized RX0, Cond.code yX0_tell cX0_tell 2 (some .int), Cond.fieldLink RX0 25 "ShadowTable$Copy" "phase" "I", Cond.fieldLink RX0 49 "ShadowTable$Copy" "age" "I", Cond.fieldLink RX0 33 "ShadowTable$Copy" "kind" "I", Cond.fieldLink RX0 36 "ShadowTable$Copy" "lot" "I", Cond.fieldLink RX0 39 "ShadowTable$Copy" "cursor" "I", Cond.fieldLink RX0 21 "ShadowTable$Copy" "log" "LShadowTable$Log;", Cond.methodLink RL 10 yX6_value, Cond.instanceMethod yX6_value, Cond.selects RX6 yX6_value yX6_value, Cond.code yX6_value cX6_value 4 (some .int)]
def wsL_holds_r2 : List Cond := [Cond.methodLink RX6 122 yX6_isKey, Cond.static yX6_isKey, Cond.code yX6_isKey cX6_isKey 1 (some .boolean), Cond.methodLink RX6 125 yX6_isTable, Cond.static yX6_isTable, Cond.code yX6_isTable cX6_isTable 1 (some .boolean), Cond.methodLink RX6 128 yX5_rowsOf, Cond.instanceMethod yX5_rowsOf, Cond.selects RX5 yX5_rowsOf yX5_rowsOf, Cond.initialized RX5, Cond.code yX5_rowsOf cX5_rowsOf 2 (some (.object "ShadowTable$Rows")), Cond.fieldLink RX5 12 "ShadowTable$State" "live" "LShadowTable$Rows;", Cond.fieldLink RX5 24 "ShadowTable$State" "copy" "LShadowTable$Copy;", Cond.fieldLink RX5 39 "ShadowTable$State" "hasOld" "Z", Cond.fieldLink RX5 18 "ShadowTable$State" "old" "LShadowTable$Rows;", Cond.methodLink RX5 71 yX5_hasCopy, Cond.instanceMethod yX5_hasCopy, Cond.selects RX5 yX5_hasCopy yX5_hasCopy, Cond.code yX5_hasCopy cX5_hasCopy 1 (some .boolean), Cond.methodLink RX6 132 yX3_at, Cond.instanceMethod yX3_at, Cond.selects RX3 yX3_at yX3_at, Cond.initialized RX3, Cond.code yX3_at cX3_at 2 (some .int)]
def wsL_holds_r3 : List Cond := [Cond.fieldLink RX3 9 "ShadowTable$Rows" "values" "[I", Cond.methodLink RL 24 yL_due, Cond.static yL_due, Cond.initialized RL, Cond.code yL_due cL_due 3 (some .int), Cond.methodLink RL 20 yX6_changed, Cond.instanceMethod yX6_changed, Cond.selects RX6 yX6_changed yX6_changed, Cond.code yX6_changed cX6_changed 4 (some .int), Cond.methodLink RX6 164 yX6_isKind, Cond.static yX6_isKind, Cond.code yX6_isKind cX6_isKind 1 (some .boolean), Cond.methodLink RX6 167 yX6_isValue, Cond.static yX6_isValue, Cond.code yX6_isValue cX6_isValue 1 (some .boolean), Cond.methodLink RX6 170 yX6_changedValue, Cond.static yX6_changedValue, Cond.code yX6_changedValue cX6_changedValue 3 (some .int), Cond.methodLink RL 30 yX6_differences, Cond.instanceMethod yX6_differences, Cond.selects RX6 yX6_differences yX6_differences, Cond.code yX6_differences cX6_differences 3 (some .int), Cond.methodLink RX6 149 yX5_hasCopy, Cond.methodLink RX6 174 yX5_differsAt]
def wsL_holds_r4 : List Cond := [Cond.instanceMethod yX5_differsAt, Cond.selects RX5 yX5_differsAt yX5_differsAt, Cond.code yX5_differsAt cX5_differsAt 2 (some .boolean), Cond.methodLink RX5 67 yX3_at, Cond.methodLink RL 34 yX6_firstDifference, Cond.instanceMethod yX6_firstDifference, Cond.selects RX6 yX6_firstDifference yX6_firstDifference, Cond.code yX6_firstDifference cX6_firstDifference 2 (some .int), Cond.methodLink RL 37 yX6_total, Cond.instanceMethod yX6_total, Cond.selects RX6 yX6_total yX6_total, Cond.code yX6_total cX6_total 2 (some .int), Cond.methodLink RL 40 yX6_progress, Cond.instanceMethod yX6_progress, Cond.selects RX6 yX6_progress yX6_progress, Cond.code yX6_progress cX6_progress 1 (some .double), Cond.constantDouble RX6 205 (4629700416936869888), Cond.methodLink RL 44 yX6_readyIn, Cond.instanceMethod yX6_readyIn, Cond.selects RX6 yX6_readyIn yX6_readyIn, Cond.code yX6_readyIn cX6_readyIn 1 (some .int), Cond.fieldLink RX6 19 "ShadowTable" "trial" "LShadowTable$State;", Cond.methodLink RX6 190 yX5_canBecomeReady, Cond.instanceMethod yX5_canBecomeReady]
def wsL_holds_r5 : List Cond := [Cond.selects RX5 yX5_canBecomeReady yX5_canBecomeReady, Cond.code yX5_canBecomeReady cX5_canBecomeReady 1 (some .boolean), Cond.methodLink RX6 106 yX5_take, Cond.instanceMethod yX5_take, Cond.selects RX5 yX5_take yX5_take, Cond.code yX5_take cX5_take 2 none, Cond.fieldLink RX5 28 "ShadowTable$State" "settings" "[I", Cond.methodLink RX5 46 arraycopyName, Cond.native arraycopyName, Cond.static arraycopyName, Cond.initialized "java/lang/System", Cond.fieldLink RX5 32 "ShadowTable$State" "totals" "[I", Cond.methodLink RX5 35 yX3_take, Cond.instanceMethod yX3_take, Cond.selects RX3 yX3_take yX3_take, Cond.code yX3_take cX3_take 2 none, Cond.methodLink RX3 21 arraycopyName, Cond.methodLink RX5 43 yX0_take, Cond.instanceMethod yX0_take, Cond.selects RX0 yX0_take yX0_take, Cond.code yX0_take cX0_take 2 none, Cond.fieldLink RX0 12 "ShadowTable$Copy" "shadow" "LShadowTable$Rows;", Cond.methodLink RX0 42 yX3_take, Cond.methodLink RX0 46 yX2_take]
def wsL_holds_r6 : List Cond := [Cond.instanceMethod yX2_take, Cond.selects RX2 yX2_take yX2_take, Cond.initialized RX2, Cond.code yX2_take cX2_take 2 none, Cond.fieldLink RX2 9 "ShadowTable$Log" "keys" "[I", Cond.methodLink RX2 25 arraycopyName, Cond.fieldLink RX2 15 "ShadowTable$Log" "values" "[I", Cond.fieldLink RX2 18 "ShadowTable$Log" "start" "I", Cond.fieldLink RX2 22 "ShadowTable$Log" "size" "I", Cond.methodLink RX6 193 yX5_ticksUntilReady, Cond.instanceMethod yX5_ticksUntilReady, Cond.selects RX5 yX5_ticksUntilReady yX5_ticksUntilReady, Cond.code yX5_ticksUntilReady cX5_ticksUntilReady 3 (some .int), Cond.methodLink RX5 108 yX5_makeTick, Cond.instanceMethod yX5_makeTick, Cond.selects RX5 yX5_makeTick yX5_makeTick, Cond.code yX5_makeTick cX5_makeTick 1 none, Cond.methodLink RX5 111 yX5_lockRunsOut, Cond.instanceMethod yX5_lockRunsOut, Cond.selects RX5 yX5_lockRunsOut yX5_lockRunsOut, Cond.code yX5_lockRunsOut cX5_lockRunsOut 1 (some .boolean), Cond.methodLink RX5 114 yX5_applyEntries, Cond.instanceMethod yX5_applyEntries, Cond.selects RX5 yX5_applyEntries yX5_applyEntries]
def wsL_holds_r7 : List Cond := [Cond.code yX5_applyEntries cX5_applyEntries 4 none, Cond.methodLink RX5 126 yX2_keyAt, Cond.instanceMethod yX2_keyAt, Cond.selects RX2 yX2_keyAt yX2_keyAt, Cond.code yX2_keyAt cX2_keyAt 2 (some .int), Cond.methodLink RX2 31 yX2_slotOf, Cond.instanceMethod yX2_slotOf, Cond.selects RX2 yX2_slotOf yX2_slotOf, Cond.code yX2_slotOf cX2_slotOf 2 (some .int), Cond.methodLink RX5 135 yX2_valueAt, Cond.instanceMethod yX2_valueAt, Cond.selects RX2 yX2_valueAt yX2_valueAt, Cond.code yX2_valueAt cX2_valueAt 2 (some .int), Cond.methodLink RX5 88 yX3_place, Cond.instanceMethod yX3_place, Cond.selects RX3 yX3_place yX3_place, Cond.code yX3_place cX3_place 3 none, Cond.methodLink RX5 142 yX2_removeFirst, Cond.instanceMethod yX2_removeFirst, Cond.selects RX2 yX2_removeFirst yX2_removeFirst, Cond.code yX2_removeFirst cX2_removeFirst 1 none, Cond.methodLink RX5 117 yX5_copyLot, Cond.instanceMethod yX5_copyLot, Cond.selects RX5 yX5_copyLot yX5_copyLot]
def wsL_holds_r8 : List Cond := [Cond.code yX5_copyLot cX5_copyLot 3 none, Cond.methodLink RX5 151 yX0_copyKey, Cond.instanceMethod yX0_copyKey, Cond.selects RX0 yX0_copyKey yX0_copyKey, Cond.code yX0_copyKey cX0_copyKey 4 (some .boolean), Cond.methodLink RX0 56 yX3_at, Cond.methodLink RX0 60 yX3_place, Cond.methodLink RL 47 yX6_table, Cond.instanceMethod yX6_table, Cond.selects RX6 yX6_table yX6_table, Cond.code yX6_table cX6_table 4 (some .int), Cond.methodLink RX6 139 yX3_tell, Cond.instanceMethod yX3_tell, Cond.selects RX3 yX3_tell yX3_tell, Cond.code yX3_tell cX3_tell 2 (some .int), Cond.methodLink RX3 27 yX3_count, Cond.instanceMethod yX3_count, Cond.selects RX3 yX3_count yX3_count, Cond.code yX3_count cX3_count 3 (some .int), Cond.methodLink RX3 31 yX3_sum, Cond.instanceMethod yX3_sum, Cond.selects RX3 yX3_sum yX3_sum, Cond.code yX3_sum cX3_sum 3 (some .int), Cond.methodLink RX3 34 yX3_leastKey]
def wsL_holds_r9 : List Cond := [Cond.instanceMethod yX3_leastKey, Cond.selects RX3 yX3_leastKey yX3_leastKey, Cond.code yX3_leastKey cX3_leastKey 2 (some .int), Cond.methodLink RX3 37 yX3_greatestKey, Cond.instanceMethod yX3_greatestKey, Cond.selects RX3 yX3_greatestKey yX3_greatestKey, Cond.code yX3_greatestKey cX3_greatestKey 2 (some .int)]
def wsL_holds : List Cond := .code yL_holds cL_holds 7 (some .boolean) :: ((wsL_holds_r1 ++ (wsL_holds_r2 ++ (wsL_holds_r3 ++ (wsL_holds_r4 ++ (wsL_holds_r5 ++ (wsL_holds_r6 ++ (wsL_holds_r7 ++ (wsL_holds_r8 ++ wsL_holds_r9)))))))) ++ wsX60 ++ wsX50 ++ wsX00 ++ wsX20 ++ wsX30)
def wsL_tale_r1 : List Cond := [Cond.constantLong RL 50 (17), Cond.constantLong RL 52 (31), Cond.methodLink RL 10 yX6_value, Cond.instanceMethod yX6_value, Cond.selects RX6 yX6_value yX6_value, Cond.initialized RX6, Cond.code yX6_value cX6_value 4 (some .int), Cond.fieldLink RX6 10 "ShadowTable" "state" "LShadowTable$State;", Cond.methodLink RX6 122 yX6_isKey, Cond.static yX6_isKey, Cond.code yX6_isKey cX6_isKey 1 (some .boolean), Cond.methodLink RX6 135 yX6_isIn, Cond.static yX6_isIn, Cond.code yX6_isIn cX6_isIn 3 (some .boolean), Cond.methodLink RX6 125 yX6_isTable, Cond.static yX6_isTable, Cond.code yX6_isTable cX6_isTable 1 (some .boolean), Cond.methodLink RX6 128 yX5_rowsOf, Cond.instanceMethod yX5_rowsOf, Cond.selects RX5 yX5_rowsOf yX5_rowsOf, Cond.initialized RX5, Cond.code yX5_rowsOf cX5_rowsOf 2 (some (.object "ShadowTable$Rows")), Cond.fieldLink RX5 12 "ShadowTable$State" "live" "LShadowTable$Rows;", Cond.fieldLink RX5 24 "ShadowTable$State" "copy" "LShadowTable$Copy;"]
def wsL_tale_r2 : List Cond := [Cond.fieldLink RX5 39 "ShadowTable$State" "hasOld" "Z", Cond.fieldLink RX5 18 "ShadowTable$State" "old" "LShadowTable$Rows;", Cond.methodLink RX5 71 yX5_hasCopy, Cond.instanceMethod yX5_hasCopy, Cond.selects RX5 yX5_hasCopy yX5_hasCopy, Cond.code yX5_hasCopy cX5_hasCopy 1 (some .boolean), Cond.methodLink RX6 132 yX3_at, Cond.instanceMethod yX3_at, Cond.selects RX3 yX3_at yX3_at, Cond.initialized RX3, Cond.code yX3_at cX3_at 2 (some .int), Cond.fieldLink RX3 9 "ShadowTable$Rows" "values" "[I", Cond.methodLink RL 37 yX6_total, Cond.instanceMethod yX6_total, Cond.selects RX6 yX6_total yX6_total, Cond.code yX6_total cX6_total 2 (some .int), Cond.methodLink RL 16 yX6_copy, Cond.instanceMethod yX6_copy, Cond.selects RX6 yX6_copy yX6_copy, Cond.code yX6_copy cX6_copy 2 (some .int), Cond.methodLink RX6 146 yX0_tell, Cond.instanceMethod yX0_tell, Cond.selects RX0 yX0_tell yX0_tell, Cond.initialized RX0]
def wsL_tale_r3 : List Cond := [Cond.code yX0_tell cX0_tell 2 (some .int), Cond.fieldLink RX0 25 "ShadowTable$Copy" "phase" "I", Cond.fieldLink RX0 49 "ShadowTable$Copy" "age" "I", Cond.fieldLink RX0 33 "ShadowTable$Copy" "kind" "I", Cond.fieldLink RX0 36 "ShadowTable$Copy" "lot" "I", Cond.fieldLink RX0 39 "ShadowTable$Copy" "cursor" "I", Cond.fieldLink RX0 21 "ShadowTable$Copy" "log" "LShadowTable$Log;", Cond.methodLink RL 54 yX6_entry, Cond.instanceMethod yX6_entry, Cond.selects RX6 yX6_entry yX6_entry, Cond.code yX6_entry cX6_entry 4 (some .int), Cond.methodLink RX6 149 yX5_hasCopy, Cond.methodLink RX6 156 yX2_keyAt, Cond.instanceMethod yX2_keyAt, Cond.selects RX2 yX2_keyAt yX2_keyAt, Cond.initialized RX2, Cond.code yX2_keyAt cX2_keyAt 2 (some .int), Cond.fieldLink RX2 22 "ShadowTable$Log" "size" "I", Cond.fieldLink RX2 9 "ShadowTable$Log" "keys" "[I", Cond.methodLink RX2 31 yX2_slotOf, Cond.instanceMethod yX2_slotOf, Cond.selects RX2 yX2_slotOf yX2_slotOf, Cond.code yX2_slotOf cX2_slotOf 2 (some .int), Cond.fieldLink RX2 18 "ShadowTable$Log" "start" "I"]
def wsL_tale_r4 : List Cond := [Cond.methodLink RX6 161 yX2_valueAt, Cond.instanceMethod yX2_valueAt, Cond.selects RX2 yX2_valueAt yX2_valueAt, Cond.code yX2_valueAt cX2_valueAt 2 (some .int), Cond.fieldLink RX2 15 "ShadowTable$Log" "values" "[I", Cond.methodLink RL 57 yX6_setting, Cond.instanceMethod yX6_setting, Cond.selects RX6 yX6_setting yX6_setting, Cond.code yX6_setting cX6_setting 2 (some .int), Cond.methodLink RX6 177 yX6_isSetting, Cond.static yX6_isSetting, Cond.code yX6_isSetting cX6_isSetting 1 (some .boolean)]
def wsL_tale : List Cond := .code yL_tale cL_tale 4 (some .long) :: ((wsL_tale_r1 ++ (wsL_tale_r2 ++ (wsL_tale_r3 ++ wsL_tale_r4))) ++ wsX60 ++ wsX50 ++ wsX00 ++ wsX30 ++ wsX20)
def wsL_ticks_r1 : List Cond := [Cond.methodLink RL 37 yX6_total, Cond.instanceMethod yX6_total, Cond.selects RX6 yX6_total yX6_total, Cond.initialized RX6, Cond.code yX6_total cX6_total 2 (some .int), Cond.fieldLink RX6 10 "ShadowTable" "state" "LShadowTable$State;", Cond.methodLink RX6 135 yX6_isIn, Cond.static yX6_isIn, Cond.code yX6_isIn cX6_isIn 3 (some .boolean), Cond.methodLink RL 16 yX6_copy, Cond.instanceMethod yX6_copy, Cond.selects RX6 yX6_copy yX6_copy, Cond.code yX6_copy cX6_copy 2 (some .int), Cond.methodLink RX6 146 yX0_tell, Cond.instanceMethod yX0_tell, Cond.selects RX0 yX0_tell yX0_tell, Cond.initialized RX0, Cond.code yX0_tell cX0_tell 2 (some .int), Cond.fieldLink RX0 25 "ShadowTable$Copy" "phase" "I", Cond.fieldLink RX0 49 "ShadowTable$Copy" "age" "I", Cond.fieldLink RX0 33 "ShadowTable$Copy" "kind" "I", Cond.fieldLink RX0 36 "ShadowTable$Copy" "lot" "I", Cond.fieldLink RX0 39 "ShadowTable$Copy" "cursor" "I", Cond.fieldLink RX0 21 "ShadowTable$Copy" "log" "LShadowTable$Log;"]
def wsL_ticks_r2 : List Cond := [Cond.methodLink RL 60 yX6_tick, Cond.instanceMethod yX6_tick, Cond.selects RX6 yX6_tick yX6_tick, Cond.code yX6_tick cX6_tick 2 (some .int), Cond.fieldLink RX6 25 "ShadowTable" "history" "LShadowTable$History;", Cond.methodLink RX6 36 yX1_prepare, Cond.instanceMethod yX1_prepare, Cond.selects RX1 yX1_prepare yX1_prepare, Cond.initialized RX1, Cond.code yX1_prepare cX1_prepare 2 none, Cond.fieldLink RX1 13 "ShadowTable$History" "slots" "[LShadowTable$State;", Cond.fieldLink RX1 18 "ShadowTable$History" "count" "I", Cond.methodLink RX1 22 yX1_slotOf, Cond.instanceMethod yX1_slotOf, Cond.selects RX1 yX1_slotOf yX1_slotOf, Cond.code yX1_slotOf cX1_slotOf 2 (some .int), Cond.fieldLink RX1 30 "ShadowTable$History" "start" "I", Cond.methodLink RX1 26 yX5_take, Cond.instanceMethod yX5_take, Cond.selects RX5 yX5_take yX5_take, Cond.initialized RX5, Cond.code yX5_take cX5_take 2 none, Cond.fieldLink RX5 12 "ShadowTable$State" "live" "LShadowTable$Rows;", Cond.fieldLink RX5 18 "ShadowTable$State" "old" "LShadowTable$Rows;"]
def wsL_ticks_r3 : List Cond := [Cond.fieldLink RX5 39 "ShadowTable$State" "hasOld" "Z", Cond.fieldLink RX5 24 "ShadowTable$State" "copy" "LShadowTable$Copy;", Cond.fieldLink RX5 28 "ShadowTable$State" "settings" "[I", Cond.methodLink RX5 46 arraycopyName, Cond.native arraycopyName, Cond.static arraycopyName, Cond.initialized "java/lang/System", Cond.fieldLink RX5 32 "ShadowTable$State" "totals" "[I", Cond.methodLink RX5 35 yX3_take, Cond.instanceMethod yX3_take, Cond.selects RX3 yX3_take yX3_take, Cond.initialized RX3, Cond.code yX3_take cX3_take 2 none, Cond.fieldLink RX3 9 "ShadowTable$Rows" "values" "[I", Cond.methodLink RX3 21 arraycopyName, Cond.methodLink RX5 43 yX0_take, Cond.instanceMethod yX0_take, Cond.selects RX0 yX0_take yX0_take, Cond.code yX0_take cX0_take 2 none, Cond.fieldLink RX0 12 "ShadowTable$Copy" "shadow" "LShadowTable$Rows;", Cond.methodLink RX0 42 yX3_take, Cond.methodLink RX0 46 yX2_take, Cond.instanceMethod yX2_take, Cond.selects RX2 yX2_take yX2_take]
def wsL_ticks_r4 : List Cond := [Cond.initialized RX2, Cond.code yX2_take cX2_take 2 none, Cond.fieldLink RX2 9 "ShadowTable$Log" "keys" "[I", Cond.methodLink RX2 25 arraycopyName, Cond.fieldLink RX2 15 "ShadowTable$Log" "values" "[I", Cond.fieldLink RX2 18 "ShadowTable$Log" "start" "I", Cond.fieldLink RX2 22 "ShadowTable$Log" "size" "I", Cond.methodLink RX6 54 yX5_makeTicks, Cond.instanceMethod yX5_makeTicks, Cond.selects RX5 yX5_makeTicks yX5_makeTicks, Cond.code yX5_makeTicks cX5_makeTicks 3 (some .int), Cond.static yX6_isTicks, Cond.code yX6_isTicks cX6_isTicks 1 (some .boolean), Cond.methodLink RX5 108 yX5_makeTick, Cond.instanceMethod yX5_makeTick, Cond.selects RX5 yX5_makeTick yX5_makeTick, Cond.code yX5_makeTick cX5_makeTick 1 none, Cond.methodLink RX5 71 yX5_hasCopy, Cond.instanceMethod yX5_hasCopy, Cond.selects RX5 yX5_hasCopy yX5_hasCopy, Cond.code yX5_hasCopy cX5_hasCopy 1 (some .boolean), Cond.methodLink RX5 111 yX5_lockRunsOut, Cond.instanceMethod yX5_lockRunsOut, Cond.selects RX5 yX5_lockRunsOut yX5_lockRunsOut]
def wsL_ticks_r5 : List Cond := [Cond.code yX5_lockRunsOut cX5_lockRunsOut 1 (some .boolean), Cond.methodLink RX5 114 yX5_applyEntries, Cond.instanceMethod yX5_applyEntries, Cond.selects RX5 yX5_applyEntries yX5_applyEntries, Cond.code yX5_applyEntries cX5_applyEntries 4 none, Cond.methodLink RX5 126 yX2_keyAt, Cond.instanceMethod yX2_keyAt, Cond.selects RX2 yX2_keyAt yX2_keyAt, Cond.code yX2_keyAt cX2_keyAt 2 (some .int), Cond.methodLink RX2 31 yX2_slotOf, Cond.instanceMethod yX2_slotOf, Cond.selects RX2 yX2_slotOf yX2_slotOf, Cond.code yX2_slotOf cX2_slotOf 2 (some .int), Cond.methodLink RX5 135 yX2_valueAt, Cond.instanceMethod yX2_valueAt, Cond.selects RX2 yX2_valueAt yX2_valueAt, Cond.code yX2_valueAt cX2_valueAt 2 (some .int), Cond.static yX6_changedValue, Cond.code yX6_changedValue cX6_changedValue 3 (some .int), Cond.methodLink RX5 88 yX3_place, Cond.instanceMethod yX3_place, Cond.selects RX3 yX3_place yX3_place, Cond.code yX3_place cX3_place 3 none, Cond.methodLink RX5 142 yX2_removeFirst]
def wsL_ticks_r6 : List Cond := [Cond.instanceMethod yX2_removeFirst, Cond.selects RX2 yX2_removeFirst yX2_removeFirst, Cond.code yX2_removeFirst cX2_removeFirst 1 none, Cond.methodLink RX5 117 yX5_copyLot, Cond.instanceMethod yX5_copyLot, Cond.selects RX5 yX5_copyLot yX5_copyLot, Cond.code yX5_copyLot cX5_copyLot 3 none, Cond.methodLink RX5 67 yX3_at, Cond.instanceMethod yX3_at, Cond.selects RX3 yX3_at yX3_at, Cond.code yX3_at cX3_at 2 (some .int), Cond.methodLink RX5 151 yX0_copyKey, Cond.instanceMethod yX0_copyKey, Cond.selects RX0 yX0_copyKey yX0_copyKey, Cond.code yX0_copyKey cX0_copyKey 4 (some .boolean), Cond.methodLink RX0 56 yX3_at, Cond.methodLink RX0 60 yX3_place, Cond.methodLink RX6 44 yX6_recorded, Cond.instanceMethod yX6_recorded, Cond.selects RX6 yX6_recorded yX6_recorded, Cond.code yX6_recorded cX6_recorded 2 (some .int), Cond.methodLink RX6 95 yX6_isError, Cond.static yX6_isError, Cond.code yX6_isError cX6_isError 1 (some .boolean)]
def wsL_ticks_r7 : List Cond := [Cond.methodLink RX6 82 yX1_keepPrepared, Cond.instanceMethod yX1_keepPrepared, Cond.selects RX1 yX1_keepPrepared yX1_keepPrepared, Cond.code yX1_keepPrepared cX1_keepPrepared 1 none, Cond.methodLink RL 57 yX6_setting, Cond.instanceMethod yX6_setting, Cond.selects RX6 yX6_setting yX6_setting, Cond.code yX6_setting cX6_setting 2 (some .int), Cond.methodLink RX6 177 yX6_isSetting, Cond.static yX6_isSetting, Cond.code yX6_isSetting cX6_isSetting 1 (some .boolean)]
def wsL_ticks : List Cond := .code yL_ticks cL_ticks 12 (some .boolean) :: ((wsL_ticks_r1 ++ (wsL_ticks_r2 ++ (wsL_ticks_r3 ++ (wsL_ticks_r4 ++ (wsL_ticks_r5 ++ (wsL_ticks_r6 ++ wsL_ticks_r7)))))) ++ wsX60 ++ wsX50 ++ wsX00 ++ wsX20 ++ wsX10 ++ wsX30)
def wsL_readySo_r1 : List Cond := [Cond.methodLink RL 63 yL_tale, Cond.static yL_tale, Cond.initialized RL, Cond.code yL_tale cL_tale 4 (some .long), Cond.constantLong RL 50 (17), Cond.constantLong RL 52 (31), Cond.methodLink RL 10 yX6_value, Cond.instanceMethod yX6_value, Cond.selects RX6 yX6_value yX6_value, Cond.initialized RX6, Cond.code yX6_value cX6_value 4 (some .int), Cond.fieldLink RX6 10 "ShadowTable" "state" "LShadowTable$State;", Cond.methodLink RX6 122 yX6_isKey, Cond.static yX6_isKey, Cond.code yX6_isKey cX6_isKey 1 (some .boolean), Cond.methodLink RX6 135 yX6_isIn, Cond.static yX6_isIn, Cond.code yX6_isIn cX6_isIn 3 (some .boolean), Cond.methodLink RX6 125 yX6_isTable, Cond.static yX6_isTable, Cond.code yX6_isTable cX6_isTable 1 (some .boolean), Cond.methodLink RX6 128 yX5_rowsOf, Cond.instanceMethod yX5_rowsOf, Cond.selects RX5 yX5_rowsOf yX5_rowsOf]
def wsL_readySo_r2 : List Cond := [Cond.initialized RX5, Cond.code yX5_rowsOf cX5_rowsOf 2 (some (.object "ShadowTable$Rows")), Cond.fieldLink RX5 12 "ShadowTable$State" "live" "LShadowTable$Rows;", Cond.fieldLink RX5 24 "ShadowTable$State" "copy" "LShadowTable$Copy;", Cond.fieldLink RX5 39 "ShadowTable$State" "hasOld" "Z", Cond.fieldLink RX5 18 "ShadowTable$State" "old" "LShadowTable$Rows;", Cond.methodLink RX5 71 yX5_hasCopy, Cond.instanceMethod yX5_hasCopy, Cond.selects RX5 yX5_hasCopy yX5_hasCopy, Cond.code yX5_hasCopy cX5_hasCopy 1 (some .boolean), Cond.methodLink RX6 132 yX3_at, Cond.instanceMethod yX3_at, Cond.selects RX3 yX3_at yX3_at, Cond.initialized RX3, Cond.code yX3_at cX3_at 2 (some .int), Cond.fieldLink RX3 9 "ShadowTable$Rows" "values" "[I", Cond.methodLink RL 37 yX6_total, Cond.instanceMethod yX6_total, Cond.selects RX6 yX6_total yX6_total, Cond.code yX6_total cX6_total 2 (some .int), Cond.methodLink RL 16 yX6_copy, Cond.instanceMethod yX6_copy, Cond.selects RX6 yX6_copy yX6_copy, Cond.code yX6_copy cX6_copy 2 (some .int)]
def wsL_readySo_r3 : List Cond := [Cond.methodLink RX6 146 yX0_tell, Cond.instanceMethod yX0_tell, Cond.selects RX0 yX0_tell yX0_tell, Cond.initialized RX0, Cond.code yX0_tell cX0_tell 2 (some .int), Cond.fieldLink RX0 25 "ShadowTable$Copy" "phase" "I", Cond.fieldLink RX0 49 "ShadowTable$Copy" "age" "I", Cond.fieldLink RX0 33 "ShadowTable$Copy" "kind" "I", Cond.fieldLink RX0 36 "ShadowTable$Copy" "lot" "I", Cond.fieldLink RX0 39 "ShadowTable$Copy" "cursor" "I", Cond.fieldLink RX0 21 "ShadowTable$Copy" "log" "LShadowTable$Log;", Cond.methodLink RL 54 yX6_entry, Cond.instanceMethod yX6_entry, Cond.selects RX6 yX6_entry yX6_entry, Cond.code yX6_entry cX6_entry 4 (some .int), Cond.methodLink RX6 149 yX5_hasCopy, Cond.methodLink RX6 156 yX2_keyAt, Cond.instanceMethod yX2_keyAt, Cond.selects RX2 yX2_keyAt yX2_keyAt, Cond.initialized RX2, Cond.code yX2_keyAt cX2_keyAt 2 (some .int), Cond.fieldLink RX2 22 "ShadowTable$Log" "size" "I", Cond.fieldLink RX2 9 "ShadowTable$Log" "keys" "[I", Cond.methodLink RX2 31 yX2_slotOf]
def wsL_readySo_r4 : List Cond := [Cond.instanceMethod yX2_slotOf, Cond.selects RX2 yX2_slotOf yX2_slotOf, Cond.code yX2_slotOf cX2_slotOf 2 (some .int), Cond.fieldLink RX2 18 "ShadowTable$Log" "start" "I", Cond.methodLink RX6 161 yX2_valueAt, Cond.instanceMethod yX2_valueAt, Cond.selects RX2 yX2_valueAt yX2_valueAt, Cond.code yX2_valueAt cX2_valueAt 2 (some .int), Cond.fieldLink RX2 15 "ShadowTable$Log" "values" "[I", Cond.methodLink RL 57 yX6_setting, Cond.instanceMethod yX6_setting, Cond.selects RX6 yX6_setting yX6_setting, Cond.code yX6_setting cX6_setting 2 (some .int), Cond.methodLink RX6 177 yX6_isSetting, Cond.static yX6_isSetting, Cond.code yX6_isSetting cX6_isSetting 1 (some .boolean), Cond.methodLink RL 44 yX6_readyIn, Cond.instanceMethod yX6_readyIn, Cond.selects RX6 yX6_readyIn yX6_readyIn, Cond.code yX6_readyIn cX6_readyIn 1 (some .int), Cond.fieldLink RX6 19 "ShadowTable" "trial" "LShadowTable$State;", Cond.methodLink RX6 190 yX5_canBecomeReady, Cond.instanceMethod yX5_canBecomeReady, Cond.selects RX5 yX5_canBecomeReady yX5_canBecomeReady]
def wsL_readySo_r5 : List Cond := [Cond.code yX5_canBecomeReady cX5_canBecomeReady 1 (some .boolean), Cond.methodLink RX6 106 yX5_take, Cond.instanceMethod yX5_take, Cond.selects RX5 yX5_take yX5_take, Cond.code yX5_take cX5_take 2 none, Cond.fieldLink RX5 28 "ShadowTable$State" "settings" "[I", Cond.methodLink RX5 46 arraycopyName, Cond.native arraycopyName, Cond.static arraycopyName, Cond.initialized "java/lang/System", Cond.fieldLink RX5 32 "ShadowTable$State" "totals" "[I", Cond.methodLink RX5 35 yX3_take, Cond.instanceMethod yX3_take, Cond.selects RX3 yX3_take yX3_take, Cond.code yX3_take cX3_take 2 none, Cond.methodLink RX3 21 arraycopyName, Cond.methodLink RX5 43 yX0_take, Cond.instanceMethod yX0_take, Cond.selects RX0 yX0_take yX0_take, Cond.code yX0_take cX0_take 2 none, Cond.fieldLink RX0 12 "ShadowTable$Copy" "shadow" "LShadowTable$Rows;", Cond.methodLink RX0 42 yX3_take, Cond.methodLink RX0 46 yX2_take, Cond.instanceMethod yX2_take]
def wsL_readySo_r6 : List Cond := [Cond.selects RX2 yX2_take yX2_take, Cond.code yX2_take cX2_take 2 none, Cond.methodLink RX2 25 arraycopyName, Cond.methodLink RX6 193 yX5_ticksUntilReady, Cond.instanceMethod yX5_ticksUntilReady, Cond.selects RX5 yX5_ticksUntilReady yX5_ticksUntilReady, Cond.code yX5_ticksUntilReady cX5_ticksUntilReady 3 (some .int), Cond.methodLink RX5 108 yX5_makeTick, Cond.instanceMethod yX5_makeTick, Cond.selects RX5 yX5_makeTick yX5_makeTick, Cond.code yX5_makeTick cX5_makeTick 1 none, Cond.methodLink RX5 111 yX5_lockRunsOut, Cond.instanceMethod yX5_lockRunsOut, Cond.selects RX5 yX5_lockRunsOut yX5_lockRunsOut, Cond.code yX5_lockRunsOut cX5_lockRunsOut 1 (some .boolean), Cond.methodLink RX5 114 yX5_applyEntries, Cond.instanceMethod yX5_applyEntries, Cond.selects RX5 yX5_applyEntries yX5_applyEntries, Cond.code yX5_applyEntries cX5_applyEntries 4 none, Cond.methodLink RX5 126 yX2_keyAt, Cond.methodLink RX5 135 yX2_valueAt, Cond.static yX6_changedValue, Cond.code yX6_changedValue cX6_changedValue 3 (some .int), Cond.methodLink RX5 88 yX3_place]
def wsL_readySo_r7 : List Cond := [Cond.instanceMethod yX3_place, Cond.selects RX3 yX3_place yX3_place, Cond.code yX3_place cX3_place 3 none, Cond.methodLink RX5 142 yX2_removeFirst, Cond.instanceMethod yX2_removeFirst, Cond.selects RX2 yX2_removeFirst yX2_removeFirst, Cond.code yX2_removeFirst cX2_removeFirst 1 none, Cond.methodLink RX5 117 yX5_copyLot, Cond.instanceMethod yX5_copyLot, Cond.selects RX5 yX5_copyLot yX5_copyLot, Cond.code yX5_copyLot cX5_copyLot 3 none, Cond.methodLink RX5 67 yX3_at, Cond.methodLink RX5 151 yX0_copyKey, Cond.instanceMethod yX0_copyKey, Cond.selects RX0 yX0_copyKey yX0_copyKey, Cond.code yX0_copyKey cX0_copyKey 4 (some .boolean), Cond.methodLink RX0 56 yX3_at, Cond.methodLink RX0 60 yX3_place, Cond.methodLink RL 67 yX6_leastLot, Cond.instanceMethod yX6_leastLot, Cond.selects RX6 yX6_leastLot yX6_leastLot, Cond.code yX6_leastLot cX6_leastLot 3 (some .int), Cond.methodLink RX6 196 yX6_isTicks, Cond.static yX6_isTicks]
def wsL_readySo_r8 : List Cond := [Cond.code yX6_isTicks cX6_isTicks 1 (some .boolean), Cond.methodLink RL 60 yX6_tick, Cond.instanceMethod yX6_tick, Cond.selects RX6 yX6_tick yX6_tick, Cond.code yX6_tick cX6_tick 2 (some .int), Cond.fieldLink RX6 25 "ShadowTable" "history" "LShadowTable$History;", Cond.methodLink RX6 36 yX1_prepare, Cond.instanceMethod yX1_prepare, Cond.selects RX1 yX1_prepare yX1_prepare, Cond.initialized RX1, Cond.code yX1_prepare cX1_prepare 2 none, Cond.fieldLink RX1 13 "ShadowTable$History" "slots" "[LShadowTable$State;", Cond.fieldLink RX1 18 "ShadowTable$History" "count" "I", Cond.methodLink RX1 22 yX1_slotOf, Cond.instanceMethod yX1_slotOf, Cond.selects RX1 yX1_slotOf yX1_slotOf, Cond.code yX1_slotOf cX1_slotOf 2 (some .int), Cond.fieldLink RX1 30 "ShadowTable$History" "start" "I", Cond.methodLink RX1 26 yX5_take, Cond.methodLink RX6 54 yX5_makeTicks, Cond.instanceMethod yX5_makeTicks, Cond.selects RX5 yX5_makeTicks yX5_makeTicks, Cond.code yX5_makeTicks cX5_makeTicks 3 (some .int), Cond.methodLink RX6 44 yX6_recorded]
def wsL_readySo_r9 : List Cond := [Cond.instanceMethod yX6_recorded, Cond.selects RX6 yX6_recorded yX6_recorded, Cond.code yX6_recorded cX6_recorded 2 (some .int), Cond.methodLink RX6 95 yX6_isError, Cond.static yX6_isError, Cond.code yX6_isError cX6_isError 1 (some .boolean), Cond.methodLink RX6 82 yX1_keepPrepared, Cond.instanceMethod yX1_keepPrepared, Cond.selects RX1 yX1_keepPrepared yX1_keepPrepared, Cond.code yX1_keepPrepared cX1_keepPrepared 1 none, Cond.methodLink RL 70 yX6_undo, Cond.instanceMethod yX6_undo, Cond.selects RX6 yX6_undo yX6_undo, Cond.code yX6_undo cX6_undo 1 (some .int), Cond.methodLink RX6 102 yX1_takeBack, Cond.instanceMethod yX1_takeBack, Cond.selects RX1 yX1_takeBack yX1_takeBack, Cond.code yX1_takeBack cX1_takeBack 2 (some .int)]
def wsL_readySo : List Cond := .code yL_readySo cL_readySo 7 (some .boolean) :: ((wsL_readySo_r1 ++ (wsL_readySo_r2 ++ (wsL_readySo_r3 ++ (wsL_readySo_r4 ++ (wsL_readySo_r5 ++ (wsL_readySo_r6 ++ (wsL_readySo_r7 ++ (wsL_readySo_r8 ++ wsL_readySo_r9)))))))) ++ wsX60 ++ wsX50 ++ wsX00 ++ wsX30 ++ wsX20 ++ wsX10)
def wsL_swaps_r1 : List Cond := [Cond.arrayClass .int, Cond.methodLink RL 16 yX6_copy, Cond.instanceMethod yX6_copy, Cond.selects RX6 yX6_copy yX6_copy, Cond.initialized RX6, Cond.code yX6_copy cX6_copy 2 (some .int), Cond.fieldLink RX6 10 "ShadowTable" "state" "LShadowTable$State;", Cond.methodLink RX6 135 yX6_isIn, Cond.static yX6_isIn, Cond.code yX6_isIn cX6_isIn 3 (some .boolean), Cond.methodLink RX6 146 yX0_tell, Cond.instanceMethod yX0_tell, Cond.selects RX0 yX0_tell yX0_tell, Cond.initialized RX0, Cond.code yX0_tell cX0_tell 2 (some .int), Cond.fieldLink RX0 25 "ShadowTable$Copy" "phase" "I", Cond.fieldLink RX0 49 "ShadowTable$Copy" "age" "I", Cond.fieldLink RX0 33 "ShadowTable$Copy" "kind" "I", Cond.fieldLink RX0 36 "ShadowTable$Copy" "lot" "I", Cond.fieldLink RX0 39 "ShadowTable$Copy" "cursor" "I", Cond.fieldLink RX0 21 "ShadowTable$Copy" "log" "LShadowTable$Log;", Cond.methodLink RL 47 yX6_table, Cond.instanceMethod yX6_table, Cond.selects RX6 yX6_table yX6_table]
def wsL_swaps_r2 : List Cond := [Cond.code yX6_table cX6_table 4 (some .int), Cond.methodLink RX6 125 yX6_isTable, Cond.static yX6_isTable, Cond.code yX6_isTable cX6_isTable 1 (some .boolean), Cond.methodLink RX6 128 yX5_rowsOf, Cond.instanceMethod yX5_rowsOf, Cond.selects RX5 yX5_rowsOf yX5_rowsOf, Cond.initialized RX5, Cond.code yX5_rowsOf cX5_rowsOf 2 (some (.object "ShadowTable$Rows")), Cond.fieldLink RX5 12 "ShadowTable$State" "live" "LShadowTable$Rows;", Cond.fieldLink RX5 24 "ShadowTable$State" "copy" "LShadowTable$Copy;", Cond.fieldLink RX5 39 "ShadowTable$State" "hasOld" "Z", Cond.fieldLink RX5 18 "ShadowTable$State" "old" "LShadowTable$Rows;", Cond.methodLink RX5 71 yX5_hasCopy, Cond.instanceMethod yX5_hasCopy, Cond.selects RX5 yX5_hasCopy yX5_hasCopy, Cond.code yX5_hasCopy cX5_hasCopy 1 (some .boolean), Cond.methodLink RX6 139 yX3_tell, Cond.instanceMethod yX3_tell, Cond.selects RX3 yX3_tell yX3_tell, Cond.initialized RX3, Cond.code yX3_tell cX3_tell 2 (some .int), Cond.methodLink RX3 27 yX3_count, Cond.instanceMethod yX3_count]
def wsL_swaps_r3 : List Cond := [Cond.selects RX3 yX3_count yX3_count, Cond.code yX3_count cX3_count 3 (some .int), Cond.fieldLink RX3 9 "ShadowTable$Rows" "values" "[I", Cond.methodLink RX3 31 yX3_sum, Cond.instanceMethod yX3_sum, Cond.selects RX3 yX3_sum yX3_sum, Cond.code yX3_sum cX3_sum 3 (some .int), Cond.methodLink RX3 34 yX3_leastKey, Cond.instanceMethod yX3_leastKey, Cond.selects RX3 yX3_leastKey yX3_leastKey, Cond.code yX3_leastKey cX3_leastKey 2 (some .int), Cond.methodLink RX3 37 yX3_greatestKey, Cond.instanceMethod yX3_greatestKey, Cond.selects RX3 yX3_greatestKey yX3_greatestKey, Cond.code yX3_greatestKey cX3_greatestKey 2 (some .int), Cond.methodLink RL 10 yX6_value, Cond.instanceMethod yX6_value, Cond.selects RX6 yX6_value yX6_value, Cond.code yX6_value cX6_value 4 (some .int), Cond.methodLink RX6 122 yX6_isKey, Cond.static yX6_isKey, Cond.code yX6_isKey cX6_isKey 1 (some .boolean), Cond.methodLink RX6 132 yX3_at, Cond.instanceMethod yX3_at]
def wsL_swaps_r4 : List Cond := [Cond.selects RX3 yX3_at yX3_at, Cond.code yX3_at cX3_at 2 (some .int), Cond.methodLink RL 73 yX6_swap, Cond.instanceMethod yX6_swap, Cond.selects RX6 yX6_swap yX6_swap, Cond.code yX6_swap cX6_swap 1 (some .int), Cond.fieldLink RX6 25 "ShadowTable" "history" "LShadowTable$History;", Cond.methodLink RX6 36 yX1_prepare, Cond.instanceMethod yX1_prepare, Cond.selects RX1 yX1_prepare yX1_prepare, Cond.initialized RX1, Cond.code yX1_prepare cX1_prepare 2 none, Cond.fieldLink RX1 13 "ShadowTable$History" "slots" "[LShadowTable$State;", Cond.fieldLink RX1 18 "ShadowTable$History" "count" "I", Cond.methodLink RX1 22 yX1_slotOf, Cond.instanceMethod yX1_slotOf, Cond.selects RX1 yX1_slotOf yX1_slotOf, Cond.code yX1_slotOf cX1_slotOf 2 (some .int), Cond.fieldLink RX1 30 "ShadowTable$History" "start" "I", Cond.methodLink RX1 26 yX5_take, Cond.instanceMethod yX5_take, Cond.selects RX5 yX5_take yX5_take, Cond.code yX5_take cX5_take 2 none, Cond.fieldLink RX5 28 "ShadowTable$State" "settings" "[I"]
def wsL_swaps_r5 : List Cond := [Cond.methodLink RX5 46 arraycopyName, Cond.native arraycopyName, Cond.static arraycopyName, Cond.initialized "java/lang/System", Cond.fieldLink RX5 32 "ShadowTable$State" "totals" "[I", Cond.methodLink RX5 35 yX3_take, Cond.instanceMethod yX3_take, Cond.selects RX3 yX3_take yX3_take, Cond.code yX3_take cX3_take 2 none, Cond.methodLink RX3 21 arraycopyName, Cond.methodLink RX5 43 yX0_take, Cond.instanceMethod yX0_take, Cond.selects RX0 yX0_take yX0_take, Cond.code yX0_take cX0_take 2 none, Cond.fieldLink RX0 12 "ShadowTable$Copy" "shadow" "LShadowTable$Rows;", Cond.methodLink RX0 42 yX3_take, Cond.methodLink RX0 46 yX2_take, Cond.instanceMethod yX2_take, Cond.selects RX2 yX2_take yX2_take, Cond.initialized RX2, Cond.code yX2_take cX2_take 2 none, Cond.fieldLink RX2 9 "ShadowTable$Log" "keys" "[I", Cond.methodLink RX2 25 arraycopyName, Cond.fieldLink RX2 15 "ShadowTable$Log" "values" "[I"]
def wsL_swaps_r6 : List Cond := [Cond.fieldLink RX2 18 "ShadowTable$Log" "start" "I", Cond.fieldLink RX2 22 "ShadowTable$Log" "size" "I", Cond.methodLink RX6 64 yX5_swapTables, Cond.instanceMethod yX5_swapTables, Cond.selects RX5 yX5_swapTables yX5_swapTables, Cond.code yX5_swapTables cX5_swapTables 1 (some .int), Cond.methodLink RX5 101 yX3_count, Cond.methodLink RX6 44 yX6_recorded, Cond.instanceMethod yX6_recorded, Cond.selects RX6 yX6_recorded yX6_recorded, Cond.code yX6_recorded cX6_recorded 2 (some .int), Cond.methodLink RX6 95 yX6_isError, Cond.static yX6_isError, Cond.code yX6_isError cX6_isError 1 (some .boolean), Cond.methodLink RX6 82 yX1_keepPrepared, Cond.instanceMethod yX1_keepPrepared, Cond.selects RX1 yX1_keepPrepared yX1_keepPrepared, Cond.code yX1_keepPrepared cX1_keepPrepared 1 none, Cond.methodLink RL 20 yX6_changed, Cond.instanceMethod yX6_changed, Cond.selects RX6 yX6_changed yX6_changed, Cond.code yX6_changed cX6_changed 4 (some .int), Cond.methodLink RX6 164 yX6_isKind, Cond.static yX6_isKind]
def wsL_swaps_r7 : List Cond := [Cond.code yX6_isKind cX6_isKind 1 (some .boolean), Cond.methodLink RX6 167 yX6_isValue, Cond.static yX6_isValue, Cond.code yX6_isValue cX6_isValue 1 (some .boolean), Cond.methodLink RX6 170 yX6_changedValue, Cond.static yX6_changedValue, Cond.code yX6_changedValue cX6_changedValue 3 (some .int)]
def wsL_swaps : List Cond := .code yL_swaps cL_swaps 6 (some .boolean) :: ((wsL_swaps_r1 ++ (wsL_swaps_r2 ++ (wsL_swaps_r3 ++ (wsL_swaps_r4 ++ (wsL_swaps_r5 ++ (wsL_swaps_r6 ++ wsL_swaps_r7)))))) ++ wsX60 ++ wsX50 ++ wsX00 ++ wsX20 ++ wsX30 ++ wsX10)
def wsL_changes_r1 : List Cond := [Cond.methodLink RL 10 yX6_value, Cond.instanceMethod yX6_value, Cond.selects RX6 yX6_value yX6_value, Cond.initialized RX6, Cond.code yX6_value cX6_value 4 (some .int), Cond.fieldLink RX6 10 "ShadowTable" "state" "LShadowTable$State;", Cond.methodLink RX6 122 yX6_isKey, Cond.static yX6_isKey, Cond.code yX6_isKey cX6_isKey 1 (some .boolean), Cond.methodLink RX6 135 yX6_isIn, Cond.static yX6_isIn, Cond.code yX6_isIn cX6_isIn 3 (some .boolean), Cond.methodLink RX6 125 yX6_isTable, Cond.static yX6_isTable, Cond.code yX6_isTable cX6_isTable 1 (some .boolean), Cond.methodLink RX6 128 yX5_rowsOf, Cond.instanceMethod yX5_rowsOf, Cond.selects RX5 yX5_rowsOf yX5_rowsOf, Cond.initialized RX5, Cond.code yX5_rowsOf cX5_rowsOf 2 (some (.object "ShadowTable$Rows")), Cond.fieldLink RX5 12 "ShadowTable$State" "live" "LShadowTable$Rows;", Cond.fieldLink RX5 24 "ShadowTable$State" "copy" "LShadowTable$Copy;", Cond.fieldLink RX5 39 "ShadowTable$State" "hasOld" "Z", Cond.fieldLink RX5 18 "ShadowTable$State" "old" "LShadowTable$Rows;"]
def wsL_changes_r2 : List Cond := [Cond.methodLink RX5 71 yX5_hasCopy, Cond.instanceMethod yX5_hasCopy, Cond.selects RX5 yX5_hasCopy yX5_hasCopy, Cond.code yX5_hasCopy cX5_hasCopy 1 (some .boolean), Cond.methodLink RX6 132 yX3_at, Cond.instanceMethod yX3_at, Cond.selects RX3 yX3_at yX3_at, Cond.initialized RX3, Cond.code yX3_at cX3_at 2 (some .int), Cond.fieldLink RX3 9 "ShadowTable$Rows" "values" "[I", Cond.methodLink RL 16 yX6_copy, Cond.instanceMethod yX6_copy, Cond.selects RX6 yX6_copy yX6_copy, Cond.code yX6_copy cX6_copy 2 (some .int), Cond.methodLink RX6 146 yX0_tell, Cond.instanceMethod yX0_tell, Cond.selects RX0 yX0_tell yX0_tell, Cond.initialized RX0, Cond.code yX0_tell cX0_tell 2 (some .int), Cond.fieldLink RX0 25 "ShadowTable$Copy" "phase" "I", Cond.fieldLink RX0 49 "ShadowTable$Copy" "age" "I", Cond.fieldLink RX0 33 "ShadowTable$Copy" "kind" "I", Cond.fieldLink RX0 36 "ShadowTable$Copy" "lot" "I", Cond.fieldLink RX0 39 "ShadowTable$Copy" "cursor" "I"]
def wsL_changes_r3 : List Cond := [Cond.fieldLink RX0 21 "ShadowTable$Copy" "log" "LShadowTable$Log;", Cond.methodLink RL 37 yX6_total, Cond.instanceMethod yX6_total, Cond.selects RX6 yX6_total yX6_total, Cond.code yX6_total cX6_total 2 (some .int), Cond.methodLink RL 57 yX6_setting, Cond.instanceMethod yX6_setting, Cond.selects RX6 yX6_setting yX6_setting, Cond.code yX6_setting cX6_setting 2 (some .int), Cond.methodLink RX6 177 yX6_isSetting, Cond.static yX6_isSetting, Cond.code yX6_isSetting cX6_isSetting 1 (some .boolean), Cond.methodLink RL 76 yX6_erase, Cond.instanceMethod yX6_erase, Cond.selects RX6 yX6_erase yX6_erase, Cond.code yX6_erase cX6_erase 2 (some .int), Cond.fieldLink RX6 25 "ShadowTable" "history" "LShadowTable$History;", Cond.methodLink RX6 36 yX1_prepare, Cond.instanceMethod yX1_prepare, Cond.selects RX1 yX1_prepare yX1_prepare, Cond.initialized RX1, Cond.code yX1_prepare cX1_prepare 2 none, Cond.fieldLink RX1 13 "ShadowTable$History" "slots" "[LShadowTable$State;", Cond.fieldLink RX1 18 "ShadowTable$History" "count" "I"]
def wsL_changes_r4 : List Cond := [Cond.methodLink RX1 22 yX1_slotOf, Cond.instanceMethod yX1_slotOf, Cond.selects RX1 yX1_slotOf yX1_slotOf, Cond.code yX1_slotOf cX1_slotOf 2 (some .int), Cond.fieldLink RX1 30 "ShadowTable$History" "start" "I", Cond.methodLink RX1 26 yX5_take, Cond.instanceMethod yX5_take, Cond.selects RX5 yX5_take yX5_take, Cond.code yX5_take cX5_take 2 none, Cond.fieldLink RX5 28 "ShadowTable$State" "settings" "[I", Cond.methodLink RX5 46 arraycopyName, Cond.native arraycopyName, Cond.static arraycopyName, Cond.initialized "java/lang/System", Cond.fieldLink RX5 32 "ShadowTable$State" "totals" "[I", Cond.methodLink RX5 35 yX3_take, Cond.instanceMethod yX3_take, Cond.selects RX3 yX3_take yX3_take, Cond.code yX3_take cX3_take 2 none, Cond.methodLink RX3 21 arraycopyName, Cond.methodLink RX5 43 yX0_take, Cond.instanceMethod yX0_take, Cond.selects RX0 yX0_take yX0_take, Cond.code yX0_take cX0_take 2 none]
def wsL_changes_r5 : List Cond := [Cond.fieldLink RX0 12 "ShadowTable$Copy" "shadow" "LShadowTable$Rows;", Cond.methodLink RX0 42 yX3_take, Cond.methodLink RX0 46 yX2_take, Cond.instanceMethod yX2_take, Cond.selects RX2 yX2_take yX2_take, Cond.initialized RX2, Cond.code yX2_take cX2_take 2 none, Cond.fieldLink RX2 9 "ShadowTable$Log" "keys" "[I", Cond.methodLink RX2 25 arraycopyName, Cond.fieldLink RX2 15 "ShadowTable$Log" "values" "[I", Cond.fieldLink RX2 18 "ShadowTable$Log" "start" "I", Cond.fieldLink RX2 22 "ShadowTable$Log" "size" "I", Cond.methodLink RX6 48 yX5_eraseRow, Cond.instanceMethod yX5_eraseRow, Cond.selects RX5 yX5_eraseRow yX5_eraseRow, Cond.code yX5_eraseRow cX5_eraseRow 2 (some .int), Cond.methodLink RX5 67 yX3_at, Cond.methodLink RX5 63 yX5_changeRow, Cond.instanceMethod yX5_changeRow, Cond.selects RX5 yX5_changeRow yX5_changeRow, Cond.code yX5_changeRow cX5_changeRow 4 (some .int), Cond.methodLink RX5 79 yX2_add, Cond.instanceMethod yX2_add, Cond.selects RX2 yX2_add yX2_add]
def wsL_changes_r6 : List Cond := [Cond.code yX2_add cX2_add 4 (some .boolean), Cond.methodLink RX2 31 yX2_slotOf, Cond.instanceMethod yX2_slotOf, Cond.selects RX2 yX2_slotOf yX2_slotOf, Cond.code yX2_slotOf cX2_slotOf 2 (some .int), Cond.methodLink RX5 85 yX5_endGivenUp, Cond.instanceMethod yX5_endGivenUp, Cond.selects RX5 yX5_endGivenUp yX5_endGivenUp, Cond.code yX5_endGivenUp cX5_endGivenUp 1 none, Cond.methodLink RX5 88 yX3_place, Cond.instanceMethod yX3_place, Cond.selects RX3 yX3_place yX3_place, Cond.code yX3_place cX3_place 3 none, Cond.methodLink RX6 44 yX6_recorded, Cond.instanceMethod yX6_recorded, Cond.selects RX6 yX6_recorded yX6_recorded, Cond.code yX6_recorded cX6_recorded 2 (some .int), Cond.methodLink RX6 95 yX6_isError, Cond.static yX6_isError, Cond.code yX6_isError cX6_isError 1 (some .boolean), Cond.methodLink RX6 82 yX1_keepPrepared, Cond.instanceMethod yX1_keepPrepared, Cond.selects RX1 yX1_keepPrepared yX1_keepPrepared, Cond.code yX1_keepPrepared cX1_keepPrepared 1 none]
def wsL_changes_r7 : List Cond := [Cond.methodLink RL 79 yX6_put, Cond.instanceMethod yX6_put, Cond.selects RX6 yX6_put yX6_put, Cond.code yX6_put cX6_put 3 (some .int), Cond.methodLink RX6 40 yX5_putRow, Cond.instanceMethod yX5_putRow, Cond.selects RX5 yX5_putRow yX5_putRow, Cond.code yX5_putRow cX5_putRow 3 (some .int), Cond.static yX6_isValue, Cond.code yX6_isValue cX6_isValue 1 (some .boolean)]
def wsL_changes : List Cond := .code yL_changes cL_changes 11 (some .boolean) :: ((wsL_changes_r1 ++ (wsL_changes_r2 ++ (wsL_changes_r3 ++ (wsL_changes_r4 ++ (wsL_changes_r5 ++ (wsL_changes_r6 ++ wsL_changes_r7)))))) ++ wsX60 ++ wsX50 ++ wsX00 ++ wsX30 ++ wsX20 ++ wsX10)
def wsL_act_r1 : List Cond := [Cond.methodLink RL 82 yL_low, Cond.static yL_low, Cond.initialized RL, Cond.code yL_low cL_low 2 (some .int), Cond.constant RL 9 (2147483647), Cond.methodLink RL 85 yL_changes, Cond.static yL_changes, Cond.code yL_changes cL_changes 11 (some .boolean), Cond.methodLink RL 10 yX6_value, Cond.instanceMethod yX6_value, Cond.selects RX6 yX6_value yX6_value, Cond.initialized RX6, Cond.code yX6_value cX6_value 4 (some .int), Cond.fieldLink RX6 10 "ShadowTable" "state" "LShadowTable$State;", Cond.methodLink RX6 122 yX6_isKey, Cond.static yX6_isKey, Cond.code yX6_isKey cX6_isKey 1 (some .boolean), Cond.methodLink RX6 135 yX6_isIn, Cond.static yX6_isIn, Cond.code yX6_isIn cX6_isIn 3 (some .boolean), Cond.methodLink RX6 125 yX6_isTable, Cond.static yX6_isTable, Cond.code yX6_isTable cX6_isTable 1 (some .boolean), Cond.methodLink RX6 128 yX5_rowsOf]
def wsL_act_r2 : List Cond := [Cond.instanceMethod yX5_rowsOf, Cond.selects RX5 yX5_rowsOf yX5_rowsOf, Cond.initialized RX5, Cond.code yX5_rowsOf cX5_rowsOf 2 (some (.object "ShadowTable$Rows")), Cond.fieldLink RX5 12 "ShadowTable$State" "live" "LShadowTable$Rows;", Cond.fieldLink RX5 24 "ShadowTable$State" "copy" "LShadowTable$Copy;", Cond.fieldLink RX5 39 "ShadowTable$State" "hasOld" "Z", Cond.fieldLink RX5 18 "ShadowTable$State" "old" "LShadowTable$Rows;", Cond.methodLink RX5 71 yX5_hasCopy, Cond.instanceMethod yX5_hasCopy, Cond.selects RX5 yX5_hasCopy yX5_hasCopy, Cond.code yX5_hasCopy cX5_hasCopy 1 (some .boolean), Cond.methodLink RX6 132 yX3_at, Cond.instanceMethod yX3_at, Cond.selects RX3 yX3_at yX3_at, Cond.initialized RX3, Cond.code yX3_at cX3_at 2 (some .int), Cond.fieldLink RX3 9 "ShadowTable$Rows" "values" "[I", Cond.methodLink RL 16 yX6_copy, Cond.instanceMethod yX6_copy, Cond.selects RX6 yX6_copy yX6_copy, Cond.code yX6_copy cX6_copy 2 (some .int), Cond.methodLink RX6 146 yX0_tell, Cond.instanceMethod yX0_tell]
def wsL_act_r3 : List Cond := [Cond.selects RX0 yX0_tell yX0_tell, Cond.initialized RX0, Cond.code yX0_tell cX0_tell 2 (some .int), Cond.fieldLink RX0 25 "ShadowTable$Copy" "phase" "I", Cond.fieldLink RX0 49 "ShadowTable$Copy" "age" "I", Cond.fieldLink RX0 33 "ShadowTable$Copy" "kind" "I", Cond.fieldLink RX0 36 "ShadowTable$Copy" "lot" "I", Cond.fieldLink RX0 39 "ShadowTable$Copy" "cursor" "I", Cond.fieldLink RX0 21 "ShadowTable$Copy" "log" "LShadowTable$Log;", Cond.methodLink RL 37 yX6_total, Cond.instanceMethod yX6_total, Cond.selects RX6 yX6_total yX6_total, Cond.code yX6_total cX6_total 2 (some .int), Cond.methodLink RL 57 yX6_setting, Cond.instanceMethod yX6_setting, Cond.selects RX6 yX6_setting yX6_setting, Cond.code yX6_setting cX6_setting 2 (some .int), Cond.methodLink RX6 177 yX6_isSetting, Cond.static yX6_isSetting, Cond.code yX6_isSetting cX6_isSetting 1 (some .boolean), Cond.methodLink RL 76 yX6_erase, Cond.instanceMethod yX6_erase, Cond.selects RX6 yX6_erase yX6_erase, Cond.code yX6_erase cX6_erase 2 (some .int)]
def wsL_act_r4 : List Cond := [Cond.fieldLink RX6 25 "ShadowTable" "history" "LShadowTable$History;", Cond.methodLink RX6 36 yX1_prepare, Cond.instanceMethod yX1_prepare, Cond.selects RX1 yX1_prepare yX1_prepare, Cond.initialized RX1, Cond.code yX1_prepare cX1_prepare 2 none, Cond.fieldLink RX1 13 "ShadowTable$History" "slots" "[LShadowTable$State;", Cond.fieldLink RX1 18 "ShadowTable$History" "count" "I", Cond.methodLink RX1 22 yX1_slotOf, Cond.instanceMethod yX1_slotOf, Cond.selects RX1 yX1_slotOf yX1_slotOf, Cond.code yX1_slotOf cX1_slotOf 2 (some .int), Cond.fieldLink RX1 30 "ShadowTable$History" "start" "I", Cond.methodLink RX1 26 yX5_take, Cond.instanceMethod yX5_take, Cond.selects RX5 yX5_take yX5_take, Cond.code yX5_take cX5_take 2 none, Cond.fieldLink RX5 28 "ShadowTable$State" "settings" "[I", Cond.methodLink RX5 46 arraycopyName, Cond.native arraycopyName, Cond.static arraycopyName, Cond.initialized "java/lang/System", Cond.fieldLink RX5 32 "ShadowTable$State" "totals" "[I", Cond.methodLink RX5 35 yX3_take]
def wsL_act_r5 : List Cond := [Cond.instanceMethod yX3_take, Cond.selects RX3 yX3_take yX3_take, Cond.code yX3_take cX3_take 2 none, Cond.methodLink RX3 21 arraycopyName, Cond.methodLink RX5 43 yX0_take, Cond.instanceMethod yX0_take, Cond.selects RX0 yX0_take yX0_take, Cond.code yX0_take cX0_take 2 none, Cond.fieldLink RX0 12 "ShadowTable$Copy" "shadow" "LShadowTable$Rows;", Cond.methodLink RX0 42 yX3_take, Cond.methodLink RX0 46 yX2_take, Cond.instanceMethod yX2_take, Cond.selects RX2 yX2_take yX2_take, Cond.initialized RX2, Cond.code yX2_take cX2_take 2 none, Cond.fieldLink RX2 9 "ShadowTable$Log" "keys" "[I", Cond.methodLink RX2 25 arraycopyName, Cond.fieldLink RX2 15 "ShadowTable$Log" "values" "[I", Cond.fieldLink RX2 18 "ShadowTable$Log" "start" "I", Cond.fieldLink RX2 22 "ShadowTable$Log" "size" "I", Cond.methodLink RX6 48 yX5_eraseRow, Cond.instanceMethod yX5_eraseRow, Cond.selects RX5 yX5_eraseRow yX5_eraseRow, Cond.code yX5_eraseRow cX5_eraseRow 2 (some .int)]
def wsL_act_r6 : List Cond := [Cond.methodLink RX5 67 yX3_at, Cond.methodLink RX5 63 yX5_changeRow, Cond.instanceMethod yX5_changeRow, Cond.selects RX5 yX5_changeRow yX5_changeRow, Cond.code yX5_changeRow cX5_changeRow 4 (some .int), Cond.methodLink RX5 79 yX2_add, Cond.instanceMethod yX2_add, Cond.selects RX2 yX2_add yX2_add, Cond.code yX2_add cX2_add 4 (some .boolean), Cond.methodLink RX2 31 yX2_slotOf, Cond.instanceMethod yX2_slotOf, Cond.selects RX2 yX2_slotOf yX2_slotOf, Cond.code yX2_slotOf cX2_slotOf 2 (some .int), Cond.methodLink RX5 85 yX5_endGivenUp, Cond.instanceMethod yX5_endGivenUp, Cond.selects RX5 yX5_endGivenUp yX5_endGivenUp, Cond.code yX5_endGivenUp cX5_endGivenUp 1 none, Cond.methodLink RX5 88 yX3_place, Cond.instanceMethod yX3_place, Cond.selects RX3 yX3_place yX3_place, Cond.code yX3_place cX3_place 3 none, Cond.methodLink RX6 44 yX6_recorded, Cond.instanceMethod yX6_recorded, Cond.selects RX6 yX6_recorded yX6_recorded]
def wsL_act_r7 : List Cond := [Cond.code yX6_recorded cX6_recorded 2 (some .int), Cond.methodLink RX6 95 yX6_isError, Cond.static yX6_isError, Cond.code yX6_isError cX6_isError 1 (some .boolean), Cond.methodLink RX6 82 yX1_keepPrepared, Cond.instanceMethod yX1_keepPrepared, Cond.selects RX1 yX1_keepPrepared yX1_keepPrepared, Cond.code yX1_keepPrepared cX1_keepPrepared 1 none, Cond.methodLink RL 79 yX6_put, Cond.instanceMethod yX6_put, Cond.selects RX6 yX6_put yX6_put, Cond.code yX6_put cX6_put 3 (some .int), Cond.methodLink RX6 40 yX5_putRow, Cond.instanceMethod yX5_putRow, Cond.selects RX5 yX5_putRow yX5_putRow, Cond.code yX5_putRow cX5_putRow 3 (some .int), Cond.static yX6_isValue, Cond.code yX6_isValue cX6_isValue 1 (some .boolean), Cond.methodLink RL 47 yX6_table, Cond.instanceMethod yX6_table, Cond.selects RX6 yX6_table yX6_table, Cond.code yX6_table cX6_table 4 (some .int), Cond.methodLink RX6 139 yX3_tell, Cond.instanceMethod yX3_tell]
def wsL_act_r8 : List Cond := [Cond.selects RX3 yX3_tell yX3_tell, Cond.code yX3_tell cX3_tell 2 (some .int), Cond.methodLink RX3 27 yX3_count, Cond.instanceMethod yX3_count, Cond.selects RX3 yX3_count yX3_count, Cond.code yX3_count cX3_count 3 (some .int), Cond.methodLink RX3 31 yX3_sum, Cond.instanceMethod yX3_sum, Cond.selects RX3 yX3_sum yX3_sum, Cond.code yX3_sum cX3_sum 3 (some .int), Cond.methodLink RX3 34 yX3_leastKey, Cond.instanceMethod yX3_leastKey, Cond.selects RX3 yX3_leastKey yX3_leastKey, Cond.code yX3_leastKey cX3_leastKey 2 (some .int), Cond.methodLink RX3 37 yX3_greatestKey, Cond.instanceMethod yX3_greatestKey, Cond.selects RX3 yX3_greatestKey yX3_greatestKey, Cond.code yX3_greatestKey cX3_greatestKey 2 (some .int), Cond.methodLink RL 89 yX6_begin, Cond.instanceMethod yX6_begin, Cond.selects RX6 yX6_begin yX6_begin, Cond.code yX6_begin cX6_begin 3 (some .int), Cond.methodLink RX6 51 yX5_beginCopy, Cond.instanceMethod yX5_beginCopy]
def wsL_act_r9 : List Cond := [Cond.selects RX5 yX5_beginCopy yX5_beginCopy, Cond.code yX5_beginCopy cX5_beginCopy 3 (some .int), Cond.static yX6_isKind, Cond.code yX6_isKind cX6_isKind 1 (some .boolean), Cond.static yX6_isLot, Cond.code yX6_isLot cX6_isLot 1 (some .boolean), Cond.methodLink RX5 98 yX0_start, Cond.instanceMethod yX0_start, Cond.selects RX0 yX0_start yX0_start, Cond.code yX0_start cX0_start 3 none, Cond.methodLink RX0 29 yX3_removeAll, Cond.instanceMethod yX3_removeAll, Cond.selects RX3 yX3_removeAll yX3_removeAll, Cond.code yX3_removeAll cX3_removeAll 1 none, Cond.methodLink RX3 15 yJ7_fill_53178, Cond.static yJ7_fill_53178, Cond.initialized RJ7, Cond.code yJ7_fill_53178 cJ7_fill_53178 4 none, Cond.methodLink RX0 32 yX2_removeAll, Cond.instanceMethod yX2_removeAll, Cond.selects RX2 yX2_removeAll yX2_removeAll, Cond.code yX2_removeAll cX2_removeAll 1 none, Cond.methodLink RX5 101 yX3_count, Cond.methodLink RL 92 yL_ticks]
def wsL_act_r10 : List Cond := [Cond.static yL_ticks, Cond.code yL_ticks cL_ticks 12 (some .boolean), Cond.methodLink RL 60 yX6_tick, Cond.instanceMethod yX6_tick, Cond.selects RX6 yX6_tick yX6_tick, Cond.code yX6_tick cX6_tick 2 (some .int), Cond.methodLink RX6 54 yX5_makeTicks, Cond.instanceMethod yX5_makeTicks, Cond.selects RX5 yX5_makeTicks yX5_makeTicks, Cond.code yX5_makeTicks cX5_makeTicks 3 (some .int), Cond.static yX6_isTicks, Cond.code yX6_isTicks cX6_isTicks 1 (some .boolean), Cond.methodLink RX5 108 yX5_makeTick, Cond.instanceMethod yX5_makeTick, Cond.selects RX5 yX5_makeTick yX5_makeTick, Cond.code yX5_makeTick cX5_makeTick 1 none, Cond.methodLink RX5 111 yX5_lockRunsOut, Cond.instanceMethod yX5_lockRunsOut, Cond.selects RX5 yX5_lockRunsOut yX5_lockRunsOut, Cond.code yX5_lockRunsOut cX5_lockRunsOut 1 (some .boolean), Cond.methodLink RX5 114 yX5_applyEntries, Cond.instanceMethod yX5_applyEntries, Cond.selects RX5 yX5_applyEntries yX5_applyEntries, Cond.code yX5_applyEntries cX5_applyEntries 4 none]
def wsL_act_r11 : List Cond := [Cond.methodLink RX5 126 yX2_keyAt, Cond.instanceMethod yX2_keyAt, Cond.selects RX2 yX2_keyAt yX2_keyAt, Cond.code yX2_keyAt cX2_keyAt 2 (some .int), Cond.methodLink RX5 135 yX2_valueAt, Cond.instanceMethod yX2_valueAt, Cond.selects RX2 yX2_valueAt yX2_valueAt, Cond.code yX2_valueAt cX2_valueAt 2 (some .int), Cond.static yX6_changedValue, Cond.code yX6_changedValue cX6_changedValue 3 (some .int), Cond.methodLink RX5 142 yX2_removeFirst, Cond.instanceMethod yX2_removeFirst, Cond.selects RX2 yX2_removeFirst yX2_removeFirst, Cond.code yX2_removeFirst cX2_removeFirst 1 none, Cond.methodLink RX5 117 yX5_copyLot, Cond.instanceMethod yX5_copyLot, Cond.selects RX5 yX5_copyLot yX5_copyLot, Cond.code yX5_copyLot cX5_copyLot 3 none, Cond.methodLink RX5 151 yX0_copyKey, Cond.instanceMethod yX0_copyKey, Cond.selects RX0 yX0_copyKey yX0_copyKey, Cond.code yX0_copyKey cX0_copyKey 4 (some .boolean), Cond.methodLink RX0 56 yX3_at, Cond.methodLink RX0 60 yX3_place]
def wsL_act_r12 : List Cond := [Cond.methodLink RL 96 yL_readySo, Cond.static yL_readySo, Cond.code yL_readySo cL_readySo 7 (some .boolean), Cond.methodLink RL 63 yL_tale, Cond.static yL_tale, Cond.code yL_tale cL_tale 4 (some .long), Cond.constantLong RL 50 (17), Cond.constantLong RL 52 (31), Cond.methodLink RL 54 yX6_entry, Cond.instanceMethod yX6_entry, Cond.selects RX6 yX6_entry yX6_entry, Cond.code yX6_entry cX6_entry 4 (some .int), Cond.methodLink RX6 149 yX5_hasCopy, Cond.methodLink RX6 156 yX2_keyAt, Cond.methodLink RX6 161 yX2_valueAt, Cond.methodLink RL 44 yX6_readyIn, Cond.instanceMethod yX6_readyIn, Cond.selects RX6 yX6_readyIn yX6_readyIn, Cond.code yX6_readyIn cX6_readyIn 1 (some .int), Cond.fieldLink RX6 19 "ShadowTable" "trial" "LShadowTable$State;", Cond.methodLink RX6 190 yX5_canBecomeReady, Cond.instanceMethod yX5_canBecomeReady, Cond.selects RX5 yX5_canBecomeReady yX5_canBecomeReady, Cond.code yX5_canBecomeReady cX5_canBecomeReady 1 (some .boolean)]
def wsL_act_r13 : List Cond := [Cond.methodLink RX6 106 yX5_take, Cond.methodLink RX6 193 yX5_ticksUntilReady, Cond.instanceMethod yX5_ticksUntilReady, Cond.selects RX5 yX5_ticksUntilReady yX5_ticksUntilReady, Cond.code yX5_ticksUntilReady cX5_ticksUntilReady 3 (some .int), Cond.methodLink RL 67 yX6_leastLot, Cond.instanceMethod yX6_leastLot, Cond.selects RX6 yX6_leastLot yX6_leastLot, Cond.code yX6_leastLot cX6_leastLot 3 (some .int), Cond.methodLink RX6 196 yX6_isTicks, Cond.methodLink RL 70 yX6_undo, Cond.instanceMethod yX6_undo, Cond.selects RX6 yX6_undo yX6_undo, Cond.code yX6_undo cX6_undo 1 (some .int), Cond.methodLink RX6 102 yX1_takeBack, Cond.instanceMethod yX1_takeBack, Cond.selects RX1 yX1_takeBack yX1_takeBack, Cond.code yX1_takeBack cX1_takeBack 2 (some .int), Cond.methodLink RL 99 yX6_lock, Cond.instanceMethod yX6_lock, Cond.selects RX6 yX6_lock yX6_lock, Cond.code yX6_lock cX6_lock 1 (some .int), Cond.methodLink RX6 57 yX5_lockLive, Cond.instanceMethod yX5_lockLive]
def wsL_act_r14 : List Cond := [Cond.selects RX5 yX5_lockLive yX5_lockLive, Cond.code yX5_lockLive cX5_lockLive 1 (some .int), Cond.methodLink RL 102 yX6_unlock, Cond.instanceMethod yX6_unlock, Cond.selects RX6 yX6_unlock yX6_unlock, Cond.code yX6_unlock cX6_unlock 1 (some .int), Cond.methodLink RX6 61 yX5_unlockLive, Cond.instanceMethod yX5_unlockLive, Cond.selects RX5 yX5_unlockLive yX5_unlockLive, Cond.code yX5_unlockLive cX5_unlockLive 1 (some .int), Cond.methodLink RL 105 yL_swaps, Cond.static yL_swaps, Cond.code yL_swaps cL_swaps 6 (some .boolean), Cond.arrayClass .int, Cond.methodLink RL 73 yX6_swap, Cond.instanceMethod yX6_swap, Cond.selects RX6 yX6_swap yX6_swap, Cond.code yX6_swap cX6_swap 1 (some .int), Cond.methodLink RX6 64 yX5_swapTables, Cond.instanceMethod yX5_swapTables, Cond.selects RX5 yX5_swapTables yX5_swapTables, Cond.code yX5_swapTables cX5_swapTables 1 (some .int), Cond.methodLink RL 20 yX6_changed, Cond.instanceMethod yX6_changed]
def wsL_act_r15 : List Cond := [Cond.selects RX6 yX6_changed yX6_changed, Cond.code yX6_changed cX6_changed 4 (some .int), Cond.methodLink RX6 164 yX6_isKind, Cond.methodLink RX6 167 yX6_isValue, Cond.methodLink RX6 170 yX6_changedValue, Cond.methodLink RL 109 yX6_set, Cond.instanceMethod yX6_set, Cond.selects RX6 yX6_set yX6_set, Cond.code yX6_set cX6_set 3 (some .int), Cond.methodLink RX6 70 yX5_changeSetting, Cond.instanceMethod yX5_changeSetting, Cond.selects RX5 yX5_changeSetting yX5_changeSetting, Cond.code yX5_changeSetting cX5_changeSetting 4 (some .int), Cond.methodLink RL 112 yX6_giveUp, Cond.instanceMethod yX6_giveUp, Cond.selects RX6 yX6_giveUp yX6_giveUp, Cond.code yX6_giveUp cX6_giveUp 1 (some .int), Cond.methodLink RX6 67 yX5_giveCopyUp, Cond.instanceMethod yX5_giveCopyUp, Cond.selects RX5 yX5_giveCopyUp yX5_giveCopyUp, Cond.code yX5_giveCopyUp cX5_giveCopyUp 1 (some .int)]
def wsL_act : List Cond := .code yL_act cL_act 6 (some .boolean) :: ((wsL_act_r1 ++ (wsL_act_r2 ++ (wsL_act_r3 ++ (wsL_act_r4 ++ (wsL_act_r5 ++ (wsL_act_r6 ++ (wsL_act_r7 ++ (wsL_act_r8 ++ (wsL_act_r9 ++ (wsL_act_r10 ++ (wsL_act_r11 ++ (wsL_act_r12 ++ (wsL_act_r13 ++ (wsL_act_r14 ++ wsL_act_r15)))))))))))))) ++ wsX60 ++ wsX50 ++ wsX00 ++ wsX30 ++ wsX20 ++ wsX10)
def wsL_law_r1 : List Cond := [Cond.classLink RL 11 RX6, Cond.instantiable RX6 6, Cond.initialized RX6, Cond.methodLink RL 115 yX6_init, Cond.instanceMethod yX6_init, Cond.code yX6_init cX6_init 1 none, Cond.methodLink RX6 1 objectInit, Cond.instanceMethod objectInit, Cond.code objectInit ⟨#[0xb1]⟩ 1 none, Cond.classLink RX6 7 RX5, Cond.instantiable RX5 6, Cond.initialized RX5, Cond.fieldLink RX6 10 "ShadowTable" "state" "LShadowTable$State;", Cond.fieldLink RX6 16 "ShadowTable" "snapshot" "LShadowTable$State;", Cond.fieldLink RX6 19 "ShadowTable" "trial" "LShadowTable$State;", Cond.classLink RX6 22 RX1, Cond.instantiable RX1 3, Cond.initialized RX1, Cond.fieldLink RX6 25 "ShadowTable" "history" "LShadowTable$History;", Cond.classLink RX6 29 RX4, Cond.instantiable RX4 7, Cond.initialized RX4, Cond.fieldLink RX6 32 "ShadowTable" "script" "LShadowTable$Script;", Cond.instanceMethod yX5_init]
def wsL_law_r2 : List Cond := [Cond.code yX5_init cX5_init 1 none, Cond.methodLink RX5 3 objectInit, Cond.classLink RX5 9 RX3, Cond.instantiable RX3 1, Cond.initialized RX3, Cond.fieldLink RX5 12 "ShadowTable$State" "live" "LShadowTable$Rows;", Cond.fieldLink RX5 18 "ShadowTable$State" "old" "LShadowTable$Rows;", Cond.classLink RX5 21 RX0, Cond.instantiable RX0 7, Cond.initialized RX0, Cond.fieldLink RX5 24 "ShadowTable$State" "copy" "LShadowTable$Copy;", Cond.arrayClass .int, Cond.fieldLink RX5 28 "ShadowTable$State" "settings" "[I", Cond.fieldLink RX5 32 "ShadowTable$State" "totals" "[I", Cond.methodLink RX5 11 yX3_init, Cond.instanceMethod yX3_init, Cond.code yX3_init cX3_init 1 none, Cond.methodLink RX3 3 objectInit, Cond.fieldLink RX3 9 "ShadowTable$Rows" "values" "[I", Cond.methodLink RX3 15 yJ7_fill_53178, Cond.static yJ7_fill_53178, Cond.initialized RJ7, Cond.code yJ7_fill_53178 cJ7_fill_53178 4 none, Cond.instanceMethod yX0_init]
def wsL_law_r3 : List Cond := [Cond.code yX0_init cX0_init 1 none, Cond.methodLink RX0 3 objectInit, Cond.classLink RX0 9 RX3, Cond.fieldLink RX0 12 "ShadowTable$Copy" "shadow" "LShadowTable$Rows;", Cond.classLink RX0 18 RX2, Cond.instantiable RX2 4, Cond.initialized RX2, Cond.fieldLink RX0 21 "ShadowTable$Copy" "log" "LShadowTable$Log;", Cond.fieldLink RX0 25 "ShadowTable$Copy" "phase" "I", Cond.methodLink RX0 11 yX3_init, Cond.instanceMethod yX2_init, Cond.code yX2_init cX2_init 1 none, Cond.methodLink RX2 3 objectInit, Cond.fieldLink RX2 9 "ShadowTable$Log" "keys" "[I", Cond.fieldLink RX2 15 "ShadowTable$Log" "values" "[I", Cond.methodLink RX6 24 yX1_init, Cond.instanceMethod yX1_init, Cond.code yX1_init cX1_init 2 none, Cond.methodLink RX1 3 objectInit, Cond.classLink RX1 11 RX5, Cond.fieldLink RX1 13 "ShadowTable$History" "slots" "[LShadowTable$State;", Cond.instanceMethod yX4_init, Cond.code yX4_init cX4_init 1 none, Cond.methodLink RX4 3 objectInit]
def wsL_law_r4 : List Cond := [Cond.fieldLink RX4 9 "ShadowTable$Script" "characters" "[I", Cond.methodLink RL 116 yL_holds, Cond.static yL_holds, Cond.initialized RL, Cond.code yL_holds cL_holds 7 (some .boolean), Cond.methodLink RL 16 yX6_copy, Cond.instanceMethod yX6_copy, Cond.selects RX6 yX6_copy yX6_copy, Cond.code yX6_copy cX6_copy 2 (some .int), Cond.methodLink RX6 135 yX6_isIn, Cond.static yX6_isIn, Cond.code yX6_isIn cX6_isIn 3 (some .boolean), Cond.methodLink RX6 146 yX0_tell, Cond.instanceMethod yX0_tell, Cond.selects RX0 yX0_tell yX0_tell, Cond.code yX0_tell cX0_tell 2 (some .int), Cond.fieldLink RX0 49 "ShadowTable$Copy" "age" "I", Cond.fieldLink RX0 33 "ShadowTable$Copy" "kind" "I", Cond.fieldLink RX0 36 "ShadowTable$Copy" "lot" "I", Cond.fieldLink RX0 39 "ShadowTable$Copy" "cursor" "I", Cond.methodLink RL 10 yX6_value, Cond.instanceMethod yX6_value, Cond.selects RX6 yX6_value yX6_value, Cond.code yX6_value cX6_value 4 (some .int)]
def wsL_law_r5 : List Cond := [Cond.methodLink RX6 122 yX6_isKey, Cond.static yX6_isKey, Cond.code yX6_isKey cX6_isKey 1 (some .boolean), Cond.methodLink RX6 125 yX6_isTable, Cond.static yX6_isTable, Cond.code yX6_isTable cX6_isTable 1 (some .boolean), Cond.methodLink RX6 128 yX5_rowsOf, Cond.instanceMethod yX5_rowsOf, Cond.selects RX5 yX5_rowsOf yX5_rowsOf, Cond.code yX5_rowsOf cX5_rowsOf 2 (some (.object "ShadowTable$Rows")), Cond.fieldLink RX5 39 "ShadowTable$State" "hasOld" "Z", Cond.methodLink RX5 71 yX5_hasCopy, Cond.instanceMethod yX5_hasCopy, Cond.selects RX5 yX5_hasCopy yX5_hasCopy, Cond.code yX5_hasCopy cX5_hasCopy 1 (some .boolean), Cond.methodLink RX6 132 yX3_at, Cond.instanceMethod yX3_at, Cond.selects RX3 yX3_at yX3_at, Cond.code yX3_at cX3_at 2 (some .int), Cond.methodLink RL 24 yL_due, Cond.static yL_due, Cond.code yL_due cL_due 3 (some .int), Cond.methodLink RL 20 yX6_changed, Cond.instanceMethod yX6_changed]
def wsL_law_r6 : List Cond := [Cond.selects RX6 yX6_changed yX6_changed, Cond.code yX6_changed cX6_changed 4 (some .int), Cond.methodLink RX6 164 yX6_isKind, Cond.static yX6_isKind, Cond.code yX6_isKind cX6_isKind 1 (some .boolean), Cond.methodLink RX6 167 yX6_isValue, Cond.static yX6_isValue, Cond.code yX6_isValue cX6_isValue 1 (some .boolean), Cond.methodLink RX6 170 yX6_changedValue, Cond.static yX6_changedValue, Cond.code yX6_changedValue cX6_changedValue 3 (some .int), Cond.methodLink RL 30 yX6_differences, Cond.instanceMethod yX6_differences, Cond.selects RX6 yX6_differences yX6_differences, Cond.code yX6_differences cX6_differences 3 (some .int), Cond.methodLink RX6 149 yX5_hasCopy, Cond.methodLink RX6 174 yX5_differsAt, Cond.instanceMethod yX5_differsAt, Cond.selects RX5 yX5_differsAt yX5_differsAt, Cond.code yX5_differsAt cX5_differsAt 2 (some .boolean), Cond.methodLink RX5 67 yX3_at, Cond.methodLink RL 34 yX6_firstDifference, Cond.instanceMethod yX6_firstDifference, Cond.selects RX6 yX6_firstDifference yX6_firstDifference]
def wsL_law_r7 : List Cond := [Cond.code yX6_firstDifference cX6_firstDifference 2 (some .int), Cond.methodLink RL 37 yX6_total, Cond.instanceMethod yX6_total, Cond.selects RX6 yX6_total yX6_total, Cond.code yX6_total cX6_total 2 (some .int), Cond.methodLink RL 40 yX6_progress, Cond.instanceMethod yX6_progress, Cond.selects RX6 yX6_progress yX6_progress, Cond.code yX6_progress cX6_progress 1 (some .double), Cond.constantDouble RX6 205 (4629700416936869888), Cond.methodLink RL 44 yX6_readyIn, Cond.instanceMethod yX6_readyIn, Cond.selects RX6 yX6_readyIn yX6_readyIn, Cond.code yX6_readyIn cX6_readyIn 1 (some .int), Cond.methodLink RX6 190 yX5_canBecomeReady, Cond.instanceMethod yX5_canBecomeReady, Cond.selects RX5 yX5_canBecomeReady yX5_canBecomeReady, Cond.code yX5_canBecomeReady cX5_canBecomeReady 1 (some .boolean), Cond.methodLink RX6 106 yX5_take, Cond.instanceMethod yX5_take, Cond.selects RX5 yX5_take yX5_take, Cond.code yX5_take cX5_take 2 none, Cond.methodLink RX5 46 arraycopyName, Cond.native arraycopyName]
def wsL_law_r8 : List Cond := [Cond.static arraycopyName, Cond.initialized "java/lang/System", Cond.methodLink RX5 35 yX3_take, Cond.instanceMethod yX3_take, Cond.selects RX3 yX3_take yX3_take, Cond.code yX3_take cX3_take 2 none, Cond.methodLink RX3 21 arraycopyName, Cond.methodLink RX5 43 yX0_take, Cond.instanceMethod yX0_take, Cond.selects RX0 yX0_take yX0_take, Cond.code yX0_take cX0_take 2 none, Cond.methodLink RX0 42 yX3_take, Cond.methodLink RX0 46 yX2_take, Cond.instanceMethod yX2_take, Cond.selects RX2 yX2_take yX2_take, Cond.code yX2_take cX2_take 2 none, Cond.methodLink RX2 25 arraycopyName, Cond.fieldLink RX2 18 "ShadowTable$Log" "start" "I", Cond.fieldLink RX2 22 "ShadowTable$Log" "size" "I", Cond.methodLink RX6 193 yX5_ticksUntilReady, Cond.instanceMethod yX5_ticksUntilReady, Cond.selects RX5 yX5_ticksUntilReady yX5_ticksUntilReady, Cond.code yX5_ticksUntilReady cX5_ticksUntilReady 3 (some .int), Cond.methodLink RX5 108 yX5_makeTick]
def wsL_law_r9 : List Cond := [Cond.instanceMethod yX5_makeTick, Cond.selects RX5 yX5_makeTick yX5_makeTick, Cond.code yX5_makeTick cX5_makeTick 1 none, Cond.methodLink RX5 111 yX5_lockRunsOut, Cond.instanceMethod yX5_lockRunsOut, Cond.selects RX5 yX5_lockRunsOut yX5_lockRunsOut, Cond.code yX5_lockRunsOut cX5_lockRunsOut 1 (some .boolean), Cond.methodLink RX5 114 yX5_applyEntries, Cond.instanceMethod yX5_applyEntries, Cond.selects RX5 yX5_applyEntries yX5_applyEntries, Cond.code yX5_applyEntries cX5_applyEntries 4 none, Cond.methodLink RX5 126 yX2_keyAt, Cond.instanceMethod yX2_keyAt, Cond.selects RX2 yX2_keyAt yX2_keyAt, Cond.code yX2_keyAt cX2_keyAt 2 (some .int), Cond.methodLink RX2 31 yX2_slotOf, Cond.instanceMethod yX2_slotOf, Cond.selects RX2 yX2_slotOf yX2_slotOf, Cond.code yX2_slotOf cX2_slotOf 2 (some .int), Cond.methodLink RX5 135 yX2_valueAt, Cond.instanceMethod yX2_valueAt, Cond.selects RX2 yX2_valueAt yX2_valueAt, Cond.code yX2_valueAt cX2_valueAt 2 (some .int), Cond.methodLink RX5 88 yX3_place]
def wsL_law_r10 : List Cond := [Cond.instanceMethod yX3_place, Cond.selects RX3 yX3_place yX3_place, Cond.code yX3_place cX3_place 3 none, Cond.methodLink RX5 142 yX2_removeFirst, Cond.instanceMethod yX2_removeFirst, Cond.selects RX2 yX2_removeFirst yX2_removeFirst, Cond.code yX2_removeFirst cX2_removeFirst 1 none, Cond.methodLink RX5 117 yX5_copyLot, Cond.instanceMethod yX5_copyLot, Cond.selects RX5 yX5_copyLot yX5_copyLot, Cond.code yX5_copyLot cX5_copyLot 3 none, Cond.methodLink RX5 151 yX0_copyKey, Cond.instanceMethod yX0_copyKey, Cond.selects RX0 yX0_copyKey yX0_copyKey, Cond.code yX0_copyKey cX0_copyKey 4 (some .boolean), Cond.methodLink RX0 56 yX3_at, Cond.methodLink RX0 60 yX3_place, Cond.methodLink RL 47 yX6_table, Cond.instanceMethod yX6_table, Cond.selects RX6 yX6_table yX6_table, Cond.code yX6_table cX6_table 4 (some .int), Cond.methodLink RX6 139 yX3_tell, Cond.instanceMethod yX3_tell, Cond.selects RX3 yX3_tell yX3_tell]
def wsL_law_r11 : List Cond := [Cond.code yX3_tell cX3_tell 2 (some .int), Cond.methodLink RX3 27 yX3_count, Cond.instanceMethod yX3_count, Cond.selects RX3 yX3_count yX3_count, Cond.code yX3_count cX3_count 3 (some .int), Cond.methodLink RX3 31 yX3_sum, Cond.instanceMethod yX3_sum, Cond.selects RX3 yX3_sum yX3_sum, Cond.code yX3_sum cX3_sum 3 (some .int), Cond.methodLink RX3 34 yX3_leastKey, Cond.instanceMethod yX3_leastKey, Cond.selects RX3 yX3_leastKey yX3_leastKey, Cond.code yX3_leastKey cX3_leastKey 2 (some .int), Cond.methodLink RX3 37 yX3_greatestKey, Cond.instanceMethod yX3_greatestKey, Cond.selects RX3 yX3_greatestKey yX3_greatestKey, Cond.code yX3_greatestKey cX3_greatestKey 2 (some .int), Cond.methodLink RL 119 yL_cell, Cond.static yL_cell, Cond.code yL_cell cL_cell 2 (some .int), Cond.constant RL 7 (836224489), Cond.constant RL 8 (750383527), Cond.methodLink RL 123 yL_act, Cond.static yL_act]
def wsL_law_r12 : List Cond := [Cond.code yL_act cL_act 6 (some .boolean), Cond.methodLink RL 82 yL_low, Cond.static yL_low, Cond.code yL_low cL_low 2 (some .int), Cond.constant RL 9 (2147483647), Cond.methodLink RL 85 yL_changes, Cond.static yL_changes, Cond.code yL_changes cL_changes 11 (some .boolean), Cond.methodLink RL 57 yX6_setting, Cond.instanceMethod yX6_setting, Cond.selects RX6 yX6_setting yX6_setting, Cond.code yX6_setting cX6_setting 2 (some .int), Cond.methodLink RX6 177 yX6_isSetting, Cond.static yX6_isSetting, Cond.code yX6_isSetting cX6_isSetting 1 (some .boolean), Cond.methodLink RL 76 yX6_erase, Cond.instanceMethod yX6_erase, Cond.selects RX6 yX6_erase yX6_erase, Cond.code yX6_erase cX6_erase 2 (some .int), Cond.methodLink RX6 36 yX1_prepare, Cond.instanceMethod yX1_prepare, Cond.selects RX1 yX1_prepare yX1_prepare, Cond.code yX1_prepare cX1_prepare 2 none, Cond.fieldLink RX1 18 "ShadowTable$History" "count" "I"]
def wsL_law_r13 : List Cond := [Cond.methodLink RX1 22 yX1_slotOf, Cond.instanceMethod yX1_slotOf, Cond.selects RX1 yX1_slotOf yX1_slotOf, Cond.code yX1_slotOf cX1_slotOf 2 (some .int), Cond.fieldLink RX1 30 "ShadowTable$History" "start" "I", Cond.methodLink RX1 26 yX5_take, Cond.methodLink RX6 48 yX5_eraseRow, Cond.instanceMethod yX5_eraseRow, Cond.selects RX5 yX5_eraseRow yX5_eraseRow, Cond.code yX5_eraseRow cX5_eraseRow 2 (some .int), Cond.methodLink RX5 63 yX5_changeRow, Cond.instanceMethod yX5_changeRow, Cond.selects RX5 yX5_changeRow yX5_changeRow, Cond.code yX5_changeRow cX5_changeRow 4 (some .int), Cond.methodLink RX5 79 yX2_add, Cond.instanceMethod yX2_add, Cond.selects RX2 yX2_add yX2_add, Cond.code yX2_add cX2_add 4 (some .boolean), Cond.methodLink RX5 85 yX5_endGivenUp, Cond.instanceMethod yX5_endGivenUp, Cond.selects RX5 yX5_endGivenUp yX5_endGivenUp, Cond.code yX5_endGivenUp cX5_endGivenUp 1 none, Cond.methodLink RX6 44 yX6_recorded, Cond.instanceMethod yX6_recorded]
def wsL_law_r14 : List Cond := [Cond.selects RX6 yX6_recorded yX6_recorded, Cond.code yX6_recorded cX6_recorded 2 (some .int), Cond.methodLink RX6 95 yX6_isError, Cond.static yX6_isError, Cond.code yX6_isError cX6_isError 1 (some .boolean), Cond.methodLink RX6 82 yX1_keepPrepared, Cond.instanceMethod yX1_keepPrepared, Cond.selects RX1 yX1_keepPrepared yX1_keepPrepared, Cond.code yX1_keepPrepared cX1_keepPrepared 1 none, Cond.methodLink RL 79 yX6_put, Cond.instanceMethod yX6_put, Cond.selects RX6 yX6_put yX6_put, Cond.code yX6_put cX6_put 3 (some .int), Cond.methodLink RX6 40 yX5_putRow, Cond.instanceMethod yX5_putRow, Cond.selects RX5 yX5_putRow yX5_putRow, Cond.code yX5_putRow cX5_putRow 3 (some .int), Cond.methodLink RL 89 yX6_begin, Cond.instanceMethod yX6_begin, Cond.selects RX6 yX6_begin yX6_begin, Cond.code yX6_begin cX6_begin 3 (some .int), Cond.methodLink RX6 51 yX5_beginCopy, Cond.instanceMethod yX5_beginCopy, Cond.selects RX5 yX5_beginCopy yX5_beginCopy]
def wsL_law_r15 : List Cond := [Cond.code yX5_beginCopy cX5_beginCopy 3 (some .int), Cond.static yX6_isLot, Cond.code yX6_isLot cX6_isLot 1 (some .boolean), Cond.methodLink RX5 98 yX0_start, Cond.instanceMethod yX0_start, Cond.selects RX0 yX0_start yX0_start, Cond.code yX0_start cX0_start 3 none, Cond.methodLink RX0 29 yX3_removeAll, Cond.instanceMethod yX3_removeAll, Cond.selects RX3 yX3_removeAll yX3_removeAll, Cond.code yX3_removeAll cX3_removeAll 1 none, Cond.methodLink RX0 32 yX2_removeAll, Cond.instanceMethod yX2_removeAll, Cond.selects RX2 yX2_removeAll yX2_removeAll, Cond.code yX2_removeAll cX2_removeAll 1 none, Cond.methodLink RX5 101 yX3_count, Cond.methodLink RL 92 yL_ticks, Cond.static yL_ticks, Cond.code yL_ticks cL_ticks 12 (some .boolean), Cond.methodLink RL 60 yX6_tick, Cond.instanceMethod yX6_tick, Cond.selects RX6 yX6_tick yX6_tick, Cond.code yX6_tick cX6_tick 2 (some .int), Cond.methodLink RX6 54 yX5_makeTicks]
def wsL_law_r16 : List Cond := [Cond.instanceMethod yX5_makeTicks, Cond.selects RX5 yX5_makeTicks yX5_makeTicks, Cond.code yX5_makeTicks cX5_makeTicks 3 (some .int), Cond.static yX6_isTicks, Cond.code yX6_isTicks cX6_isTicks 1 (some .boolean), Cond.methodLink RL 96 yL_readySo, Cond.static yL_readySo, Cond.code yL_readySo cL_readySo 7 (some .boolean), Cond.methodLink RL 63 yL_tale, Cond.static yL_tale, Cond.code yL_tale cL_tale 4 (some .long), Cond.constantLong RL 50 (17), Cond.constantLong RL 52 (31), Cond.methodLink RL 54 yX6_entry, Cond.instanceMethod yX6_entry, Cond.selects RX6 yX6_entry yX6_entry, Cond.code yX6_entry cX6_entry 4 (some .int), Cond.methodLink RX6 156 yX2_keyAt, Cond.methodLink RX6 161 yX2_valueAt, Cond.methodLink RL 67 yX6_leastLot, Cond.instanceMethod yX6_leastLot, Cond.selects RX6 yX6_leastLot yX6_leastLot, Cond.code yX6_leastLot cX6_leastLot 3 (some .int), Cond.methodLink RX6 196 yX6_isTicks]
def wsL_law_r17 : List Cond := [Cond.methodLink RL 70 yX6_undo, Cond.instanceMethod yX6_undo, Cond.selects RX6 yX6_undo yX6_undo, Cond.code yX6_undo cX6_undo 1 (some .int), Cond.methodLink RX6 102 yX1_takeBack, Cond.instanceMethod yX1_takeBack, Cond.selects RX1 yX1_takeBack yX1_takeBack, Cond.code yX1_takeBack cX1_takeBack 2 (some .int), Cond.methodLink RL 99 yX6_lock, Cond.instanceMethod yX6_lock, Cond.selects RX6 yX6_lock yX6_lock, Cond.code yX6_lock cX6_lock 1 (some .int), Cond.methodLink RX6 57 yX5_lockLive, Cond.instanceMethod yX5_lockLive, Cond.selects RX5 yX5_lockLive yX5_lockLive, Cond.code yX5_lockLive cX5_lockLive 1 (some .int), Cond.methodLink RL 102 yX6_unlock, Cond.instanceMethod yX6_unlock, Cond.selects RX6 yX6_unlock yX6_unlock, Cond.code yX6_unlock cX6_unlock 1 (some .int), Cond.methodLink RX6 61 yX5_unlockLive, Cond.instanceMethod yX5_unlockLive, Cond.selects RX5 yX5_unlockLive yX5_unlockLive, Cond.code yX5_unlockLive cX5_unlockLive 1 (some .int)]
def wsL_law_r18 : List Cond := [Cond.methodLink RL 105 yL_swaps, Cond.static yL_swaps, Cond.code yL_swaps cL_swaps 6 (some .boolean), Cond.methodLink RL 73 yX6_swap, Cond.instanceMethod yX6_swap, Cond.selects RX6 yX6_swap yX6_swap, Cond.code yX6_swap cX6_swap 1 (some .int), Cond.methodLink RX6 64 yX5_swapTables, Cond.instanceMethod yX5_swapTables, Cond.selects RX5 yX5_swapTables yX5_swapTables, Cond.code yX5_swapTables cX5_swapTables 1 (some .int), Cond.methodLink RL 109 yX6_set, Cond.instanceMethod yX6_set, Cond.selects RX6 yX6_set yX6_set, Cond.code yX6_set cX6_set 3 (some .int), Cond.methodLink RX6 70 yX5_changeSetting, Cond.instanceMethod yX5_changeSetting, Cond.selects RX5 yX5_changeSetting yX5_changeSetting, Cond.code yX5_changeSetting cX5_changeSetting 4 (some .int), Cond.methodLink RL 112 yX6_giveUp, Cond.instanceMethod yX6_giveUp, Cond.selects RX6 yX6_giveUp yX6_giveUp, Cond.code yX6_giveUp cX6_giveUp 1 (some .int), Cond.methodLink RX6 67 yX5_giveCopyUp]
def wsL_law_r19 : List Cond := [Cond.instanceMethod yX5_giveCopyUp, Cond.selects RX5 yX5_giveCopyUp yX5_giveCopyUp, Cond.code yX5_giveCopyUp cX5_giveCopyUp 1 (some .int)]
def wsL_law : List Cond := (wsL_law_r1 ++ (wsL_law_r2 ++ (wsL_law_r3 ++ (wsL_law_r4 ++ (wsL_law_r5 ++ (wsL_law_r6 ++ (wsL_law_r7 ++ (wsL_law_r8 ++ (wsL_law_r9 ++ (wsL_law_r10 ++ (wsL_law_r11 ++ (wsL_law_r12 ++ (wsL_law_r13 ++ (wsL_law_r14 ++ (wsL_law_r15 ++ (wsL_law_r16 ++ (wsL_law_r17 ++ (wsL_law_r18 ++ wsL_law_r19)))))))))))))))))) ++ wsX60 ++ wsX50 ++ wsX10 ++ wsX40 ++ wsX30 ++ wsX00 ++ wsX20 ++ ([] : List Cond)
theorem lwm_0 {w : Cond} (h : w ∈ k2_sels lw_privs) : w ∈ lw_tbl := List.mem_append_left _ h
theorem lwm_1 {w : Cond} (h : w ∈ tables_1_1) : w ∈ lw_tbl := List.mem_append_right _ (List.mem_append_left _ h)
theorem lwm_2 {w : Cond} (h : w ∈ tables_1_2) : w ∈ lw_tbl := List.mem_append_right _ (List.mem_append_right _ (List.mem_append_left _ h))
theorem lwm_3 {w : Cond} (h : w ∈ tables_1_3) : w ∈ lw_tbl := List.mem_append_right _ (List.mem_append_right _ (List.mem_append_right _ h))
set_option maxRecDepth 20000 in
theorem lwi_wsL_law_r1 : ∀ w ∈ wsL_law_r1, w ∈ lw_tbl := (List.forall_mem_cons.mpr ⟨(lwm_1 (List.mem_of_getElem? (i := 10) (by decide +kernel))), (List.forall_mem_cons.mpr ⟨(lwm_1 (List.mem_of_getElem? (i := 11) (by decide +kernel))), (List.forall_mem_cons.mpr ⟨(lwm_1 (List.mem_of_getElem? (i := 1) (by decide +kernel))), (List.forall_mem_cons.mpr ⟨(lwm_1 (List.mem_of_getElem? (i := 12) (by decide +kernel))), (List.forall_mem_cons.mpr ⟨(lwm_1 (List.mem_of_getElem? (i := 13) (by decide +kernel))), (List.forall_mem_cons.mpr ⟨(lwm_1 (List.mem_of_getElem? (i := 14) (by rfl))), (List.forall_mem_cons.mpr ⟨(lwm_1 (List.mem_of_getElem? (i := 15) (by decide +kernel))), (List.forall_mem_cons.mpr ⟨(lwm_1 (List.mem_of_getElem? (i := 16) (by decide +kernel))), (List.forall_mem_cons.mpr ⟨(lwm_1 (List.mem_of_getElem? (i := 17) (by rfl))), (List.forall_mem_cons.mpr ⟨(lwm_1 (List.mem_of_getElem? (i := 18) (by decide +kernel))), (List.forall_mem_cons.mpr ⟨(lwm_1 (List.mem_of_getElem? (i := 19) (by decide +kernel))), (List.forall_mem_cons.mpr ⟨(lwm_1 (List.mem_of_getElem? (i := 2) (by decide +kernel))), (List.forall_mem_cons.mpr ⟨(lwm_1 (List.mem_of_getElem? (i := 162) (by decide +kernel))), (List.forall_mem_cons.mpr ⟨(lwm_1 (List.mem_of_getElem? (i := 163) (by decide +kernel))), (List.forall_mem_cons.mpr ⟨(lwm_1 (List.mem_of_getElem? (i := 164) (by decide +kernel))), (List.forall_mem_cons.mpr ⟨(lwm_1 (List.mem_of_getElem? (i := 121) (by decide +kernel))), (List.forall_mem_cons.mpr ⟨(lwm_1 (List.mem_of_getElem? (i := 122) (by decide +kernel))), (List.forall_mem_cons.mpr ⟨(lwm_1 (List.mem_of_getElem? (i := 7) (by decide +kernel))), (List.forall_mem_cons.mpr ⟨(lwm_1 (List.mem_of_getElem? (i := 165) (by decide +kernel))), (List.forall_mem_cons.mpr ⟨(lwm_1 (List.mem_of_getElem? (i := 140) (by decide +kernel))), (List.forall_mem_cons.mpr ⟨(lwm_1 (List.mem_of_getElem? (i := 141) (by decide +kernel))), (List.forall_mem_cons.mpr ⟨(lwm_1 (List.mem_of_getElem? (i := 8) (by decide +kernel))), (List.forall_mem_cons.mpr ⟨(lwm_1 (List.mem_of_getElem? (i := 166) (by decide +kernel))), (List.forall_mem_cons.mpr ⟨(lwm_1 (List.mem_of_getElem? (i := 21) (by decide +kernel))), (fun _ h => absurd h List.not_mem_nil)⟩)⟩)⟩)⟩)⟩)⟩)⟩)⟩)⟩)⟩)⟩)⟩)⟩)⟩)⟩)⟩)⟩)⟩)⟩)⟩)⟩)⟩)⟩)⟩)
set_option maxRecDepth 20000 in
theorem lwi_wsL_law_r2 : ∀ w ∈ wsL_law_r2, w ∈ lw_tbl := (List.forall_mem_cons.mpr ⟨(lwm_1 (List.mem_of_getElem? (i := 22) (by rfl))), (List.forall_mem_cons.mpr ⟨(lwm_1 (List.mem_of_getElem? (i := 23) (by decide +kernel))), (List.forall_mem_cons.mpr ⟨(lwm_1 (List.mem_of_getElem? (i := 24) (by decide +kernel))), (List.forall_mem_cons.mpr ⟨(lwm_1 (List.mem_of_getElem? (i := 25) (by decide +kernel))), (List.forall_mem_cons.mpr ⟨(lwm_1 (List.mem_of_getElem? (i := 3) (by decide +kernel))), (List.forall_mem_cons.mpr ⟨(lwm_1 (List.mem_of_getElem? (i := 99) (by decide +kernel))), (List.forall_mem_cons.mpr ⟨(lwm_1 (List.mem_of_getElem? (i := 100) (by decide +kernel))), (List.forall_mem_cons.mpr ⟨(lwm_1 (List.mem_of_getElem? (i := 38) (by decide +kernel))), (List.forall_mem_cons.mpr ⟨(lwm_1 (List.mem_of_getElem? (i := 39) (by decide +kernel))), (List.forall_mem_cons.mpr ⟨(lwm_1 (List.mem_of_getElem? (i := 5) (by decide +kernel))), (List.forall_mem_cons.mpr ⟨(lwm_1 (List.mem_of_getElem? (i := 102) (by decide +kernel))), (List.forall_mem_cons.mpr ⟨(lwm_1 (List.mem_of_getElem? (i := 37) (by decide +kernel))), (List.forall_mem_cons.mpr ⟨(lwm_1 (List.mem_of_getElem? (i := 104) (by decide +kernel))), (List.forall_mem_cons.mpr ⟨(lwm_1 (List.mem_of_getElem? (i := 106) (by decide +kernel))), (List.forall_mem_cons.mpr ⟨(lwm_1 (List.mem_of_getElem? (i := 26) (by decide +kernel))), (List.forall_mem_cons.mpr ⟨(lwm_1 (List.mem_of_getElem? (i := 27) (by decide +kernel))), (List.forall_mem_cons.mpr ⟨(lwm_1 (List.mem_of_getElem? (i := 28) (by rfl))), (List.forall_mem_cons.mpr ⟨(lwm_1 (List.mem_of_getElem? (i := 29) (by decide +kernel))), (List.forall_mem_cons.mpr ⟨(lwm_1 (List.mem_of_getElem? (i := 33) (by decide +kernel))), (List.forall_mem_cons.mpr ⟨(lwm_1 (List.mem_of_getElem? (i := 30) (by decide +kernel))), (List.forall_mem_cons.mpr ⟨(lwm_1 (List.mem_of_getElem? (i := 31) (by decide +kernel))), (List.forall_mem_cons.mpr ⟨(lwm_1 (List.mem_of_getElem? (i := 4) (by decide +kernel))), (List.forall_mem_cons.mpr ⟨(lwm_1 (List.mem_of_getElem? (i := 32) (by rfl))), (List.forall_mem_cons.mpr ⟨(lwm_1 (List.mem_of_getElem? (i := 41) (by decide +kernel))), (fun _ h => absurd h List.not_mem_nil)⟩)⟩)⟩)⟩)⟩)⟩)⟩)⟩)⟩)⟩)⟩)⟩)⟩)⟩)⟩)⟩)⟩)⟩)⟩)⟩)⟩)⟩)⟩)⟩)
set_option maxRecDepth 20000 in
theorem lwi_wsL_law_r3 : ∀ w ∈ wsL_law_r3, w ∈ lw_tbl := (List.forall_mem_cons.mpr ⟨(lwm_1 (List.mem_of_getElem? (i := 42) (by rfl))), (List.forall_mem_cons.mpr ⟨(lwm_1 (List.mem_of_getElem? (i := 43) (by decide +kernel))), (List.forall_mem_cons.mpr ⟨(lwm_1 (List.mem_of_getElem? (i := 44) (by decide +kernel))), (List.forall_mem_cons.mpr ⟨(lwm_1 (List.mem_of_getElem? (i := 67) (by decide +kernel))), (List.forall_mem_cons.mpr ⟨(lwm_1 (List.mem_of_getElem? (i := 46) (by decide +kernel))), (List.forall_mem_cons.mpr ⟨(lwm_1 (List.mem_of_getElem? (i := 47) (by decide +kernel))), (List.forall_mem_cons.mpr ⟨(lwm_1 (List.mem_of_getElem? (i := 6) (by decide +kernel))), (List.forall_mem_cons.mpr ⟨(lwm_1 (List.mem_of_getElem? (i := 69) (by decide +kernel))), (List.forall_mem_cons.mpr ⟨(lwm_1 (List.mem_of_getElem? (i := 72) (by decide +kernel))), (List.forall_mem_cons.mpr ⟨(lwm_1 (List.mem_of_getElem? (i := 45) (by decide +kernel))), (List.forall_mem_cons.mpr ⟨(lwm_1 (List.mem_of_getElem? (i := 49) (by decide +kernel))), (List.forall_mem_cons.mpr ⟨(lwm_1 (List.mem_of_getElem? (i := 50) (by rfl))), (List.forall_mem_cons.mpr ⟨(lwm_1 (List.mem_of_getElem? (i := 51) (by decide +kernel))), (List.forall_mem_cons.mpr ⟨(lwm_1 (List.mem_of_getElem? (i := 52) (by decide +kernel))), (List.forall_mem_cons.mpr ⟨(lwm_1 (List.mem_of_getElem? (i := 53) (by decide +kernel))), (List.forall_mem_cons.mpr ⟨(lwm_1 (List.mem_of_getElem? (i := 123) (by decide +kernel))), (List.forall_mem_cons.mpr ⟨(lwm_1 (List.mem_of_getElem? (i := 124) (by decide +kernel))), (List.forall_mem_cons.mpr ⟨(lwm_1 (List.mem_of_getElem? (i := 125) (by rfl))), (List.forall_mem_cons.mpr ⟨(lwm_1 (List.mem_of_getElem? (i := 126) (by decide +kernel))), (List.forall_mem_cons.mpr ⟨(lwm_1 (List.mem_of_getElem? (i := 127) (by decide +kernel))), (List.forall_mem_cons.mpr ⟨(lwm_1 (List.mem_of_getElem? (i := 130) (by decide +kernel))), (List.forall_mem_cons.mpr ⟨(lwm_1 (List.mem_of_getElem? (i := 143) (by decide +kernel))), (List.forall_mem_cons.mpr ⟨(lwm_1 (List.mem_of_getElem? (i := 144) (by rfl))), (List.forall_mem_cons.mpr ⟨(lwm_1 (List.mem_of_getElem? (i := 145) (by decide +kernel))), (fun _ h => absurd h List.not_mem_nil)⟩)⟩)⟩)⟩)⟩)⟩)⟩)⟩)⟩)⟩)⟩)⟩)⟩)⟩)⟩)⟩)⟩)⟩)⟩)⟩)⟩)⟩)⟩)⟩)
set_option maxRecDepth 20000 in
theorem lwi_wsL_law_r4 : ∀ w ∈ wsL_law_r4, w ∈ lw_tbl := (List.forall_mem_cons.mpr ⟨(lwm_1 (List.mem_of_getElem? (i := 146) (by decide +kernel))), (List.forall_mem_cons.mpr ⟨(lwm_1 (List.mem_of_getElem? (i := 223) (by decide +kernel))), (List.forall_mem_cons.mpr ⟨(lwm_1 (List.mem_of_getElem? (i := 224) (by decide +kernel))), (List.forall_mem_cons.mpr ⟨(lwm_1 (List.mem_of_getElem? (i := 0) (by decide +kernel))), (List.forall_mem_cons.mpr ⟨(lwm_1 (List.mem_of_getElem? (i := 225) (by rfl))), (List.forall_mem_cons.mpr ⟨(lwm_1 (List.mem_of_getElem? (i := 226) (by decide +kernel))), (List.forall_mem_cons.mpr ⟨(lwm_1 (List.mem_of_getElem? (i := 227) (by decide +kernel))), (List.forall_mem_cons.mpr ⟨(lwm_1 (List.mem_of_getElem? (i := 228) (by decide +kernel))), (List.forall_mem_cons.mpr ⟨(lwm_1 (List.mem_of_getElem? (i := 229) (by rfl))), (List.forall_mem_cons.mpr ⟨(lwm_1 (List.mem_of_getElem? (i := 187) (by decide +kernel))), (List.forall_mem_cons.mpr ⟨(lwm_1 (List.mem_of_getElem? (i := 188) (by decide +kernel))), (List.forall_mem_cons.mpr ⟨(lwm_1 (List.mem_of_getElem? (i := 189) (by rfl))), (List.forall_mem_cons.mpr ⟨(lwm_1 (List.mem_of_getElem? (i := 230) (by decide +kernel))), (List.forall_mem_cons.mpr ⟨(lwm_1 (List.mem_of_getElem? (i := 231) (by decide +kernel))), (List.forall_mem_cons.mpr ⟨(lwm_1 (List.mem_of_getElem? (i := 232) (by decide +kernel))), (List.forall_mem_cons.mpr ⟨(lwm_1 (List.mem_of_getElem? (i := 233) (by rfl))), (List.forall_mem_cons.mpr ⟨(lwm_1 (List.mem_of_getElem? (i := 82) (by decide +kernel))), (List.forall_mem_cons.mpr ⟨(lwm_1 (List.mem_of_getElem? (i := 74) (by decide +kernel))), (List.forall_mem_cons.mpr ⟨(lwm_1 (List.mem_of_getElem? (i := 76) (by decide +kernel))), (List.forall_mem_cons.mpr ⟨(lwm_1 (List.mem_of_getElem? (i := 79) (by decide +kernel))), (List.forall_mem_cons.mpr ⟨(lwm_1 (List.mem_of_getElem? (i := 234) (by decide +kernel))), (List.forall_mem_cons.mpr ⟨(lwm_1 (List.mem_of_getElem? (i := 235) (by decide +kernel))), (List.forall_mem_cons.mpr ⟨(lwm_1 (List.mem_of_getElem? (i := 236) (by decide +kernel))), (List.forall_mem_cons.mpr ⟨(lwm_1 (List.mem_of_getElem? (i := 237) (by rfl))), (fun _ h => absurd h List.not_mem_nil)⟩)⟩)⟩)⟩)⟩)⟩)⟩)⟩)⟩)⟩)⟩)⟩)⟩)⟩)⟩)⟩)⟩)⟩)⟩)⟩)⟩)⟩)⟩)⟩)
set_option maxRecDepth 20000 in
theorem lwi_wsL_law_r5 : ∀ w ∈ wsL_law_r5, w ∈ lw_tbl := (List.forall_mem_cons.mpr ⟨(lwm_1 (List.mem_of_getElem? (i := 238) (by decide +kernel))), (List.forall_mem_cons.mpr ⟨(lwm_1 (List.mem_of_getElem? (i := 239) (by decide +kernel))), (List.forall_mem_cons.mpr ⟨(lwm_2 (List.mem_of_getElem? (i := 0) (by rfl))), (List.forall_mem_cons.mpr ⟨(lwm_1 (List.mem_of_getElem? (i := 184) (by decide +kernel))), (List.forall_mem_cons.mpr ⟨(lwm_1 (List.mem_of_getElem? (i := 185) (by decide +kernel))), (List.forall_mem_cons.mpr ⟨(lwm_1 (List.mem_of_getElem? (i := 186) (by rfl))), (List.forall_mem_cons.mpr ⟨(lwm_1 (List.mem_of_getElem? (i := 190) (by decide +kernel))), (List.forall_mem_cons.mpr ⟨(lwm_1 (List.mem_of_getElem? (i := 191) (by decide +kernel))), (List.forall_mem_cons.mpr ⟨(lwm_1 (List.mem_of_getElem? (i := 192) (by decide +kernel))), (List.forall_mem_cons.mpr ⟨(lwm_1 (List.mem_of_getElem? (i := 193) (by rfl))), (List.forall_mem_cons.mpr ⟨(lwm_1 (List.mem_of_getElem? (i := 101) (by decide +kernel))), (List.forall_mem_cons.mpr ⟨(lwm_1 (List.mem_of_getElem? (i := 194) (by decide +kernel))), (List.forall_mem_cons.mpr ⟨(lwm_1 (List.mem_of_getElem? (i := 195) (by decide +kernel))), (List.forall_mem_cons.mpr ⟨(lwm_1 (List.mem_of_getElem? (i := 196) (by decide +kernel))), (List.forall_mem_cons.mpr ⟨(lwm_1 (List.mem_of_getElem? (i := 197) (by rfl))), (List.forall_mem_cons.mpr ⟨(lwm_2 (List.mem_of_getElem? (i := 1) (by decide +kernel))), (List.forall_mem_cons.mpr ⟨(lwm_2 (List.mem_of_getElem? (i := 2) (by decide +kernel))), (List.forall_mem_cons.mpr ⟨(lwm_2 (List.mem_of_getElem? (i := 3) (by decide +kernel))), (List.forall_mem_cons.mpr ⟨(lwm_2 (List.mem_of_getElem? (i := 4) (by rfl))), (List.forall_mem_cons.mpr ⟨(lwm_2 (List.mem_of_getElem? (i := 5) (by decide +kernel))), (List.forall_mem_cons.mpr ⟨(lwm_2 (List.mem_of_getElem? (i := 6) (by decide +kernel))), (List.forall_mem_cons.mpr ⟨(lwm_2 (List.mem_of_getElem? (i := 7) (by rfl))), (List.forall_mem_cons.mpr ⟨(lwm_2 (List.mem_of_getElem? (i := 8) (by decide +kernel))), (List.forall_mem_cons.mpr ⟨(lwm_2 (List.mem_of_getElem? (i := 9) (by decide +kernel))), (fun _ h => absurd h List.not_mem_nil)⟩)⟩)⟩)⟩)⟩)⟩)⟩)⟩)⟩)⟩)⟩)⟩)⟩)⟩)⟩)⟩)⟩)⟩)⟩)⟩)⟩)⟩)⟩)⟩)
set_option maxRecDepth 20000 in
theorem lwi_wsL_law_r6 : ∀ w ∈ wsL_law_r6, w ∈ lw_tbl := (List.forall_mem_cons.mpr ⟨(lwm_2 (List.mem_of_getElem? (i := 10) (by decide +kernel))), (List.forall_mem_cons.mpr ⟨(lwm_2 (List.mem_of_getElem? (i := 11) (by rfl))), (List.forall_mem_cons.mpr ⟨(lwm_2 (List.mem_of_getElem? (i := 12) (by decide +kernel))), (List.forall_mem_cons.mpr ⟨(lwm_2 (List.mem_of_getElem? (i := 13) (by decide +kernel))), (List.forall_mem_cons.mpr ⟨(lwm_2 (List.mem_of_getElem? (i := 14) (by rfl))), (List.forall_mem_cons.mpr ⟨(lwm_2 (List.mem_of_getElem? (i := 15) (by decide +kernel))), (List.forall_mem_cons.mpr ⟨(lwm_2 (List.mem_of_getElem? (i := 16) (by decide +kernel))), (List.forall_mem_cons.mpr ⟨(lwm_2 (List.mem_of_getElem? (i := 17) (by rfl))), (List.forall_mem_cons.mpr ⟨(lwm_2 (List.mem_of_getElem? (i := 18) (by decide +kernel))), (List.forall_mem_cons.mpr ⟨(lwm_2 (List.mem_of_getElem? (i := 19) (by decide +kernel))), (List.forall_mem_cons.mpr ⟨(lwm_2 (List.mem_of_getElem? (i := 20) (by rfl))), (List.forall_mem_cons.mpr ⟨(lwm_2 (List.mem_of_getElem? (i := 21) (by decide +kernel))), (List.forall_mem_cons.mpr ⟨(lwm_2 (List.mem_of_getElem? (i := 22) (by decide +kernel))), (List.forall_mem_cons.mpr ⟨(lwm_2 (List.mem_of_getElem? (i := 23) (by decide +kernel))), (List.forall_mem_cons.mpr ⟨(lwm_2 (List.mem_of_getElem? (i := 24) (by rfl))), (List.forall_mem_cons.mpr ⟨(lwm_2 (List.mem_of_getElem? (i := 25) (by decide +kernel))), (List.forall_mem_cons.mpr ⟨(lwm_2 (List.mem_of_getElem? (i := 26) (by decide +kernel))), (List.forall_mem_cons.mpr ⟨(lwm_2 (List.mem_of_getElem? (i := 27) (by decide +kernel))), (List.forall_mem_cons.mpr ⟨(lwm_2 (List.mem_of_getElem? (i := 28) (by decide +kernel))), (List.forall_mem_cons.mpr ⟨(lwm_2 (List.mem_of_getElem? (i := 29) (by rfl))), (List.forall_mem_cons.mpr ⟨(lwm_2 (List.mem_of_getElem? (i := 30) (by decide +kernel))), (List.forall_mem_cons.mpr ⟨(lwm_2 (List.mem_of_getElem? (i := 32) (by decide +kernel))), (List.forall_mem_cons.mpr ⟨(lwm_2 (List.mem_of_getElem? (i := 33) (by decide +kernel))), (List.forall_mem_cons.mpr ⟨(lwm_2 (List.mem_of_getElem? (i := 34) (by decide +kernel))), (fun _ h => absurd h List.not_mem_nil)⟩)⟩)⟩)⟩)⟩)⟩)⟩)⟩)⟩)⟩)⟩)⟩)⟩)⟩)⟩)⟩)⟩)⟩)⟩)⟩)⟩)⟩)⟩)⟩)
set_option maxRecDepth 20000 in
theorem lwi_wsL_law_r7 : ∀ w ∈ wsL_law_r7, w ∈ lw_tbl := (List.forall_mem_cons.mpr ⟨(lwm_2 (List.mem_of_getElem? (i := 35) (by rfl))), (List.forall_mem_cons.mpr ⟨(lwm_2 (List.mem_of_getElem? (i := 36) (by decide +kernel))), (List.forall_mem_cons.mpr ⟨(lwm_2 (List.mem_of_getElem? (i := 37) (by decide +kernel))), (List.forall_mem_cons.mpr ⟨(lwm_2 (List.mem_of_getElem? (i := 38) (by decide +kernel))), (List.forall_mem_cons.mpr ⟨(lwm_2 (List.mem_of_getElem? (i := 39) (by rfl))), (List.forall_mem_cons.mpr ⟨(lwm_2 (List.mem_of_getElem? (i := 40) (by decide +kernel))), (List.forall_mem_cons.mpr ⟨(lwm_2 (List.mem_of_getElem? (i := 41) (by decide +kernel))), (List.forall_mem_cons.mpr ⟨(lwm_2 (List.mem_of_getElem? (i := 42) (by decide +kernel))), (List.forall_mem_cons.mpr ⟨(lwm_2 (List.mem_of_getElem? (i := 43) (by rfl))), (List.forall_mem_cons.mpr ⟨(lwm_2 (List.mem_of_getElem? (i := 44) (by decide +kernel))), (List.forall_mem_cons.mpr ⟨(lwm_2 (List.mem_of_getElem? (i := 45) (by decide +kernel))), (List.forall_mem_cons.mpr ⟨(lwm_2 (List.mem_of_getElem? (i := 46) (by decide +kernel))), (List.forall_mem_cons.mpr ⟨(lwm_2 (List.mem_of_getElem? (i := 47) (by decide +kernel))), (List.forall_mem_cons.mpr ⟨(lwm_2 (List.mem_of_getElem? (i := 48) (by rfl))), (List.forall_mem_cons.mpr ⟨(lwm_2 (List.mem_of_getElem? (i := 49) (by decide +kernel))), (List.forall_mem_cons.mpr ⟨(lwm_2 (List.mem_of_getElem? (i := 50) (by decide +kernel))), (List.forall_mem_cons.mpr ⟨(lwm_2 (List.mem_of_getElem? (i := 51) (by decide +kernel))), (List.forall_mem_cons.mpr ⟨(lwm_2 (List.mem_of_getElem? (i := 52) (by rfl))), (List.forall_mem_cons.mpr ⟨(lwm_2 (List.mem_of_getElem? (i := 53) (by decide +kernel))), (List.forall_mem_cons.mpr ⟨(lwm_2 (List.mem_of_getElem? (i := 54) (by decide +kernel))), (List.forall_mem_cons.mpr ⟨(lwm_2 (List.mem_of_getElem? (i := 55) (by decide +kernel))), (List.forall_mem_cons.mpr ⟨(lwm_2 (List.mem_of_getElem? (i := 56) (by rfl))), (List.forall_mem_cons.mpr ⟨(lwm_2 (List.mem_of_getElem? (i := 74) (by decide +kernel))), (List.forall_mem_cons.mpr ⟨(lwm_2 (List.mem_of_getElem? (i := 63) (by decide +kernel))), (fun _ h => absurd h List.not_mem_nil)⟩)⟩)⟩)⟩)⟩)⟩)⟩)⟩)⟩)⟩)⟩)⟩)⟩)⟩)⟩)⟩)⟩)⟩)⟩)⟩)⟩)⟩)⟩)⟩)
set_option maxRecDepth 20000 in
theorem lwi_wsL_law_r8 : ∀ w ∈ wsL_law_r8, w ∈ lw_tbl := (List.forall_mem_cons.mpr ⟨(lwm_2 (List.mem_of_getElem? (i := 62) (by decide +kernel))), (List.forall_mem_cons.mpr ⟨(lwm_1 (List.mem_of_getElem? (i := 9) (by decide +kernel))), (List.forall_mem_cons.mpr ⟨(lwm_2 (List.mem_of_getElem? (i := 57) (by decide +kernel))), (List.forall_mem_cons.mpr ⟨(lwm_2 (List.mem_of_getElem? (i := 58) (by decide +kernel))), (List.forall_mem_cons.mpr ⟨(lwm_2 (List.mem_of_getElem? (i := 59) (by decide +kernel))), (List.forall_mem_cons.mpr ⟨(lwm_2 (List.mem_of_getElem? (i := 60) (by rfl))), (List.forall_mem_cons.mpr ⟨(lwm_2 (List.mem_of_getElem? (i := 61) (by decide +kernel))), (List.forall_mem_cons.mpr ⟨(lwm_2 (List.mem_of_getElem? (i := 64) (by decide +kernel))), (List.forall_mem_cons.mpr ⟨(lwm_2 (List.mem_of_getElem? (i := 65) (by decide +kernel))), (List.forall_mem_cons.mpr ⟨(lwm_2 (List.mem_of_getElem? (i := 66) (by decide +kernel))), (List.forall_mem_cons.mpr ⟨(lwm_2 (List.mem_of_getElem? (i := 67) (by rfl))), (List.forall_mem_cons.mpr ⟨(lwm_2 (List.mem_of_getElem? (i := 68) (by decide +kernel))), (List.forall_mem_cons.mpr ⟨(lwm_2 (List.mem_of_getElem? (i := 69) (by decide +kernel))), (List.forall_mem_cons.mpr ⟨(lwm_2 (List.mem_of_getElem? (i := 70) (by decide +kernel))), (List.forall_mem_cons.mpr ⟨(lwm_2 (List.mem_of_getElem? (i := 71) (by decide +kernel))), (List.forall_mem_cons.mpr ⟨(lwm_2 (List.mem_of_getElem? (i := 72) (by rfl))), (List.forall_mem_cons.mpr ⟨(lwm_2 (List.mem_of_getElem? (i := 73) (by decide +kernel))), (List.forall_mem_cons.mpr ⟨(lwm_1 (List.mem_of_getElem? (i := 54) (by decide +kernel))), (List.forall_mem_cons.mpr ⟨(lwm_1 (List.mem_of_getElem? (i := 55) (by decide +kernel))), (List.forall_mem_cons.mpr ⟨(lwm_2 (List.mem_of_getElem? (i := 75) (by decide +kernel))), (List.forall_mem_cons.mpr ⟨(lwm_2 (List.mem_of_getElem? (i := 76) (by decide +kernel))), (List.forall_mem_cons.mpr ⟨(lwm_2 (List.mem_of_getElem? (i := 77) (by decide +kernel))), (List.forall_mem_cons.mpr ⟨(lwm_2 (List.mem_of_getElem? (i := 78) (by rfl))), (List.forall_mem_cons.mpr ⟨(lwm_2 (List.mem_of_getElem? (i := 79) (by decide +kernel))), (fun _ h => absurd h List.not_mem_nil)⟩)⟩)⟩)⟩)⟩)⟩)⟩)⟩)⟩)⟩)⟩)⟩)⟩)⟩)⟩)⟩)⟩)⟩)⟩)⟩)⟩)⟩)⟩)⟩)
set_option maxRecDepth 20000 in
theorem lwi_wsL_law_r9 : ∀ w ∈ wsL_law_r9, w ∈ lw_tbl := (List.forall_mem_cons.mpr ⟨(lwm_2 (List.mem_of_getElem? (i := 81) (by decide +kernel))), (List.forall_mem_cons.mpr ⟨(lwm_0 (List.mem_of_getElem? (i := 3) (by decide +kernel))), (List.forall_mem_cons.mpr ⟨(lwm_2 (List.mem_of_getElem? (i := 82) (by rfl))), (List.forall_mem_cons.mpr ⟨(lwm_2 (List.mem_of_getElem? (i := 83) (by decide +kernel))), (List.forall_mem_cons.mpr ⟨(lwm_2 (List.mem_of_getElem? (i := 85) (by decide +kernel))), (List.forall_mem_cons.mpr ⟨(lwm_0 (List.mem_of_getElem? (i := 4) (by decide +kernel))), (List.forall_mem_cons.mpr ⟨(lwm_2 (List.mem_of_getElem? (i := 86) (by rfl))), (List.forall_mem_cons.mpr ⟨(lwm_2 (List.mem_of_getElem? (i := 87) (by decide +kernel))), (List.forall_mem_cons.mpr ⟨(lwm_2 (List.mem_of_getElem? (i := 89) (by decide +kernel))), (List.forall_mem_cons.mpr ⟨(lwm_0 (List.mem_of_getElem? (i := 5) (by decide +kernel))), (List.forall_mem_cons.mpr ⟨(lwm_2 (List.mem_of_getElem? (i := 90) (by rfl))), (List.forall_mem_cons.mpr ⟨(lwm_2 (List.mem_of_getElem? (i := 91) (by decide +kernel))), (List.forall_mem_cons.mpr ⟨(lwm_2 (List.mem_of_getElem? (i := 92) (by decide +kernel))), (List.forall_mem_cons.mpr ⟨(lwm_2 (List.mem_of_getElem? (i := 93) (by decide +kernel))), (List.forall_mem_cons.mpr ⟨(lwm_2 (List.mem_of_getElem? (i := 94) (by rfl))), (List.forall_mem_cons.mpr ⟨(lwm_2 (List.mem_of_getElem? (i := 95) (by decide +kernel))), (List.forall_mem_cons.mpr ⟨(lwm_2 (List.mem_of_getElem? (i := 97) (by decide +kernel))), (List.forall_mem_cons.mpr ⟨(lwm_0 (List.mem_of_getElem? (i := 6) (by decide +kernel))), (List.forall_mem_cons.mpr ⟨(lwm_2 (List.mem_of_getElem? (i := 98) (by rfl))), (List.forall_mem_cons.mpr ⟨(lwm_2 (List.mem_of_getElem? (i := 99) (by decide +kernel))), (List.forall_mem_cons.mpr ⟨(lwm_2 (List.mem_of_getElem? (i := 100) (by decide +kernel))), (List.forall_mem_cons.mpr ⟨(lwm_2 (List.mem_of_getElem? (i := 101) (by decide +kernel))), (List.forall_mem_cons.mpr ⟨(lwm_2 (List.mem_of_getElem? (i := 102) (by rfl))), (List.forall_mem_cons.mpr ⟨(lwm_2 (List.mem_of_getElem? (i := 103) (by decide +kernel))), (fun _ h => absurd h List.not_mem_nil)⟩)⟩)⟩)⟩)⟩)⟩)⟩)⟩)⟩)⟩)⟩)⟩)⟩)⟩)⟩)⟩)⟩)⟩)⟩)⟩)⟩)⟩)⟩)⟩)
set_option maxRecDepth 20000 in
theorem lwi_wsL_law_r10 : ∀ w ∈ wsL_law_r10, w ∈ lw_tbl := (List.forall_mem_cons.mpr ⟨(lwm_2 (List.mem_of_getElem? (i := 104) (by decide +kernel))), (List.forall_mem_cons.mpr ⟨(lwm_2 (List.mem_of_getElem? (i := 105) (by decide +kernel))), (List.forall_mem_cons.mpr ⟨(lwm_2 (List.mem_of_getElem? (i := 106) (by rfl))), (List.forall_mem_cons.mpr ⟨(lwm_2 (List.mem_of_getElem? (i := 107) (by decide +kernel))), (List.forall_mem_cons.mpr ⟨(lwm_2 (List.mem_of_getElem? (i := 108) (by decide +kernel))), (List.forall_mem_cons.mpr ⟨(lwm_2 (List.mem_of_getElem? (i := 109) (by decide +kernel))), (List.forall_mem_cons.mpr ⟨(lwm_2 (List.mem_of_getElem? (i := 110) (by rfl))), (List.forall_mem_cons.mpr ⟨(lwm_2 (List.mem_of_getElem? (i := 111) (by decide +kernel))), (List.forall_mem_cons.mpr ⟨(lwm_2 (List.mem_of_getElem? (i := 113) (by decide +kernel))), (List.forall_mem_cons.mpr ⟨(lwm_0 (List.mem_of_getElem? (i := 7) (by decide +kernel))), (List.forall_mem_cons.mpr ⟨(lwm_2 (List.mem_of_getElem? (i := 114) (by rfl))), (List.forall_mem_cons.mpr ⟨(lwm_2 (List.mem_of_getElem? (i := 115) (by decide +kernel))), (List.forall_mem_cons.mpr ⟨(lwm_2 (List.mem_of_getElem? (i := 116) (by decide +kernel))), (List.forall_mem_cons.mpr ⟨(lwm_2 (List.mem_of_getElem? (i := 117) (by decide +kernel))), (List.forall_mem_cons.mpr ⟨(lwm_2 (List.mem_of_getElem? (i := 118) (by rfl))), (List.forall_mem_cons.mpr ⟨(lwm_2 (List.mem_of_getElem? (i := 120) (by decide +kernel))), (List.forall_mem_cons.mpr ⟨(lwm_2 (List.mem_of_getElem? (i := 121) (by decide +kernel))), (List.forall_mem_cons.mpr ⟨(lwm_1 (List.mem_of_getElem? (i := 180) (by decide +kernel))), (List.forall_mem_cons.mpr ⟨(lwm_1 (List.mem_of_getElem? (i := 181) (by decide +kernel))), (List.forall_mem_cons.mpr ⟨(lwm_1 (List.mem_of_getElem? (i := 182) (by decide +kernel))), (List.forall_mem_cons.mpr ⟨(lwm_1 (List.mem_of_getElem? (i := 183) (by rfl))), (List.forall_mem_cons.mpr ⟨(lwm_1 (List.mem_of_getElem? (i := 198) (by decide +kernel))), (List.forall_mem_cons.mpr ⟨(lwm_1 (List.mem_of_getElem? (i := 199) (by decide +kernel))), (List.forall_mem_cons.mpr ⟨(lwm_1 (List.mem_of_getElem? (i := 200) (by decide +kernel))), (fun _ h => absurd h List.not_mem_nil)⟩)⟩)⟩)⟩)⟩)⟩)⟩)⟩)⟩)⟩)⟩)⟩)⟩)⟩)⟩)⟩)⟩)⟩)⟩)⟩)⟩)⟩)⟩)⟩)
set_option maxRecDepth 20000 in
theorem lwi_wsL_law_r11 : ∀ w ∈ wsL_law_r11, w ∈ lw_tbl := (List.forall_mem_cons.mpr ⟨(lwm_1 (List.mem_of_getElem? (i := 201) (by rfl))), (List.forall_mem_cons.mpr ⟨(lwm_1 (List.mem_of_getElem? (i := 202) (by decide +kernel))), (List.forall_mem_cons.mpr ⟨(lwm_1 (List.mem_of_getElem? (i := 203) (by decide +kernel))), (List.forall_mem_cons.mpr ⟨(lwm_1 (List.mem_of_getElem? (i := 204) (by decide +kernel))), (List.forall_mem_cons.mpr ⟨(lwm_1 (List.mem_of_getElem? (i := 205) (by rfl))), (List.forall_mem_cons.mpr ⟨(lwm_1 (List.mem_of_getElem? (i := 206) (by decide +kernel))), (List.forall_mem_cons.mpr ⟨(lwm_1 (List.mem_of_getElem? (i := 208) (by decide +kernel))), (List.forall_mem_cons.mpr ⟨(lwm_0 (List.mem_of_getElem? (i := 0) (by decide +kernel))), (List.forall_mem_cons.mpr ⟨(lwm_1 (List.mem_of_getElem? (i := 209) (by rfl))), (List.forall_mem_cons.mpr ⟨(lwm_1 (List.mem_of_getElem? (i := 210) (by decide +kernel))), (List.forall_mem_cons.mpr ⟨(lwm_1 (List.mem_of_getElem? (i := 212) (by decide +kernel))), (List.forall_mem_cons.mpr ⟨(lwm_0 (List.mem_of_getElem? (i := 1) (by decide +kernel))), (List.forall_mem_cons.mpr ⟨(lwm_1 (List.mem_of_getElem? (i := 213) (by rfl))), (List.forall_mem_cons.mpr ⟨(lwm_1 (List.mem_of_getElem? (i := 214) (by decide +kernel))), (List.forall_mem_cons.mpr ⟨(lwm_1 (List.mem_of_getElem? (i := 216) (by decide +kernel))), (List.forall_mem_cons.mpr ⟨(lwm_0 (List.mem_of_getElem? (i := 2) (by decide +kernel))), (List.forall_mem_cons.mpr ⟨(lwm_1 (List.mem_of_getElem? (i := 217) (by rfl))), (List.forall_mem_cons.mpr ⟨(lwm_1 (List.mem_of_getElem? (i := 218) (by decide +kernel))), (List.forall_mem_cons.mpr ⟨(lwm_1 (List.mem_of_getElem? (i := 219) (by decide +kernel))), (List.forall_mem_cons.mpr ⟨(lwm_1 (List.mem_of_getElem? (i := 220) (by rfl))), (List.forall_mem_cons.mpr ⟨(lwm_1 (List.mem_of_getElem? (i := 221) (by decide +kernel))), (List.forall_mem_cons.mpr ⟨(lwm_1 (List.mem_of_getElem? (i := 222) (by decide +kernel))), (List.forall_mem_cons.mpr ⟨(lwm_2 (List.mem_of_getElem? (i := 187) (by decide +kernel))), (List.forall_mem_cons.mpr ⟨(lwm_2 (List.mem_of_getElem? (i := 188) (by decide +kernel))), (fun _ h => absurd h List.not_mem_nil)⟩)⟩)⟩)⟩)⟩)⟩)⟩)⟩)⟩)⟩)⟩)⟩)⟩)⟩)⟩)⟩)⟩)⟩)⟩)⟩)⟩)⟩)⟩)⟩)
set_option maxRecDepth 20000 in
theorem lwi_wsL_law_r12 : ∀ w ∈ wsL_law_r12, w ∈ lw_tbl := (List.forall_mem_cons.mpr ⟨(lwm_2 (List.mem_of_getElem? (i := 189) (by rfl))), (List.forall_mem_cons.mpr ⟨(lwm_2 (List.mem_of_getElem? (i := 190) (by decide +kernel))), (List.forall_mem_cons.mpr ⟨(lwm_2 (List.mem_of_getElem? (i := 191) (by decide +kernel))), (List.forall_mem_cons.mpr ⟨(lwm_2 (List.mem_of_getElem? (i := 192) (by rfl))), (List.forall_mem_cons.mpr ⟨(lwm_2 (List.mem_of_getElem? (i := 193) (by decide +kernel))), (List.forall_mem_cons.mpr ⟨(lwm_2 (List.mem_of_getElem? (i := 194) (by decide +kernel))), (List.forall_mem_cons.mpr ⟨(lwm_2 (List.mem_of_getElem? (i := 195) (by decide +kernel))), (List.forall_mem_cons.mpr ⟨(lwm_2 (List.mem_of_getElem? (i := 196) (by rfl))), (List.forall_mem_cons.mpr ⟨(lwm_2 (List.mem_of_getElem? (i := 136) (by decide +kernel))), (List.forall_mem_cons.mpr ⟨(lwm_2 (List.mem_of_getElem? (i := 137) (by decide +kernel))), (List.forall_mem_cons.mpr ⟨(lwm_2 (List.mem_of_getElem? (i := 138) (by decide +kernel))), (List.forall_mem_cons.mpr ⟨(lwm_2 (List.mem_of_getElem? (i := 139) (by rfl))), (List.forall_mem_cons.mpr ⟨(lwm_2 (List.mem_of_getElem? (i := 140) (by decide +kernel))), (List.forall_mem_cons.mpr ⟨(lwm_2 (List.mem_of_getElem? (i := 141) (by decide +kernel))), (List.forall_mem_cons.mpr ⟨(lwm_2 (List.mem_of_getElem? (i := 142) (by rfl))), (List.forall_mem_cons.mpr ⟨(lwm_2 (List.mem_of_getElem? (i := 197) (by decide +kernel))), (List.forall_mem_cons.mpr ⟨(lwm_2 (List.mem_of_getElem? (i := 198) (by decide +kernel))), (List.forall_mem_cons.mpr ⟨(lwm_2 (List.mem_of_getElem? (i := 199) (by decide +kernel))), (List.forall_mem_cons.mpr ⟨(lwm_2 (List.mem_of_getElem? (i := 200) (by rfl))), (List.forall_mem_cons.mpr ⟨(lwm_2 (List.mem_of_getElem? (i := 154) (by decide +kernel))), (List.forall_mem_cons.mpr ⟨(lwm_2 (List.mem_of_getElem? (i := 155) (by decide +kernel))), (List.forall_mem_cons.mpr ⟨(lwm_2 (List.mem_of_getElem? (i := 156) (by decide +kernel))), (List.forall_mem_cons.mpr ⟨(lwm_2 (List.mem_of_getElem? (i := 157) (by rfl))), (List.forall_mem_cons.mpr ⟨(lwm_1 (List.mem_of_getElem? (i := 132) (by decide +kernel))), (fun _ h => absurd h List.not_mem_nil)⟩)⟩)⟩)⟩)⟩)⟩)⟩)⟩)⟩)⟩)⟩)⟩)⟩)⟩)⟩)⟩)⟩)⟩)⟩)⟩)⟩)⟩)⟩)⟩)
set_option maxRecDepth 20000 in
theorem lwi_wsL_law_r13 : ∀ w ∈ wsL_law_r13, w ∈ lw_tbl := (List.forall_mem_cons.mpr ⟨(lwm_2 (List.mem_of_getElem? (i := 158) (by decide +kernel))), (List.forall_mem_cons.mpr ⟨(lwm_2 (List.mem_of_getElem? (i := 160) (by decide +kernel))), (List.forall_mem_cons.mpr ⟨(lwm_0 (List.mem_of_getElem? (i := 8) (by decide +kernel))), (List.forall_mem_cons.mpr ⟨(lwm_2 (List.mem_of_getElem? (i := 161) (by rfl))), (List.forall_mem_cons.mpr ⟨(lwm_1 (List.mem_of_getElem? (i := 131) (by decide +kernel))), (List.forall_mem_cons.mpr ⟨(lwm_2 (List.mem_of_getElem? (i := 162) (by decide +kernel))), (List.forall_mem_cons.mpr ⟨(lwm_2 (List.mem_of_getElem? (i := 201) (by decide +kernel))), (List.forall_mem_cons.mpr ⟨(lwm_2 (List.mem_of_getElem? (i := 202) (by decide +kernel))), (List.forall_mem_cons.mpr ⟨(lwm_2 (List.mem_of_getElem? (i := 203) (by decide +kernel))), (List.forall_mem_cons.mpr ⟨(lwm_2 (List.mem_of_getElem? (i := 204) (by rfl))), (List.forall_mem_cons.mpr ⟨(lwm_2 (List.mem_of_getElem? (i := 206) (by decide +kernel))), (List.forall_mem_cons.mpr ⟨(lwm_2 (List.mem_of_getElem? (i := 208) (by decide +kernel))), (List.forall_mem_cons.mpr ⟨(lwm_0 (List.mem_of_getElem? (i := 10) (by decide +kernel))), (List.forall_mem_cons.mpr ⟨(lwm_2 (List.mem_of_getElem? (i := 209) (by rfl))), (List.forall_mem_cons.mpr ⟨(lwm_2 (List.mem_of_getElem? (i := 210) (by decide +kernel))), (List.forall_mem_cons.mpr ⟨(lwm_2 (List.mem_of_getElem? (i := 211) (by decide +kernel))), (List.forall_mem_cons.mpr ⟨(lwm_2 (List.mem_of_getElem? (i := 212) (by decide +kernel))), (List.forall_mem_cons.mpr ⟨(lwm_2 (List.mem_of_getElem? (i := 213) (by rfl))), (List.forall_mem_cons.mpr ⟨(lwm_2 (List.mem_of_getElem? (i := 214) (by decide +kernel))), (List.forall_mem_cons.mpr ⟨(lwm_2 (List.mem_of_getElem? (i := 216) (by decide +kernel))), (List.forall_mem_cons.mpr ⟨(lwm_0 (List.mem_of_getElem? (i := 11) (by decide +kernel))), (List.forall_mem_cons.mpr ⟨(lwm_2 (List.mem_of_getElem? (i := 217) (by rfl))), (List.forall_mem_cons.mpr ⟨(lwm_2 (List.mem_of_getElem? (i := 168) (by decide +kernel))), (List.forall_mem_cons.mpr ⟨(lwm_2 (List.mem_of_getElem? (i := 170) (by decide +kernel))), (fun _ h => absurd h List.not_mem_nil)⟩)⟩)⟩)⟩)⟩)⟩)⟩)⟩)⟩)⟩)⟩)⟩)⟩)⟩)⟩)⟩)⟩)⟩)⟩)⟩)⟩)⟩)⟩)⟩)
set_option maxRecDepth 20000 in
theorem lwi_wsL_law_r14 : ∀ w ∈ wsL_law_r14, w ∈ lw_tbl := (List.forall_mem_cons.mpr ⟨(lwm_0 (List.mem_of_getElem? (i := 9) (by decide +kernel))), (List.forall_mem_cons.mpr ⟨(lwm_2 (List.mem_of_getElem? (i := 171) (by rfl))), (List.forall_mem_cons.mpr ⟨(lwm_2 (List.mem_of_getElem? (i := 172) (by decide +kernel))), (List.forall_mem_cons.mpr ⟨(lwm_2 (List.mem_of_getElem? (i := 173) (by decide +kernel))), (List.forall_mem_cons.mpr ⟨(lwm_2 (List.mem_of_getElem? (i := 174) (by rfl))), (List.forall_mem_cons.mpr ⟨(lwm_2 (List.mem_of_getElem? (i := 175) (by decide +kernel))), (List.forall_mem_cons.mpr ⟨(lwm_2 (List.mem_of_getElem? (i := 176) (by decide +kernel))), (List.forall_mem_cons.mpr ⟨(lwm_2 (List.mem_of_getElem? (i := 177) (by decide +kernel))), (List.forall_mem_cons.mpr ⟨(lwm_2 (List.mem_of_getElem? (i := 178) (by rfl))), (List.forall_mem_cons.mpr ⟨(lwm_2 (List.mem_of_getElem? (i := 218) (by decide +kernel))), (List.forall_mem_cons.mpr ⟨(lwm_2 (List.mem_of_getElem? (i := 219) (by decide +kernel))), (List.forall_mem_cons.mpr ⟨(lwm_2 (List.mem_of_getElem? (i := 220) (by decide +kernel))), (List.forall_mem_cons.mpr ⟨(lwm_2 (List.mem_of_getElem? (i := 221) (by rfl))), (List.forall_mem_cons.mpr ⟨(lwm_2 (List.mem_of_getElem? (i := 222) (by decide +kernel))), (List.forall_mem_cons.mpr ⟨(lwm_2 (List.mem_of_getElem? (i := 223) (by decide +kernel))), (List.forall_mem_cons.mpr ⟨(lwm_2 (List.mem_of_getElem? (i := 224) (by decide +kernel))), (List.forall_mem_cons.mpr ⟨(lwm_2 (List.mem_of_getElem? (i := 225) (by rfl))), (List.forall_mem_cons.mpr ⟨(lwm_2 (List.mem_of_getElem? (i := 227) (by decide +kernel))), (List.forall_mem_cons.mpr ⟨(lwm_2 (List.mem_of_getElem? (i := 228) (by decide +kernel))), (List.forall_mem_cons.mpr ⟨(lwm_2 (List.mem_of_getElem? (i := 229) (by decide +kernel))), (List.forall_mem_cons.mpr ⟨(lwm_2 (List.mem_of_getElem? (i := 230) (by rfl))), (List.forall_mem_cons.mpr ⟨(lwm_2 (List.mem_of_getElem? (i := 231) (by decide +kernel))), (List.forall_mem_cons.mpr ⟨(lwm_2 (List.mem_of_getElem? (i := 232) (by decide +kernel))), (List.forall_mem_cons.mpr ⟨(lwm_2 (List.mem_of_getElem? (i := 233) (by decide +kernel))), (fun _ h => absurd h List.not_mem_nil)⟩)⟩)⟩)⟩)⟩)⟩)⟩)⟩)⟩)⟩)⟩)⟩)⟩)⟩)⟩)⟩)⟩)⟩)⟩)⟩)⟩)⟩)⟩)⟩)
set_option maxRecDepth 20000 in
theorem lwi_wsL_law_r15 : ∀ w ∈ wsL_law_r15, w ∈ lw_tbl := (List.forall_mem_cons.mpr ⟨(lwm_2 (List.mem_of_getElem? (i := 234) (by rfl))), (List.forall_mem_cons.mpr ⟨(lwm_2 (List.mem_of_getElem? (i := 237) (by decide +kernel))), (List.forall_mem_cons.mpr ⟨(lwm_2 (List.mem_of_getElem? (i := 238) (by rfl))), (List.forall_mem_cons.mpr ⟨(lwm_2 (List.mem_of_getElem? (i := 239) (by decide +kernel))), (List.forall_mem_cons.mpr ⟨(lwm_3 (List.mem_of_getElem? (i := 0) (by decide +kernel))), (List.forall_mem_cons.mpr ⟨(lwm_3 (List.mem_of_getElem? (i := 1) (by decide +kernel))), (List.forall_mem_cons.mpr ⟨(lwm_3 (List.mem_of_getElem? (i := 2) (by rfl))), (List.forall_mem_cons.mpr ⟨(lwm_3 (List.mem_of_getElem? (i := 3) (by decide +kernel))), (List.forall_mem_cons.mpr ⟨(lwm_3 (List.mem_of_getElem? (i := 4) (by decide +kernel))), (List.forall_mem_cons.mpr ⟨(lwm_3 (List.mem_of_getElem? (i := 5) (by decide +kernel))), (List.forall_mem_cons.mpr ⟨(lwm_3 (List.mem_of_getElem? (i := 6) (by rfl))), (List.forall_mem_cons.mpr ⟨(lwm_3 (List.mem_of_getElem? (i := 7) (by decide +kernel))), (List.forall_mem_cons.mpr ⟨(lwm_3 (List.mem_of_getElem? (i := 8) (by decide +kernel))), (List.forall_mem_cons.mpr ⟨(lwm_3 (List.mem_of_getElem? (i := 9) (by decide +kernel))), (List.forall_mem_cons.mpr ⟨(lwm_3 (List.mem_of_getElem? (i := 10) (by rfl))), (List.forall_mem_cons.mpr ⟨(lwm_3 (List.mem_of_getElem? (i := 11) (by decide +kernel))), (List.forall_mem_cons.mpr ⟨(lwm_3 (List.mem_of_getElem? (i := 12) (by decide +kernel))), (List.forall_mem_cons.mpr ⟨(lwm_3 (List.mem_of_getElem? (i := 13) (by decide +kernel))), (List.forall_mem_cons.mpr ⟨(lwm_3 (List.mem_of_getElem? (i := 14) (by rfl))), (List.forall_mem_cons.mpr ⟨(lwm_2 (List.mem_of_getElem? (i := 150) (by decide +kernel))), (List.forall_mem_cons.mpr ⟨(lwm_2 (List.mem_of_getElem? (i := 151) (by decide +kernel))), (List.forall_mem_cons.mpr ⟨(lwm_2 (List.mem_of_getElem? (i := 152) (by decide +kernel))), (List.forall_mem_cons.mpr ⟨(lwm_2 (List.mem_of_getElem? (i := 153) (by rfl))), (List.forall_mem_cons.mpr ⟨(lwm_2 (List.mem_of_getElem? (i := 163) (by decide +kernel))), (fun _ h => absurd h List.not_mem_nil)⟩)⟩)⟩)⟩)⟩)⟩)⟩)⟩)⟩)⟩)⟩)⟩)⟩)⟩)⟩)⟩)⟩)⟩)⟩)⟩)⟩)⟩)⟩)⟩)
set_option maxRecDepth 20000 in
theorem lwi_wsL_law_r16 : ∀ w ∈ wsL_law_r16, w ∈ lw_tbl := (List.forall_mem_cons.mpr ⟨(lwm_2 (List.mem_of_getElem? (i := 164) (by decide +kernel))), (List.forall_mem_cons.mpr ⟨(lwm_2 (List.mem_of_getElem? (i := 165) (by decide +kernel))), (List.forall_mem_cons.mpr ⟨(lwm_2 (List.mem_of_getElem? (i := 166) (by rfl))), (List.forall_mem_cons.mpr ⟨(lwm_2 (List.mem_of_getElem? (i := 148) (by decide +kernel))), (List.forall_mem_cons.mpr ⟨(lwm_2 (List.mem_of_getElem? (i := 149) (by rfl))), (List.forall_mem_cons.mpr ⟨(lwm_2 (List.mem_of_getElem? (i := 122) (by decide +kernel))), (List.forall_mem_cons.mpr ⟨(lwm_2 (List.mem_of_getElem? (i := 123) (by decide +kernel))), (List.forall_mem_cons.mpr ⟨(lwm_2 (List.mem_of_getElem? (i := 124) (by rfl))), (List.forall_mem_cons.mpr ⟨(lwm_2 (List.mem_of_getElem? (i := 125) (by decide +kernel))), (List.forall_mem_cons.mpr ⟨(lwm_2 (List.mem_of_getElem? (i := 126) (by decide +kernel))), (List.forall_mem_cons.mpr ⟨(lwm_2 (List.mem_of_getElem? (i := 127) (by rfl))), (List.forall_mem_cons.mpr ⟨(lwm_2 (List.mem_of_getElem? (i := 128) (by decide +kernel))), (List.forall_mem_cons.mpr ⟨(lwm_2 (List.mem_of_getElem? (i := 129) (by decide +kernel))), (List.forall_mem_cons.mpr ⟨(lwm_2 (List.mem_of_getElem? (i := 130) (by decide +kernel))), (List.forall_mem_cons.mpr ⟨(lwm_2 (List.mem_of_getElem? (i := 131) (by decide +kernel))), (List.forall_mem_cons.mpr ⟨(lwm_2 (List.mem_of_getElem? (i := 132) (by decide +kernel))), (List.forall_mem_cons.mpr ⟨(lwm_2 (List.mem_of_getElem? (i := 133) (by rfl))), (List.forall_mem_cons.mpr ⟨(lwm_2 (List.mem_of_getElem? (i := 134) (by decide +kernel))), (List.forall_mem_cons.mpr ⟨(lwm_2 (List.mem_of_getElem? (i := 135) (by decide +kernel))), (List.forall_mem_cons.mpr ⟨(lwm_2 (List.mem_of_getElem? (i := 143) (by decide +kernel))), (List.forall_mem_cons.mpr ⟨(lwm_2 (List.mem_of_getElem? (i := 144) (by decide +kernel))), (List.forall_mem_cons.mpr ⟨(lwm_2 (List.mem_of_getElem? (i := 145) (by decide +kernel))), (List.forall_mem_cons.mpr ⟨(lwm_2 (List.mem_of_getElem? (i := 146) (by rfl))), (List.forall_mem_cons.mpr ⟨(lwm_2 (List.mem_of_getElem? (i := 147) (by decide +kernel))), (fun _ h => absurd h List.not_mem_nil)⟩)⟩)⟩)⟩)⟩)⟩)⟩)⟩)⟩)⟩)⟩)⟩)⟩)⟩)⟩)⟩)⟩)⟩)⟩)⟩)⟩)⟩)⟩)⟩)
set_option maxRecDepth 20000 in
theorem lwi_wsL_law_r17 : ∀ w ∈ wsL_law_r17, w ∈ lw_tbl := (List.forall_mem_cons.mpr ⟨(lwm_2 (List.mem_of_getElem? (i := 179) (by decide +kernel))), (List.forall_mem_cons.mpr ⟨(lwm_2 (List.mem_of_getElem? (i := 180) (by decide +kernel))), (List.forall_mem_cons.mpr ⟨(lwm_2 (List.mem_of_getElem? (i := 181) (by decide +kernel))), (List.forall_mem_cons.mpr ⟨(lwm_2 (List.mem_of_getElem? (i := 182) (by rfl))), (List.forall_mem_cons.mpr ⟨(lwm_2 (List.mem_of_getElem? (i := 183) (by decide +kernel))), (List.forall_mem_cons.mpr ⟨(lwm_2 (List.mem_of_getElem? (i := 184) (by decide +kernel))), (List.forall_mem_cons.mpr ⟨(lwm_2 (List.mem_of_getElem? (i := 185) (by decide +kernel))), (List.forall_mem_cons.mpr ⟨(lwm_2 (List.mem_of_getElem? (i := 186) (by rfl))), (List.forall_mem_cons.mpr ⟨(lwm_3 (List.mem_of_getElem? (i := 15) (by decide +kernel))), (List.forall_mem_cons.mpr ⟨(lwm_3 (List.mem_of_getElem? (i := 16) (by decide +kernel))), (List.forall_mem_cons.mpr ⟨(lwm_3 (List.mem_of_getElem? (i := 17) (by decide +kernel))), (List.forall_mem_cons.mpr ⟨(lwm_3 (List.mem_of_getElem? (i := 18) (by rfl))), (List.forall_mem_cons.mpr ⟨(lwm_3 (List.mem_of_getElem? (i := 19) (by decide +kernel))), (List.forall_mem_cons.mpr ⟨(lwm_3 (List.mem_of_getElem? (i := 20) (by decide +kernel))), (List.forall_mem_cons.mpr ⟨(lwm_3 (List.mem_of_getElem? (i := 21) (by decide +kernel))), (List.forall_mem_cons.mpr ⟨(lwm_3 (List.mem_of_getElem? (i := 22) (by rfl))), (List.forall_mem_cons.mpr ⟨(lwm_3 (List.mem_of_getElem? (i := 23) (by decide +kernel))), (List.forall_mem_cons.mpr ⟨(lwm_3 (List.mem_of_getElem? (i := 24) (by decide +kernel))), (List.forall_mem_cons.mpr ⟨(lwm_3 (List.mem_of_getElem? (i := 25) (by decide +kernel))), (List.forall_mem_cons.mpr ⟨(lwm_3 (List.mem_of_getElem? (i := 26) (by rfl))), (List.forall_mem_cons.mpr ⟨(lwm_3 (List.mem_of_getElem? (i := 27) (by decide +kernel))), (List.forall_mem_cons.mpr ⟨(lwm_3 (List.mem_of_getElem? (i := 28) (by decide +kernel))), (List.forall_mem_cons.mpr ⟨(lwm_3 (List.mem_of_getElem? (i := 29) (by decide +kernel))), (List.forall_mem_cons.mpr ⟨(lwm_3 (List.mem_of_getElem? (i := 30) (by rfl))), (fun _ h => absurd h List.not_mem_nil)⟩)⟩)⟩)⟩)⟩)⟩)⟩)⟩)⟩)⟩)⟩)⟩)⟩)⟩)⟩)⟩)⟩)⟩)⟩)⟩)⟩)⟩)⟩)⟩)
set_option maxRecDepth 20000 in
theorem lwi_wsL_law_r18 : ∀ w ∈ wsL_law_r18, w ∈ lw_tbl := (List.forall_mem_cons.mpr ⟨(lwm_3 (List.mem_of_getElem? (i := 31) (by decide +kernel))), (List.forall_mem_cons.mpr ⟨(lwm_3 (List.mem_of_getElem? (i := 32) (by decide +kernel))), (List.forall_mem_cons.mpr ⟨(lwm_3 (List.mem_of_getElem? (i := 33) (by rfl))), (List.forall_mem_cons.mpr ⟨(lwm_3 (List.mem_of_getElem? (i := 34) (by decide +kernel))), (List.forall_mem_cons.mpr ⟨(lwm_3 (List.mem_of_getElem? (i := 35) (by decide +kernel))), (List.forall_mem_cons.mpr ⟨(lwm_3 (List.mem_of_getElem? (i := 36) (by decide +kernel))), (List.forall_mem_cons.mpr ⟨(lwm_3 (List.mem_of_getElem? (i := 37) (by rfl))), (List.forall_mem_cons.mpr ⟨(lwm_3 (List.mem_of_getElem? (i := 38) (by decide +kernel))), (List.forall_mem_cons.mpr ⟨(lwm_3 (List.mem_of_getElem? (i := 39) (by decide +kernel))), (List.forall_mem_cons.mpr ⟨(lwm_3 (List.mem_of_getElem? (i := 40) (by decide +kernel))), (List.forall_mem_cons.mpr ⟨(lwm_3 (List.mem_of_getElem? (i := 41) (by rfl))), (List.forall_mem_cons.mpr ⟨(lwm_3 (List.mem_of_getElem? (i := 42) (by decide +kernel))), (List.forall_mem_cons.mpr ⟨(lwm_3 (List.mem_of_getElem? (i := 43) (by decide +kernel))), (List.forall_mem_cons.mpr ⟨(lwm_3 (List.mem_of_getElem? (i := 44) (by decide +kernel))), (List.forall_mem_cons.mpr ⟨(lwm_3 (List.mem_of_getElem? (i := 45) (by rfl))), (List.forall_mem_cons.mpr ⟨(lwm_3 (List.mem_of_getElem? (i := 46) (by decide +kernel))), (List.forall_mem_cons.mpr ⟨(lwm_3 (List.mem_of_getElem? (i := 47) (by decide +kernel))), (List.forall_mem_cons.mpr ⟨(lwm_3 (List.mem_of_getElem? (i := 48) (by decide +kernel))), (List.forall_mem_cons.mpr ⟨(lwm_3 (List.mem_of_getElem? (i := 49) (by rfl))), (List.forall_mem_cons.mpr ⟨(lwm_3 (List.mem_of_getElem? (i := 56) (by decide +kernel))), (List.forall_mem_cons.mpr ⟨(lwm_3 (List.mem_of_getElem? (i := 57) (by decide +kernel))), (List.forall_mem_cons.mpr ⟨(lwm_3 (List.mem_of_getElem? (i := 58) (by decide +kernel))), (List.forall_mem_cons.mpr ⟨(lwm_3 (List.mem_of_getElem? (i := 59) (by rfl))), (List.forall_mem_cons.mpr ⟨(lwm_3 (List.mem_of_getElem? (i := 60) (by decide +kernel))), (fun _ h => absurd h List.not_mem_nil)⟩)⟩)⟩)⟩)⟩)⟩)⟩)⟩)⟩)⟩)⟩)⟩)⟩)⟩)⟩)⟩)⟩)⟩)⟩)⟩)⟩)⟩)⟩)⟩)
set_option maxRecDepth 20000 in
theorem lwi_wsL_law_r19 : ∀ w ∈ wsL_law_r19, w ∈ lw_tbl := (List.forall_mem_cons.mpr ⟨(lwm_3 (List.mem_of_getElem? (i := 61) (by decide +kernel))), (List.forall_mem_cons.mpr ⟨(lwm_3 (List.mem_of_getElem? (i := 62) (by decide +kernel))), (List.forall_mem_cons.mpr ⟨(lwm_3 (List.mem_of_getElem? (i := 63) (by rfl))), (fun _ h => absurd h List.not_mem_nil)⟩)⟩)⟩)
set_option maxRecDepth 20000 in
theorem lwi_wsX60 : ∀ w ∈ wsX60, w ∈ lw_tbl := (List.forall_mem_cons.mpr ⟨(lwm_1 (List.mem_of_getElem? (i := 167) (by decide +kernel))), (List.forall_mem_cons.mpr ⟨(lwm_1 (List.mem_of_getElem? (i := 169) (by decide +kernel))), (List.forall_mem_cons.mpr ⟨(lwm_1 (List.mem_of_getElem? (i := 171) (by decide +kernel))), (List.forall_mem_cons.mpr ⟨(lwm_1 (List.mem_of_getElem? (i := 173) (by decide +kernel))), (List.forall_mem_cons.mpr ⟨(lwm_1 (List.mem_of_getElem? (i := 175) (by decide +kernel))), (List.forall_mem_cons.mpr ⟨(lwm_1 (List.mem_of_getElem? (i := 177) (by decide +kernel))), (fun _ h => absurd h List.not_mem_nil)⟩)⟩)⟩)⟩)⟩)⟩)
set_option maxRecDepth 20000 in
theorem lwi_wsX50 : ∀ w ∈ wsX50, w ∈ lw_tbl := (List.forall_mem_cons.mpr ⟨(lwm_1 (List.mem_of_getElem? (i := 108) (by decide +kernel))), (List.forall_mem_cons.mpr ⟨(lwm_1 (List.mem_of_getElem? (i := 110) (by decide +kernel))), (List.forall_mem_cons.mpr ⟨(lwm_1 (List.mem_of_getElem? (i := 112) (by decide +kernel))), (List.forall_mem_cons.mpr ⟨(lwm_1 (List.mem_of_getElem? (i := 114) (by decide +kernel))), (List.forall_mem_cons.mpr ⟨(lwm_1 (List.mem_of_getElem? (i := 116) (by decide +kernel))), (List.forall_mem_cons.mpr ⟨(lwm_1 (List.mem_of_getElem? (i := 118) (by decide +kernel))), (fun _ h => absurd h List.not_mem_nil)⟩)⟩)⟩)⟩)⟩)⟩)
set_option maxRecDepth 20000 in
theorem lwi_wsX10 : ∀ w ∈ wsX10, w ∈ lw_tbl := (List.forall_mem_cons.mpr ⟨(lwm_1 (List.mem_of_getElem? (i := 133) (by decide +kernel))), (List.forall_mem_cons.mpr ⟨(lwm_1 (List.mem_of_getElem? (i := 135) (by decide +kernel))), (List.forall_mem_cons.mpr ⟨(lwm_1 (List.mem_of_getElem? (i := 137) (by decide +kernel))), (fun _ h => absurd h List.not_mem_nil)⟩)⟩)⟩)
set_option maxRecDepth 20000 in
theorem lwi_wsX40 : ∀ w ∈ wsX40, w ∈ lw_tbl := (List.forall_mem_cons.mpr ⟨(lwm_1 (List.mem_of_getElem? (i := 147) (by decide +kernel))), (List.forall_mem_cons.mpr ⟨(lwm_1 (List.mem_of_getElem? (i := 149) (by decide +kernel))), (List.forall_mem_cons.mpr ⟨(lwm_1 (List.mem_of_getElem? (i := 151) (by decide +kernel))), (List.forall_mem_cons.mpr ⟨(lwm_1 (List.mem_of_getElem? (i := 153) (by decide +kernel))), (List.forall_mem_cons.mpr ⟨(lwm_1 (List.mem_of_getElem? (i := 155) (by decide +kernel))), (List.forall_mem_cons.mpr ⟨(lwm_1 (List.mem_of_getElem? (i := 157) (by decide +kernel))), (List.forall_mem_cons.mpr ⟨(lwm_1 (List.mem_of_getElem? (i := 159) (by decide +kernel))), (fun _ h => absurd h List.not_mem_nil)⟩)⟩)⟩)⟩)⟩)⟩)⟩)
set_option maxRecDepth 20000 in
theorem lwi_wsX30 : ∀ w ∈ wsX30, w ∈ lw_tbl := (List.forall_mem_cons.mpr ⟨(lwm_1 (List.mem_of_getElem? (i := 34) (by decide +kernel))), (fun _ h => absurd h List.not_mem_nil)⟩)
set_option maxRecDepth 20000 in
theorem lwi_wsX00 : ∀ w ∈ wsX00, w ∈ lw_tbl := (List.forall_mem_cons.mpr ⟨(lwm_1 (List.mem_of_getElem? (i := 84) (by decide +kernel))), (List.forall_mem_cons.mpr ⟨(lwm_1 (List.mem_of_getElem? (i := 86) (by decide +kernel))), (List.forall_mem_cons.mpr ⟨(lwm_1 (List.mem_of_getElem? (i := 88) (by decide +kernel))), (List.forall_mem_cons.mpr ⟨(lwm_1 (List.mem_of_getElem? (i := 90) (by decide +kernel))), (List.forall_mem_cons.mpr ⟨(lwm_1 (List.mem_of_getElem? (i := 92) (by decide +kernel))), (List.forall_mem_cons.mpr ⟨(lwm_1 (List.mem_of_getElem? (i := 94) (by decide +kernel))), (List.forall_mem_cons.mpr ⟨(lwm_1 (List.mem_of_getElem? (i := 96) (by decide +kernel))), (fun _ h => absurd h List.not_mem_nil)⟩)⟩)⟩)⟩)⟩)⟩)⟩)
set_option maxRecDepth 20000 in
theorem lwi_wsX20 : ∀ w ∈ wsX20, w ∈ lw_tbl := (List.forall_mem_cons.mpr ⟨(lwm_1 (List.mem_of_getElem? (i := 58) (by decide +kernel))), (List.forall_mem_cons.mpr ⟨(lwm_1 (List.mem_of_getElem? (i := 60) (by decide +kernel))), (List.forall_mem_cons.mpr ⟨(lwm_1 (List.mem_of_getElem? (i := 62) (by decide +kernel))), (List.forall_mem_cons.mpr ⟨(lwm_1 (List.mem_of_getElem? (i := 64) (by decide +kernel))), (fun _ h => absurd h List.not_mem_nil)⟩)⟩)⟩)⟩)
set_option maxRecDepth 20000 in
theorem lwi_wsL_law : ∀ w ∈ wsL_law, w ∈ lw_tbl := (List.forall_mem_append.mpr ⟨(List.forall_mem_append.mpr ⟨(List.forall_mem_append.mpr ⟨(List.forall_mem_append.mpr ⟨(List.forall_mem_append.mpr ⟨(List.forall_mem_append.mpr ⟨(List.forall_mem_append.mpr ⟨(List.forall_mem_append.mpr ⟨(List.forall_mem_append.mpr ⟨lwi_wsL_law_r1, (List.forall_mem_append.mpr ⟨lwi_wsL_law_r2, (List.forall_mem_append.mpr ⟨lwi_wsL_law_r3, (List.forall_mem_append.mpr ⟨lwi_wsL_law_r4, (List.forall_mem_append.mpr ⟨lwi_wsL_law_r5, (List.forall_mem_append.mpr ⟨lwi_wsL_law_r6, (List.forall_mem_append.mpr ⟨lwi_wsL_law_r7, (List.forall_mem_append.mpr ⟨lwi_wsL_law_r8, (List.forall_mem_append.mpr ⟨lwi_wsL_law_r9, (List.forall_mem_append.mpr ⟨lwi_wsL_law_r10, (List.forall_mem_append.mpr ⟨lwi_wsL_law_r11, (List.forall_mem_append.mpr ⟨lwi_wsL_law_r12, (List.forall_mem_append.mpr ⟨lwi_wsL_law_r13, (List.forall_mem_append.mpr ⟨lwi_wsL_law_r14, (List.forall_mem_append.mpr ⟨lwi_wsL_law_r15, (List.forall_mem_append.mpr ⟨lwi_wsL_law_r16, (List.forall_mem_append.mpr ⟨lwi_wsL_law_r17, (List.forall_mem_append.mpr ⟨lwi_wsL_law_r18, lwi_wsL_law_r19⟩)⟩)⟩)⟩)⟩)⟩)⟩)⟩)⟩)⟩)⟩)⟩)⟩)⟩)⟩)⟩)⟩)⟩), lwi_wsX60⟩), lwi_wsX50⟩), lwi_wsX10⟩), lwi_wsX40⟩), lwi_wsX30⟩), lwi_wsX00⟩), lwi_wsX20⟩), (fun _ h => absurd h List.not_mem_nil)⟩)
theorem wsL_law_in : ∀ w ∈ wsL_law, w ∈ lw_tbl := lwi_wsL_law
theorem inlX0 : ∀ w ∈ wsX00, w ∈ wsL_law := fun _ h => List.mem_append_left _ (List.mem_append_left _ (List.mem_append_right _ h))
theorem inX0 : ∀ w ∈ wsX00, w ∈ lw_tbl := fun w h => wsL_law_in w (inlX0 w h)
theorem inlX1 : ∀ w ∈ wsX10, w ∈ wsL_law := fun _ h => List.mem_append_left _ (List.mem_append_left _ (List.mem_append_left _ (List.mem_append_left _ (List.mem_append_left _ (List.mem_append_right _ h)))))
theorem inX1 : ∀ w ∈ wsX10, w ∈ lw_tbl := fun w h => wsL_law_in w (inlX1 w h)
theorem inlX2 : ∀ w ∈ wsX20, w ∈ wsL_law := fun _ h => List.mem_append_left _ (List.mem_append_right _ h)
theorem inX2 : ∀ w ∈ wsX20, w ∈ lw_tbl := fun w h => wsL_law_in w (inlX2 w h)
theorem inlX3 : ∀ w ∈ wsX30, w ∈ wsL_law := fun _ h => List.mem_append_left _ (List.mem_append_left _ (List.mem_append_left _ (List.mem_append_right _ h)))
theorem inX3 : ∀ w ∈ wsX30, w ∈ lw_tbl := fun w h => wsL_law_in w (inlX3 w h)
theorem inlX4 : ∀ w ∈ wsX40, w ∈ wsL_law := fun _ h => List.mem_append_left _ (List.mem_append_left _ (List.mem_append_left _ (List.mem_append_left _ (List.mem_append_right _ h))))
theorem inX4 : ∀ w ∈ wsX40, w ∈ lw_tbl := fun w h => wsL_law_in w (inlX4 w h)
theorem inlX5 : ∀ w ∈ wsX50, w ∈ wsL_law := fun _ h => List.mem_append_left _ (List.mem_append_left _ (List.mem_append_left _ (List.mem_append_left _ (List.mem_append_left _ (List.mem_append_left _ (List.mem_append_right _ h))))))
theorem inX5 : ∀ w ∈ wsX50, w ∈ lw_tbl := fun w h => wsL_law_in w (inlX5 w h)
theorem inlX6 : ∀ w ∈ wsX60, w ∈ wsL_law := fun _ h => List.mem_append_left _ (List.mem_append_left _ (List.mem_append_left _ (List.mem_append_left _ (List.mem_append_left _ (List.mem_append_left _ (List.mem_append_left _ (List.mem_append_right _ h)))))))
theorem inX6 : ∀ w ∈ wsX60, w ∈ lw_tbl := fun w h => wsL_law_in w (inlX6 w h)
theorem inX7 : ∀ w ∈ wsX70, w ∈ lw_tbl := by decide +kernel
theorem inJ10 : ∀ w ∈ wsJ100, w ∈ lw_tbl := by decide +kernel
theorem inJ7 : ∀ w ∈ wsJ70, w ∈ lw_tbl := by decide +kernel
set_option maxRecDepth 20000 in
theorem ggX0_init_X3_init : GoodIn wsX0_init wsX3_init := goodIn_r _ [15, 16, 2, 3, 17, 18, 19, 20, 21, 22, 28] (by rfl) (by decide +kernel)
set_option maxRecDepth 20000 in
theorem gX0_init_X3_init : GoodIn wsX0_init (wsX3_init) := ggX0_init_X3_init
set_option maxRecDepth 20000 in
theorem ggX0_init_X2_init : GoodIn wsX0_init wsX2_init := goodIn_r _ [24, 25, 2, 3, 17, 26, 27, 36, 37, 38, 39] (by rfl) (by decide +kernel)
set_option maxRecDepth 20000 in
theorem gX0_init_X2_init_n20 : GoodIn wsX0_init (wsX2_init) := ggX0_init_X2_init
theorem dX0_init_0 : decode cX0_init 0 = .ok (.aload_n 0, 1) := by decide +kernel
theorem dX0_init_1 : decode cX0_init 1 = .ok (.invokespecial 3, 3) := by decide +kernel
theorem dX0_init_4 : decode cX0_init 4 = .ok (.aload_n 0, 1) := by decide +kernel
theorem dX0_init_5 : decode cX0_init 5 = .ok (.new 9, 3) := by decide +kernel
theorem dX0_init_8 : decode cX0_init 8 = .ok (.dup, 1) := by decide +kernel
theorem dX0_init_9 : decode cX0_init 9 = .ok (.invokespecial 11, 3) := by decide +kernel
theorem dX0_init_12 : decode cX0_init 12 = .ok (.putfield 12, 3) := by decide +kernel
theorem dX0_init_15 : decode cX0_init 15 = .ok (.aload_n 0, 1) := by decide +kernel
theorem dX0_init_16 : decode cX0_init 16 = .ok (.new 18, 3) := by decide +kernel
theorem dX0_init_19 : decode cX0_init 19 = .ok (.dup, 1) := by decide +kernel
theorem dX0_init_20 : decode cX0_init 20 = .ok (.invokespecial 20, 3) := by decide +kernel
theorem dX0_init_23 : decode cX0_init 23 = .ok (.putfield 21, 3) := by decide +kernel
theorem dX0_init_26 : decode cX0_init 26 = .ok (.aload_n 0, 1) := by decide +kernel
theorem dX0_init_27 : decode cX0_init 27 = .ok (.iconst 0, 1) := by decide +kernel
theorem dX0_init_28 : decode cX0_init 28 = .ok (.putfield 25, 3) := by decide +kernel
theorem dX0_init_31 : decode cX0_init 31 = .ok (.return_, 1) := by decide +kernel
set_option maxRecDepth 20000 in
theorem ggX0_start_X3_removeAll : GoodIn wsX0_start wsX3_removeAll := goodIn_r _ [11, 12, 13, 14, 15, 16, 31] (by rfl) (by decide +kernel)
set_option maxRecDepth 20000 in
theorem gX0_start_X3_removeAll : GoodIn wsX0_start (wsV RX0 29 RX3 yX3_removeAll wsX3_removeAll) := goodIn_app (goodIn_r _ [7, 8, 9, 10] (by rfl) (by decide +kernel)) ggX0_start_X3_removeAll
set_option maxRecDepth 20000 in
theorem ggX0_start_X2_removeAll : GoodIn wsX0_start wsX2_removeAll := goodIn_r _ [21, 22, 23, 32, 33, 34, 35] (by rfl) (by decide +kernel)
set_option maxRecDepth 20000 in
theorem gX0_start_X2_removeAll : GoodIn wsX0_start (wsV RX0 32 RX2 yX2_removeAll wsX2_removeAll) := goodIn_app (goodIn_r _ [17, 18, 19, 20] (by rfl) (by decide +kernel)) ggX0_start_X2_removeAll
theorem dX0_start_0 : decode cX0_start 0 = .ok (.aload_n 0, 1) := by decide +kernel
theorem dX0_start_1 : decode cX0_start 1 = .ok (.getfield 12, 3) := by decide +kernel
theorem dX0_start_4 : decode cX0_start 4 = .ok (.invokevirtual 29, 3) := by decide +kernel
theorem dX0_start_7 : decode cX0_start 7 = .ok (.aload_n 0, 1) := by decide +kernel
theorem dX0_start_8 : decode cX0_start 8 = .ok (.getfield 21, 3) := by decide +kernel
theorem dX0_start_11 : decode cX0_start 11 = .ok (.invokevirtual 32, 3) := by decide +kernel
theorem dX0_start_14 : decode cX0_start 14 = .ok (.aload_n 0, 1) := by decide +kernel
theorem dX0_start_15 : decode cX0_start 15 = .ok (.iconst 1, 1) := by decide +kernel
theorem dX0_start_16 : decode cX0_start 16 = .ok (.putfield 25, 3) := by decide +kernel
theorem dX0_start_19 : decode cX0_start 19 = .ok (.aload_n 0, 1) := by decide +kernel
theorem dX0_start_20 : decode cX0_start 20 = .ok (.iload_n 1, 1) := by decide +kernel
theorem dX0_start_21 : decode cX0_start 21 = .ok (.putfield 33, 3) := by decide +kernel
theorem dX0_start_24 : decode cX0_start 24 = .ok (.aload_n 0, 1) := by decide +kernel
theorem dX0_start_25 : decode cX0_start 25 = .ok (.iload_n 2, 1) := by decide +kernel
theorem dX0_start_26 : decode cX0_start 26 = .ok (.putfield 36, 3) := by decide +kernel
theorem dX0_start_29 : decode cX0_start 29 = .ok (.aload_n 0, 1) := by decide +kernel
theorem dX0_start_30 : decode cX0_start 30 = .ok (.iconst 0, 1) := by decide +kernel
theorem dX0_start_31 : decode cX0_start 31 = .ok (.putfield 39, 3) := by decide +kernel
theorem dX0_start_34 : decode cX0_start 34 = .ok (.return_, 1) := by decide +kernel
set_option maxRecDepth 20000 in
theorem ggX0_take_X3_take : GoodIn wsX0_take wsX3_take := goodIn_r _ [12, 13, 14, 15, 16, 17, 35] (by rfl) (by decide +kernel)
set_option maxRecDepth 20000 in
theorem gX0_take_X3_take : GoodIn wsX0_take (wsV RX0 42 RX3 yX3_take wsX3_take) := goodIn_app (goodIn_r _ [8, 9, 10, 11] (by rfl) (by decide +kernel)) ggX0_take_X3_take
set_option maxRecDepth 20000 in
theorem ggX0_take_X2_take : GoodIn wsX0_take wsX2_take := goodIn_r _ [22, 23, 24, 15, 16, 17, 25, 26, 27, 36, 37, 38, 39] (by rfl) (by decide +kernel)
set_option maxRecDepth 20000 in
theorem gX0_take_X2_take : GoodIn wsX0_take (wsV RX0 46 RX2 yX2_take wsX2_take) := goodIn_app (goodIn_r _ [18, 19, 20, 21] (by rfl) (by decide +kernel)) ggX0_take_X2_take
theorem dX0_take_0 : decode cX0_take 0 = .ok (.aload_n 0, 1) := by decide +kernel
theorem dX0_take_1 : decode cX0_take 1 = .ok (.getfield 12, 3) := by decide +kernel
theorem dX0_take_4 : decode cX0_take 4 = .ok (.aload_n 1, 1) := by decide +kernel
theorem dX0_take_5 : decode cX0_take 5 = .ok (.getfield 12, 3) := by decide +kernel
theorem dX0_take_8 : decode cX0_take 8 = .ok (.invokevirtual 42, 3) := by decide +kernel
theorem dX0_take_11 : decode cX0_take 11 = .ok (.aload_n 0, 1) := by decide +kernel
theorem dX0_take_12 : decode cX0_take 12 = .ok (.getfield 21, 3) := by decide +kernel
theorem dX0_take_15 : decode cX0_take 15 = .ok (.aload_n 1, 1) := by decide +kernel
theorem dX0_take_16 : decode cX0_take 16 = .ok (.getfield 21, 3) := by decide +kernel
theorem dX0_take_19 : decode cX0_take 19 = .ok (.invokevirtual 46, 3) := by decide +kernel
theorem dX0_take_22 : decode cX0_take 22 = .ok (.aload_n 0, 1) := by decide +kernel
theorem dX0_take_23 : decode cX0_take 23 = .ok (.aload_n 1, 1) := by decide +kernel
theorem dX0_take_24 : decode cX0_take 24 = .ok (.getfield 25, 3) := by decide +kernel
theorem dX0_take_27 : decode cX0_take 27 = .ok (.putfield 25, 3) := by decide +kernel
theorem dX0_take_30 : decode cX0_take 30 = .ok (.aload_n 0, 1) := by decide +kernel
theorem dX0_take_31 : decode cX0_take 31 = .ok (.aload_n 1, 1) := by decide +kernel
theorem dX0_take_32 : decode cX0_take 32 = .ok (.getfield 33, 3) := by decide +kernel
theorem dX0_take_35 : decode cX0_take 35 = .ok (.putfield 33, 3) := by decide +kernel
theorem dX0_take_38 : decode cX0_take 38 = .ok (.aload_n 0, 1) := by decide +kernel
theorem dX0_take_39 : decode cX0_take 39 = .ok (.aload_n 1, 1) := by decide +kernel
theorem dX0_take_40 : decode cX0_take 40 = .ok (.getfield 36, 3) := by decide +kernel
theorem dX0_take_43 : decode cX0_take 43 = .ok (.putfield 36, 3) := by decide +kernel
theorem dX0_take_46 : decode cX0_take 46 = .ok (.aload_n 0, 1) := by decide +kernel
theorem dX0_take_47 : decode cX0_take 47 = .ok (.aload_n 1, 1) := by decide +kernel
theorem dX0_take_48 : decode cX0_take 48 = .ok (.getfield 39, 3) := by decide +kernel
theorem dX0_take_51 : decode cX0_take 51 = .ok (.putfield 39, 3) := by decide +kernel
theorem dX0_take_54 : decode cX0_take 54 = .ok (.aload_n 0, 1) := by decide +kernel
theorem dX0_take_55 : decode cX0_take 55 = .ok (.aload_n 1, 1) := by decide +kernel
theorem dX0_take_56 : decode cX0_take 56 = .ok (.getfield 49, 3) := by decide +kernel
theorem dX0_take_59 : decode cX0_take 59 = .ok (.putfield 49, 3) := by decide +kernel
theorem dX0_take_62 : decode cX0_take 62 = .ok (.return_, 1) := by decide +kernel
set_option maxRecDepth 20000 in
theorem ggX0_copyKey_X6_changedValue : GoodIn wsX0_copyKey wsX6_changedValue := goodIn_r _ [6] (by rfl) (by decide +kernel)
set_option maxRecDepth 20000 in
theorem gX0_copyKey_X6_changedValue_n52 : GoodIn wsX0_copyKey (wsX6_changedValue) := ggX0_copyKey_X6_changedValue
set_option maxRecDepth 20000 in
theorem ggX0_copyKey_X3_at : GoodIn wsX0_copyKey wsX3_at := goodIn_r _ [11, 12, 24] (by rfl) (by decide +kernel)
set_option maxRecDepth 20000 in
theorem gX0_copyKey_X3_at : GoodIn wsX0_copyKey (wsV RX0 56 RX3 yX3_at wsX3_at) := goodIn_app (goodIn_r _ [7, 8, 9, 10] (by rfl) (by decide +kernel)) ggX0_copyKey_X3_at
set_option maxRecDepth 20000 in
theorem ggX0_copyKey_X3_place : GoodIn wsX0_copyKey wsX3_place := goodIn_r _ [16, 12, 24] (by rfl) (by decide +kernel)
set_option maxRecDepth 20000 in
theorem gX0_copyKey_X3_place : GoodIn wsX0_copyKey (wsV RX0 60 RX3 yX3_place wsX3_place) := goodIn_app (goodIn_r _ [13, 14, 15, 10] (by rfl) (by decide +kernel)) ggX0_copyKey_X3_place
theorem dX0_copyKey_0 : decode cX0_copyKey 0 = .ok (.aload_n 0, 1) := by decide +kernel
theorem dX0_copyKey_1 : decode cX0_copyKey 1 = .ok (.iload_n 1, 1) := by decide +kernel
theorem dX0_copyKey_2 : decode cX0_copyKey 2 = .ok (.iconst 1, 1) := by decide +kernel
theorem dX0_copyKey_3 : decode cX0_copyKey 3 = .ok (.iadd, 1) := by decide +kernel
theorem dX0_copyKey_4 : decode cX0_copyKey 4 = .ok (.putfield 39, 3) := by decide +kernel
theorem dX0_copyKey_7 : decode cX0_copyKey 7 = .ok (.aload_n 0, 1) := by decide +kernel
theorem dX0_copyKey_8 : decode cX0_copyKey 8 = .ok (.getfield 33, 3) := by decide +kernel
theorem dX0_copyKey_11 : decode cX0_copyKey 11 = .ok (.iload_n 1, 1) := by decide +kernel
theorem dX0_copyKey_12 : decode cX0_copyKey 12 = .ok (.iload_n 2, 1) := by decide +kernel
theorem dX0_copyKey_13 : decode cX0_copyKey 13 = .ok (.invokestatic 52, 3) := by decide +kernel
theorem dX0_copyKey_16 : decode cX0_copyKey 16 = .ok (.istore_n 3, 1) := by decide +kernel
theorem dX0_copyKey_17 : decode cX0_copyKey 17 = .ok (.iload_n 3, 1) := by decide +kernel
theorem dX0_copyKey_18 : decode cX0_copyKey 18 = .ok (.bipush (-5), 2) := by decide +kernel
theorem dX0_copyKey_20 : decode cX0_copyKey 20 = .ok (.if_icmp .eq 16, 3) := by decide +kernel
theorem dX0_copyKey_23 : decode cX0_copyKey 23 = .ok (.aload_n 0, 1) := by decide +kernel
theorem dX0_copyKey_24 : decode cX0_copyKey 24 = .ok (.getfield 12, 3) := by decide +kernel
theorem dX0_copyKey_27 : decode cX0_copyKey 27 = .ok (.iload_n 1, 1) := by decide +kernel
theorem dX0_copyKey_28 : decode cX0_copyKey 28 = .ok (.invokevirtual 56, 3) := by decide +kernel
theorem dX0_copyKey_31 : decode cX0_copyKey 31 = .ok (.bipush (-5), 2) := by decide +kernel
theorem dX0_copyKey_33 : decode cX0_copyKey 33 = .ok (.if_icmp .eq 5, 3) := by decide +kernel
theorem dX0_copyKey_36 : decode cX0_copyKey 36 = .ok (.iconst 0, 1) := by decide +kernel
theorem dX0_copyKey_37 : decode cX0_copyKey 37 = .ok (.ireturn, 1) := by decide +kernel
theorem dX0_copyKey_38 : decode cX0_copyKey 38 = .ok (.aload_n 0, 1) := by decide +kernel
theorem dX0_copyKey_39 : decode cX0_copyKey 39 = .ok (.getfield 12, 3) := by decide +kernel
theorem dX0_copyKey_42 : decode cX0_copyKey 42 = .ok (.iload_n 1, 1) := by decide +kernel
theorem dX0_copyKey_43 : decode cX0_copyKey 43 = .ok (.iload_n 3, 1) := by decide +kernel
theorem dX0_copyKey_44 : decode cX0_copyKey 44 = .ok (.invokevirtual 60, 3) := by decide +kernel
theorem dX0_copyKey_47 : decode cX0_copyKey 47 = .ok (.iconst 1, 1) := by decide +kernel
theorem dX0_copyKey_48 : decode cX0_copyKey 48 = .ok (.ireturn, 1) := by decide +kernel
theorem dX0_tell_0 : decode cX0_tell 0 = .ok (.iload_n 1, 1) := by decide +kernel
theorem dX0_tell_1 : decode cX0_tell 1 = .ok (.ifCond .ne 8, 3) := by decide +kernel
theorem dX0_tell_4 : decode cX0_tell 4 = .ok (.aload_n 0, 1) := by decide +kernel
theorem dX0_tell_5 : decode cX0_tell 5 = .ok (.getfield 25, 3) := by decide +kernel
theorem dX0_tell_8 : decode cX0_tell 8 = .ok (.ireturn, 1) := by decide +kernel
theorem dX0_tell_9 : decode cX0_tell 9 = .ok (.iload_n 1, 1) := by decide +kernel
theorem dX0_tell_10 : decode cX0_tell 10 = .ok (.iconst 5, 1) := by decide +kernel
theorem dX0_tell_11 : decode cX0_tell 11 = .ok (.if_icmp .ne 21, 3) := by decide +kernel
theorem dX0_tell_14 : decode cX0_tell 14 = .ok (.aload_n 0, 1) := by decide +kernel
theorem dX0_tell_15 : decode cX0_tell 15 = .ok (.getfield 25, 3) := by decide +kernel
theorem dX0_tell_18 : decode cX0_tell 18 = .ok (.iconst 3, 1) := by decide +kernel
theorem dX0_tell_19 : decode cX0_tell 19 = .ok (.if_icmp .ne 10, 3) := by decide +kernel
theorem dX0_tell_22 : decode cX0_tell 22 = .ok (.aload_n 0, 1) := by decide +kernel
theorem dX0_tell_23 : decode cX0_tell 23 = .ok (.getfield 49, 3) := by decide +kernel
theorem dX0_tell_26 : decode cX0_tell 26 = .ok (.goto 5, 3) := by decide +kernel
theorem dX0_tell_29 : decode cX0_tell 29 = .ok (.bipush (-5), 2) := by decide +kernel
theorem dX0_tell_31 : decode cX0_tell 31 = .ok (.ireturn, 1) := by decide +kernel
theorem dX0_tell_32 : decode cX0_tell 32 = .ok (.aload_n 0, 1) := by decide +kernel
theorem dX0_tell_33 : decode cX0_tell 33 = .ok (.getfield 25, 3) := by decide +kernel
theorem dX0_tell_36 : decode cX0_tell 36 = .ok (.ifCond .ne 6, 3) := by decide +kernel
theorem dX0_tell_39 : decode cX0_tell 39 = .ok (.bipush (-5), 2) := by decide +kernel
theorem dX0_tell_41 : decode cX0_tell 41 = .ok (.ireturn, 1) := by decide +kernel
theorem dX0_tell_42 : decode cX0_tell 42 = .ok (.iload_n 1, 1) := by decide +kernel
theorem dX0_tell_43 : decode cX0_tell 43 = .ok (.tableswitch 40 1 3 #[25, 30, 35], 25) := by decide +kernel
theorem dX0_tell_68 : decode cX0_tell 68 = .ok (.aload_n 0, 1) := by decide +kernel
theorem dX0_tell_69 : decode cX0_tell 69 = .ok (.getfield 33, 3) := by decide +kernel
theorem dX0_tell_72 : decode cX0_tell 72 = .ok (.ireturn, 1) := by decide +kernel
theorem dX0_tell_73 : decode cX0_tell 73 = .ok (.aload_n 0, 1) := by decide +kernel
theorem dX0_tell_74 : decode cX0_tell 74 = .ok (.getfield 36, 3) := by decide +kernel
theorem dX0_tell_77 : decode cX0_tell 77 = .ok (.ireturn, 1) := by decide +kernel
theorem dX0_tell_78 : decode cX0_tell 78 = .ok (.aload_n 0, 1) := by decide +kernel
theorem dX0_tell_79 : decode cX0_tell 79 = .ok (.getfield 39, 3) := by decide +kernel
theorem dX0_tell_82 : decode cX0_tell 82 = .ok (.ireturn, 1) := by decide +kernel
theorem dX0_tell_83 : decode cX0_tell 83 = .ok (.aload_n 0, 1) := by decide +kernel
theorem dX0_tell_84 : decode cX0_tell 84 = .ok (.getfield 21, 3) := by decide +kernel
theorem dX0_tell_87 : decode cX0_tell 87 = .ok (.getfield 64, 3) := by decide +kernel
theorem dX0_tell_90 : decode cX0_tell 90 = .ok (.ireturn, 1) := by decide +kernel
set_option maxRecDepth 20000 in
theorem ggX1_init_X5_init : GoodIn wsX1_init wsX5_init := goodIn_r _ [9, 10, 2, 3, 11, 12, 13, 14, 15, 16, 17, 18, 19, 20, 21, 22, 23, 24, 25, 26, 27, 28, 29, 30, 31, 32, 33, 34, 35, 36, 37, 38, 39, 40, 41, 42, 43, 44, 45, 46, 47, 57, 51, 52, 53, 54, 55, 56, 58, 59, 60, 61, 62, 63, 64, 65, 66, 67, 68] (by rfl) (by decide +kernel)
set_option maxRecDepth 20000 in
theorem gX1_init_X5_init_n17 : GoodIn wsX1_init (wsX5_init) := ggX1_init_X5_init
theorem dX1_init_0 : decode cX1_init 0 = .ok (.aload_n 0, 1) := by decide +kernel
theorem dX1_init_1 : decode cX1_init 1 = .ok (.invokespecial 3, 3) := by decide +kernel
theorem dX1_init_4 : decode cX1_init 4 = .ok (.aload_n 0, 1) := by decide +kernel
theorem dX1_init_5 : decode cX1_init 5 = .ok (.bipush 6, 2) := by decide +kernel
theorem dX1_init_7 : decode cX1_init 7 = .ok (.anewarray 11, 3) := by decide +kernel
theorem dX1_init_10 : decode cX1_init 10 = .ok (.putfield 13, 3) := by decide +kernel
theorem dX1_init_13 : decode cX1_init 13 = .ok (.iconst 0, 1) := by decide +kernel
theorem dX1_init_14 : decode cX1_init 14 = .ok (.istore_n 1, 1) := by decide +kernel
theorem dX1_init_15 : decode cX1_init 15 = .ok (.iload_n 1, 1) := by decide +kernel
theorem dX1_init_16 : decode cX1_init 16 = .ok (.bipush 6, 2) := by decide +kernel
theorem dX1_init_18 : decode cX1_init 18 = .ok (.if_icmp .ge 22, 3) := by decide +kernel
theorem dX1_init_21 : decode cX1_init 21 = .ok (.aload_n 0, 1) := by decide +kernel
theorem dX1_init_22 : decode cX1_init 22 = .ok (.getfield 13, 3) := by decide +kernel
theorem dX1_init_25 : decode cX1_init 25 = .ok (.iload_n 1, 1) := by decide +kernel
theorem dX1_init_26 : decode cX1_init 26 = .ok (.new 11, 3) := by decide +kernel
theorem dX1_init_29 : decode cX1_init 29 = .ok (.dup, 1) := by decide +kernel
theorem dX1_init_30 : decode cX1_init 30 = .ok (.invokespecial 17, 3) := by decide +kernel
theorem dX1_init_33 : decode cX1_init 33 = .ok (.aastore, 1) := by decide +kernel
theorem dX1_init_34 : decode cX1_init 34 = .ok (.iinc 1 1, 3) := by decide +kernel
theorem dX1_init_37 : decode cX1_init 37 = .ok (.goto (-22), 3) := by decide +kernel
theorem dX1_init_40 : decode cX1_init 40 = .ok (.return_, 1) := by decide +kernel
set_option maxRecDepth 20000 in
theorem ggX1_prepare_X1_slotOf : GoodIn wsX1_prepare wsX1_slotOf := goodIn_r _ [7, 8, 54, 55, 56] (by rfl) (by decide +kernel)
set_option maxRecDepth 20000 in
theorem gX1_prepare_X1_slotOf : GoodIn wsX1_prepare (wsV RX1 22 RX1 yX1_slotOf wsX1_slotOf) := goodIn_app (goodIn_r _ [3, 4, 5, 6] (by rfl) (by decide +kernel)) ggX1_prepare_X1_slotOf
set_option maxRecDepth 20000 in
theorem ggX1_prepare_X5_take : GoodIn wsX1_prepare wsX5_take := goodIn_r _ [13, 14, 15, 16, 17, 18, 19, 20, 21, 22, 23, 24, 25, 26, 27, 28, 29, 30, 31, 32, 33, 34, 35, 36, 37, 38, 39, 40, 41, 42, 43, 44, 45, 46, 47, 48, 49, 50, 51, 52, 53, 57, 58, 59, 60, 61, 62, 63, 64, 65, 66, 67, 68, 69, 70, 71, 72, 73, 74] (by rfl) (by decide +kernel)
set_option maxRecDepth 20000 in
theorem gX1_prepare_X5_take : GoodIn wsX1_prepare (wsV RX1 26 RX5 yX5_take wsX5_take) := goodIn_app (goodIn_r _ [9, 10, 11, 12] (by rfl) (by decide +kernel)) ggX1_prepare_X5_take
theorem dX1_prepare_0 : decode cX1_prepare 0 = .ok (.aload_n 0, 1) := by decide +kernel
theorem dX1_prepare_1 : decode cX1_prepare 1 = .ok (.getfield 13, 3) := by decide +kernel
theorem dX1_prepare_4 : decode cX1_prepare 4 = .ok (.aload_n 0, 1) := by decide +kernel
theorem dX1_prepare_5 : decode cX1_prepare 5 = .ok (.aload_n 0, 1) := by decide +kernel
theorem dX1_prepare_6 : decode cX1_prepare 6 = .ok (.getfield 18, 3) := by decide +kernel
theorem dX1_prepare_9 : decode cX1_prepare 9 = .ok (.invokevirtual 22, 3) := by decide +kernel
theorem dX1_prepare_12 : decode cX1_prepare 12 = .ok (.aaload, 1) := by decide +kernel
theorem dX1_prepare_13 : decode cX1_prepare 13 = .ok (.aload_n 1, 1) := by decide +kernel
theorem dX1_prepare_14 : decode cX1_prepare 14 = .ok (.invokevirtual 26, 3) := by decide +kernel
theorem dX1_prepare_17 : decode cX1_prepare 17 = .ok (.return_, 1) := by decide +kernel
set_option maxRecDepth 20000 in
theorem ggX1_keepPrepared_X1_slotOf : GoodIn wsX1_keepPrepared wsX1_slotOf := goodIn_r _ [7, 2, 8, 9, 10] (by rfl) (by decide +kernel)
set_option maxRecDepth 20000 in
theorem gX1_keepPrepared_X1_slotOf : GoodIn wsX1_keepPrepared (wsV RX1 22 RX1 yX1_slotOf wsX1_slotOf) := goodIn_app (goodIn_r _ [3, 4, 5, 6] (by rfl) (by decide +kernel)) ggX1_keepPrepared_X1_slotOf
theorem dX1_keepPrepared_0 : decode cX1_keepPrepared 0 = .ok (.aload_n 0, 1) := by decide +kernel
theorem dX1_keepPrepared_1 : decode cX1_keepPrepared 1 = .ok (.getfield 18, 3) := by decide +kernel
theorem dX1_keepPrepared_4 : decode cX1_keepPrepared 4 = .ok (.iconst 5, 1) := by decide +kernel
theorem dX1_keepPrepared_5 : decode cX1_keepPrepared 5 = .ok (.if_icmp .ge 16, 3) := by decide +kernel
theorem dX1_keepPrepared_8 : decode cX1_keepPrepared 8 = .ok (.aload_n 0, 1) := by decide +kernel
theorem dX1_keepPrepared_9 : decode cX1_keepPrepared 9 = .ok (.dup, 1) := by decide +kernel
theorem dX1_keepPrepared_10 : decode cX1_keepPrepared 10 = .ok (.getfield 18, 3) := by decide +kernel
theorem dX1_keepPrepared_13 : decode cX1_keepPrepared 13 = .ok (.iconst 1, 1) := by decide +kernel
theorem dX1_keepPrepared_14 : decode cX1_keepPrepared 14 = .ok (.iadd, 1) := by decide +kernel
theorem dX1_keepPrepared_15 : decode cX1_keepPrepared 15 = .ok (.putfield 18, 3) := by decide +kernel
theorem dX1_keepPrepared_18 : decode cX1_keepPrepared 18 = .ok (.goto 12, 3) := by decide +kernel
theorem dX1_keepPrepared_21 : decode cX1_keepPrepared 21 = .ok (.aload_n 0, 1) := by decide +kernel
theorem dX1_keepPrepared_22 : decode cX1_keepPrepared 22 = .ok (.aload_n 0, 1) := by decide +kernel
theorem dX1_keepPrepared_23 : decode cX1_keepPrepared 23 = .ok (.iconst 1, 1) := by decide +kernel
theorem dX1_keepPrepared_24 : decode cX1_keepPrepared 24 = .ok (.invokevirtual 22, 3) := by decide +kernel
theorem dX1_keepPrepared_27 : decode cX1_keepPrepared 27 = .ok (.putfield 30, 3) := by decide +kernel
theorem dX1_keepPrepared_30 : decode cX1_keepPrepared 30 = .ok (.return_, 1) := by decide +kernel
set_option maxRecDepth 20000 in
theorem ggX1_takeBack_X1_slotOf : GoodIn wsX1_takeBack wsX1_slotOf := goodIn_r _ [7, 8, 54, 55, 56] (by rfl) (by decide +kernel)
set_option maxRecDepth 20000 in
theorem gX1_takeBack_X1_slotOf : GoodIn wsX1_takeBack (wsV RX1 22 RX1 yX1_slotOf wsX1_slotOf) := goodIn_app (goodIn_r _ [3, 4, 5, 6] (by rfl) (by decide +kernel)) ggX1_takeBack_X1_slotOf
set_option maxRecDepth 20000 in
theorem ggX1_takeBack_X5_take : GoodIn wsX1_takeBack wsX5_take := goodIn_r _ [13, 14, 15, 16, 17, 18, 19, 20, 21, 22, 23, 24, 25, 26, 27, 28, 29, 30, 31, 32, 33, 34, 35, 36, 37, 38, 39, 40, 41, 42, 43, 44, 45, 46, 47, 48, 49, 50, 51, 52, 53, 57, 58, 59, 60, 61, 62, 63, 64, 65, 66, 67, 68, 69, 70, 71, 72, 73, 74] (by rfl) (by decide +kernel)
set_option maxRecDepth 20000 in
theorem gX1_takeBack_X5_take : GoodIn wsX1_takeBack (wsV RX1 26 RX5 yX5_take wsX5_take) := goodIn_app (goodIn_r _ [9, 10, 11, 12] (by rfl) (by decide +kernel)) ggX1_takeBack_X5_take
theorem dX1_takeBack_0 : decode cX1_takeBack 0 = .ok (.aload_n 0, 1) := by decide +kernel
theorem dX1_takeBack_1 : decode cX1_takeBack 1 = .ok (.getfield 18, 3) := by decide +kernel
theorem dX1_takeBack_4 : decode cX1_takeBack 4 = .ok (.ifCond .ne 6, 3) := by decide +kernel
theorem dX1_takeBack_7 : decode cX1_takeBack 7 = .ok (.bipush (-5), 2) := by decide +kernel
theorem dX1_takeBack_9 : decode cX1_takeBack 9 = .ok (.ireturn, 1) := by decide +kernel
theorem dX1_takeBack_10 : decode cX1_takeBack 10 = .ok (.aload_n 0, 1) := by decide +kernel
theorem dX1_takeBack_11 : decode cX1_takeBack 11 = .ok (.dup, 1) := by decide +kernel
theorem dX1_takeBack_12 : decode cX1_takeBack 12 = .ok (.getfield 18, 3) := by decide +kernel
theorem dX1_takeBack_15 : decode cX1_takeBack 15 = .ok (.iconst 1, 1) := by decide +kernel
theorem dX1_takeBack_16 : decode cX1_takeBack 16 = .ok (.isub, 1) := by decide +kernel
theorem dX1_takeBack_17 : decode cX1_takeBack 17 = .ok (.putfield 18, 3) := by decide +kernel
theorem dX1_takeBack_20 : decode cX1_takeBack 20 = .ok (.aload_n 1, 1) := by decide +kernel
theorem dX1_takeBack_21 : decode cX1_takeBack 21 = .ok (.aload_n 0, 1) := by decide +kernel
theorem dX1_takeBack_22 : decode cX1_takeBack 22 = .ok (.getfield 13, 3) := by decide +kernel
theorem dX1_takeBack_25 : decode cX1_takeBack 25 = .ok (.aload_n 0, 1) := by decide +kernel
theorem dX1_takeBack_26 : decode cX1_takeBack 26 = .ok (.aload_n 0, 1) := by decide +kernel
theorem dX1_takeBack_27 : decode cX1_takeBack 27 = .ok (.getfield 18, 3) := by decide +kernel
theorem dX1_takeBack_30 : decode cX1_takeBack 30 = .ok (.invokevirtual 22, 3) := by decide +kernel
theorem dX1_takeBack_33 : decode cX1_takeBack 33 = .ok (.aaload, 1) := by decide +kernel
theorem dX1_takeBack_34 : decode cX1_takeBack 34 = .ok (.invokevirtual 26, 3) := by decide +kernel
theorem dX1_takeBack_37 : decode cX1_takeBack 37 = .ok (.aload_n 0, 1) := by decide +kernel
theorem dX1_takeBack_38 : decode cX1_takeBack 38 = .ok (.getfield 18, 3) := by decide +kernel
theorem dX1_takeBack_41 : decode cX1_takeBack 41 = .ok (.ireturn, 1) := by decide +kernel
theorem dX1_slotOf_0 : decode cX1_slotOf 0 = .ok (.aload_n 0, 1) := by decide +kernel
theorem dX1_slotOf_1 : decode cX1_slotOf 1 = .ok (.getfield 30, 3) := by decide +kernel
theorem dX1_slotOf_4 : decode cX1_slotOf 4 = .ok (.iload_n 1, 1) := by decide +kernel
theorem dX1_slotOf_5 : decode cX1_slotOf 5 = .ok (.iadd, 1) := by decide +kernel
theorem dX1_slotOf_6 : decode cX1_slotOf 6 = .ok (.bipush 6, 2) := by decide +kernel
theorem dX1_slotOf_8 : decode cX1_slotOf 8 = .ok (.irem, 1) := by decide +kernel
theorem dX1_slotOf_9 : decode cX1_slotOf 9 = .ok (.ireturn, 1) := by decide +kernel
theorem dX2_init_0 : decode cX2_init 0 = .ok (.aload_n 0, 1) := by decide +kernel
theorem dX2_init_1 : decode cX2_init 1 = .ok (.invokespecial 3, 3) := by decide +kernel
theorem dX2_init_4 : decode cX2_init 4 = .ok (.aload_n 0, 1) := by decide +kernel
theorem dX2_init_5 : decode cX2_init 5 = .ok (.bipush 24, 2) := by decide +kernel
theorem dX2_init_7 : decode cX2_init 7 = .ok (.newarray .int, 2) := by decide +kernel
theorem dX2_init_9 : decode cX2_init 9 = .ok (.putfield 9, 3) := by decide +kernel
theorem dX2_init_12 : decode cX2_init 12 = .ok (.aload_n 0, 1) := by decide +kernel
theorem dX2_init_13 : decode cX2_init 13 = .ok (.bipush 24, 2) := by decide +kernel
theorem dX2_init_15 : decode cX2_init 15 = .ok (.newarray .int, 2) := by decide +kernel
theorem dX2_init_17 : decode cX2_init 17 = .ok (.putfield 15, 3) := by decide +kernel
theorem dX2_init_20 : decode cX2_init 20 = .ok (.return_, 1) := by decide +kernel
theorem dX2_removeAll_0 : decode cX2_removeAll 0 = .ok (.aload_n 0, 1) := by decide +kernel
theorem dX2_removeAll_1 : decode cX2_removeAll 1 = .ok (.iconst 0, 1) := by decide +kernel
theorem dX2_removeAll_2 : decode cX2_removeAll 2 = .ok (.putfield 18, 3) := by decide +kernel
theorem dX2_removeAll_5 : decode cX2_removeAll 5 = .ok (.aload_n 0, 1) := by decide +kernel
theorem dX2_removeAll_6 : decode cX2_removeAll 6 = .ok (.iconst 0, 1) := by decide +kernel
theorem dX2_removeAll_7 : decode cX2_removeAll 7 = .ok (.putfield 22, 3) := by decide +kernel
theorem dX2_removeAll_10 : decode cX2_removeAll 10 = .ok (.return_, 1) := by decide +kernel
theorem dX2_take_0 : decode cX2_take 0 = .ok (.aload_n 1, 1) := by decide +kernel
theorem dX2_take_1 : decode cX2_take 1 = .ok (.getfield 9, 3) := by decide +kernel
theorem dX2_take_4 : decode cX2_take 4 = .ok (.iconst 0, 1) := by decide +kernel
theorem dX2_take_5 : decode cX2_take 5 = .ok (.aload_n 0, 1) := by decide +kernel
theorem dX2_take_6 : decode cX2_take 6 = .ok (.getfield 9, 3) := by decide +kernel
theorem dX2_take_9 : decode cX2_take 9 = .ok (.iconst 0, 1) := by decide +kernel
theorem dX2_take_10 : decode cX2_take 10 = .ok (.bipush 24, 2) := by decide +kernel
theorem dX2_take_12 : decode cX2_take 12 = .ok (.invokestatic 25, 3) := by decide +kernel
theorem dX2_take_15 : decode cX2_take 15 = .ok (.aload_n 1, 1) := by decide +kernel
theorem dX2_take_16 : decode cX2_take 16 = .ok (.getfield 15, 3) := by decide +kernel
theorem dX2_take_19 : decode cX2_take 19 = .ok (.iconst 0, 1) := by decide +kernel
theorem dX2_take_20 : decode cX2_take 20 = .ok (.aload_n 0, 1) := by decide +kernel
theorem dX2_take_21 : decode cX2_take 21 = .ok (.getfield 15, 3) := by decide +kernel
theorem dX2_take_24 : decode cX2_take 24 = .ok (.iconst 0, 1) := by decide +kernel
theorem dX2_take_25 : decode cX2_take 25 = .ok (.bipush 24, 2) := by decide +kernel
theorem dX2_take_27 : decode cX2_take 27 = .ok (.invokestatic 25, 3) := by decide +kernel
theorem dX2_take_30 : decode cX2_take 30 = .ok (.aload_n 0, 1) := by decide +kernel
theorem dX2_take_31 : decode cX2_take 31 = .ok (.aload_n 1, 1) := by decide +kernel
theorem dX2_take_32 : decode cX2_take 32 = .ok (.getfield 18, 3) := by decide +kernel
theorem dX2_take_35 : decode cX2_take 35 = .ok (.putfield 18, 3) := by decide +kernel
theorem dX2_take_38 : decode cX2_take 38 = .ok (.aload_n 0, 1) := by decide +kernel
theorem dX2_take_39 : decode cX2_take 39 = .ok (.aload_n 1, 1) := by decide +kernel
theorem dX2_take_40 : decode cX2_take 40 = .ok (.getfield 22, 3) := by decide +kernel
theorem dX2_take_43 : decode cX2_take 43 = .ok (.putfield 22, 3) := by decide +kernel
theorem dX2_take_46 : decode cX2_take 46 = .ok (.return_, 1) := by decide +kernel
set_option maxRecDepth 20000 in
theorem ggX2_add_X2_slotOf : GoodIn wsX2_add wsX2_slotOf := goodIn_r _ [8, 9, 10, 11, 12, 13] (by rfl) (by decide +kernel)
set_option maxRecDepth 20000 in
theorem gX2_add_X2_slotOf : GoodIn wsX2_add (wsV RX2 31 RX2 yX2_slotOf wsX2_slotOf) := goodIn_app (goodIn_r _ [4, 5, 6, 7] (by rfl) (by decide +kernel)) ggX2_add_X2_slotOf
theorem dX2_add_0 : decode cX2_add 0 = .ok (.aload_n 0, 1) := by decide +kernel
theorem dX2_add_1 : decode cX2_add 1 = .ok (.getfield 22, 3) := by decide +kernel
theorem dX2_add_4 : decode cX2_add 4 = .ok (.bipush 24, 2) := by decide +kernel
theorem dX2_add_6 : decode cX2_add 6 = .ok (.if_icmp .lt 5, 3) := by decide +kernel
theorem dX2_add_9 : decode cX2_add 9 = .ok (.iconst 0, 1) := by decide +kernel
theorem dX2_add_10 : decode cX2_add 10 = .ok (.ireturn, 1) := by decide +kernel
theorem dX2_add_11 : decode cX2_add 11 = .ok (.aload_n 0, 1) := by decide +kernel
theorem dX2_add_12 : decode cX2_add 12 = .ok (.aload_n 0, 1) := by decide +kernel
theorem dX2_add_13 : decode cX2_add 13 = .ok (.getfield 22, 3) := by decide +kernel
theorem dX2_add_16 : decode cX2_add 16 = .ok (.invokevirtual 31, 3) := by decide +kernel
theorem dX2_add_19 : decode cX2_add 19 = .ok (.istore_n 3, 1) := by decide +kernel
theorem dX2_add_20 : decode cX2_add 20 = .ok (.aload_n 0, 1) := by decide +kernel
theorem dX2_add_21 : decode cX2_add 21 = .ok (.getfield 9, 3) := by decide +kernel
theorem dX2_add_24 : decode cX2_add 24 = .ok (.iload_n 3, 1) := by decide +kernel
theorem dX2_add_25 : decode cX2_add 25 = .ok (.iload_n 1, 1) := by decide +kernel
theorem dX2_add_26 : decode cX2_add 26 = .ok (.iastore, 1) := by decide +kernel
theorem dX2_add_27 : decode cX2_add 27 = .ok (.aload_n 0, 1) := by decide +kernel
theorem dX2_add_28 : decode cX2_add 28 = .ok (.getfield 15, 3) := by decide +kernel
theorem dX2_add_31 : decode cX2_add 31 = .ok (.iload_n 3, 1) := by decide +kernel
theorem dX2_add_32 : decode cX2_add 32 = .ok (.iload_n 2, 1) := by decide +kernel
theorem dX2_add_33 : decode cX2_add 33 = .ok (.iastore, 1) := by decide +kernel
theorem dX2_add_34 : decode cX2_add 34 = .ok (.aload_n 0, 1) := by decide +kernel
theorem dX2_add_35 : decode cX2_add 35 = .ok (.dup, 1) := by decide +kernel
theorem dX2_add_36 : decode cX2_add 36 = .ok (.getfield 22, 3) := by decide +kernel
theorem dX2_add_39 : decode cX2_add 39 = .ok (.iconst 1, 1) := by decide +kernel
theorem dX2_add_40 : decode cX2_add 40 = .ok (.iadd, 1) := by decide +kernel
theorem dX2_add_41 : decode cX2_add 41 = .ok (.putfield 22, 3) := by decide +kernel
theorem dX2_add_44 : decode cX2_add 44 = .ok (.iconst 1, 1) := by decide +kernel
theorem dX2_add_45 : decode cX2_add 45 = .ok (.ireturn, 1) := by decide +kernel
set_option maxRecDepth 20000 in
theorem ggX2_removeFirst_X2_slotOf : GoodIn wsX2_removeFirst wsX2_slotOf := goodIn_r _ [7, 2, 8, 9, 10, 11] (by rfl) (by decide +kernel)
set_option maxRecDepth 20000 in
theorem gX2_removeFirst_X2_slotOf : GoodIn wsX2_removeFirst (wsV RX2 31 RX2 yX2_slotOf wsX2_slotOf) := goodIn_app (goodIn_r _ [3, 4, 5, 6] (by rfl) (by decide +kernel)) ggX2_removeFirst_X2_slotOf
theorem dX2_removeFirst_0 : decode cX2_removeFirst 0 = .ok (.aload_n 0, 1) := by decide +kernel
theorem dX2_removeFirst_1 : decode cX2_removeFirst 1 = .ok (.getfield 22, 3) := by decide +kernel
theorem dX2_removeFirst_4 : decode cX2_removeFirst 4 = .ok (.ifCond .le 22, 3) := by decide +kernel
theorem dX2_removeFirst_7 : decode cX2_removeFirst 7 = .ok (.aload_n 0, 1) := by decide +kernel
theorem dX2_removeFirst_8 : decode cX2_removeFirst 8 = .ok (.aload_n 0, 1) := by decide +kernel
theorem dX2_removeFirst_9 : decode cX2_removeFirst 9 = .ok (.iconst 1, 1) := by decide +kernel
theorem dX2_removeFirst_10 : decode cX2_removeFirst 10 = .ok (.invokevirtual 31, 3) := by decide +kernel
theorem dX2_removeFirst_13 : decode cX2_removeFirst 13 = .ok (.putfield 18, 3) := by decide +kernel
theorem dX2_removeFirst_16 : decode cX2_removeFirst 16 = .ok (.aload_n 0, 1) := by decide +kernel
theorem dX2_removeFirst_17 : decode cX2_removeFirst 17 = .ok (.dup, 1) := by decide +kernel
theorem dX2_removeFirst_18 : decode cX2_removeFirst 18 = .ok (.getfield 22, 3) := by decide +kernel
theorem dX2_removeFirst_21 : decode cX2_removeFirst 21 = .ok (.iconst 1, 1) := by decide +kernel
theorem dX2_removeFirst_22 : decode cX2_removeFirst 22 = .ok (.isub, 1) := by decide +kernel
theorem dX2_removeFirst_23 : decode cX2_removeFirst 23 = .ok (.putfield 22, 3) := by decide +kernel
theorem dX2_removeFirst_26 : decode cX2_removeFirst 26 = .ok (.return_, 1) := by decide +kernel
set_option maxRecDepth 20000 in
theorem ggX2_keyAt_X2_slotOf : GoodIn wsX2_keyAt wsX2_slotOf := goodIn_r _ [7, 8, 9, 10, 11, 12] (by rfl) (by decide +kernel)
set_option maxRecDepth 20000 in
theorem gX2_keyAt_X2_slotOf : GoodIn wsX2_keyAt (wsV RX2 31 RX2 yX2_slotOf wsX2_slotOf) := goodIn_app (goodIn_r _ [3, 4, 5, 6] (by rfl) (by decide +kernel)) ggX2_keyAt_X2_slotOf
theorem dX2_keyAt_0 : decode cX2_keyAt 0 = .ok (.iload_n 1, 1) := by decide +kernel
theorem dX2_keyAt_1 : decode cX2_keyAt 1 = .ok (.ifCond .lt 24, 3) := by decide +kernel
theorem dX2_keyAt_4 : decode cX2_keyAt 4 = .ok (.iload_n 1, 1) := by decide +kernel
theorem dX2_keyAt_5 : decode cX2_keyAt 5 = .ok (.aload_n 0, 1) := by decide +kernel
theorem dX2_keyAt_6 : decode cX2_keyAt 6 = .ok (.getfield 22, 3) := by decide +kernel
theorem dX2_keyAt_9 : decode cX2_keyAt 9 = .ok (.if_icmp .ge 16, 3) := by decide +kernel
theorem dX2_keyAt_12 : decode cX2_keyAt 12 = .ok (.aload_n 0, 1) := by decide +kernel
theorem dX2_keyAt_13 : decode cX2_keyAt 13 = .ok (.getfield 9, 3) := by decide +kernel
theorem dX2_keyAt_16 : decode cX2_keyAt 16 = .ok (.aload_n 0, 1) := by decide +kernel
theorem dX2_keyAt_17 : decode cX2_keyAt 17 = .ok (.iload_n 1, 1) := by decide +kernel
theorem dX2_keyAt_18 : decode cX2_keyAt 18 = .ok (.invokevirtual 31, 3) := by decide +kernel
theorem dX2_keyAt_21 : decode cX2_keyAt 21 = .ok (.iaload, 1) := by decide +kernel
theorem dX2_keyAt_22 : decode cX2_keyAt 22 = .ok (.goto 5, 3) := by decide +kernel
theorem dX2_keyAt_25 : decode cX2_keyAt 25 = .ok (.bipush (-5), 2) := by decide +kernel
theorem dX2_keyAt_27 : decode cX2_keyAt 27 = .ok (.ireturn, 1) := by decide +kernel
set_option maxRecDepth 20000 in
theorem ggX2_valueAt_X2_slotOf : GoodIn wsX2_valueAt wsX2_slotOf := goodIn_r _ [7, 8, 9, 10, 11, 12] (by rfl) (by decide +kernel)
set_option maxRecDepth 20000 in
theorem gX2_valueAt_X2_slotOf : GoodIn wsX2_valueAt (wsV RX2 31 RX2 yX2_slotOf wsX2_slotOf) := goodIn_app (goodIn_r _ [3, 4, 5, 6] (by rfl) (by decide +kernel)) ggX2_valueAt_X2_slotOf
theorem dX2_valueAt_0 : decode cX2_valueAt 0 = .ok (.iload_n 1, 1) := by decide +kernel
theorem dX2_valueAt_1 : decode cX2_valueAt 1 = .ok (.ifCond .lt 24, 3) := by decide +kernel
theorem dX2_valueAt_4 : decode cX2_valueAt 4 = .ok (.iload_n 1, 1) := by decide +kernel
theorem dX2_valueAt_5 : decode cX2_valueAt 5 = .ok (.aload_n 0, 1) := by decide +kernel
theorem dX2_valueAt_6 : decode cX2_valueAt 6 = .ok (.getfield 22, 3) := by decide +kernel
theorem dX2_valueAt_9 : decode cX2_valueAt 9 = .ok (.if_icmp .ge 16, 3) := by decide +kernel
theorem dX2_valueAt_12 : decode cX2_valueAt 12 = .ok (.aload_n 0, 1) := by decide +kernel
theorem dX2_valueAt_13 : decode cX2_valueAt 13 = .ok (.getfield 15, 3) := by decide +kernel
theorem dX2_valueAt_16 : decode cX2_valueAt 16 = .ok (.aload_n 0, 1) := by decide +kernel
theorem dX2_valueAt_17 : decode cX2_valueAt 17 = .ok (.iload_n 1, 1) := by decide +kernel
theorem dX2_valueAt_18 : decode cX2_valueAt 18 = .ok (.invokevirtual 31, 3) := by decide +kernel
theorem dX2_valueAt_21 : decode cX2_valueAt 21 = .ok (.iaload, 1) := by decide +kernel
theorem dX2_valueAt_22 : decode cX2_valueAt 22 = .ok (.goto 5, 3) := by decide +kernel
theorem dX2_valueAt_25 : decode cX2_valueAt 25 = .ok (.bipush (-5), 2) := by decide +kernel
theorem dX2_valueAt_27 : decode cX2_valueAt 27 = .ok (.ireturn, 1) := by decide +kernel
theorem dX2_slotOf_0 : decode cX2_slotOf 0 = .ok (.aload_n 0, 1) := by decide +kernel
theorem dX2_slotOf_1 : decode cX2_slotOf 1 = .ok (.getfield 18, 3) := by decide +kernel
theorem dX2_slotOf_4 : decode cX2_slotOf 4 = .ok (.iload_n 1, 1) := by decide +kernel
theorem dX2_slotOf_5 : decode cX2_slotOf 5 = .ok (.iadd, 1) := by decide +kernel
theorem dX2_slotOf_6 : decode cX2_slotOf 6 = .ok (.bipush 24, 2) := by decide +kernel
theorem dX2_slotOf_8 : decode cX2_slotOf 8 = .ok (.irem, 1) := by decide +kernel
theorem dX2_slotOf_9 : decode cX2_slotOf 9 = .ok (.ireturn, 1) := by decide +kernel
set_option maxRecDepth 20000 in
theorem ggX3_init_J7_fill_53178 : GoodIn wsX3_init wsJ7_fill_53178 := goodIn_r _ [9] (by rfl) (by decide +kernel)
set_option maxRecDepth 20000 in
theorem gX3_init_J7_fill_53178 : GoodIn wsX3_init (va_wsS RX3 15 yJ7_fill_53178 wsJ7_fill_53178) := goodIn_app (goodIn_r _ [6, 7, 8] (by rfl) (by decide +kernel)) ggX3_init_J7_fill_53178
theorem dX3_init_0 : decode cX3_init 0 = .ok (.aload_n 0, 1) := by decide +kernel
theorem dX3_init_1 : decode cX3_init 1 = .ok (.invokespecial 3, 3) := by decide +kernel
theorem dX3_init_4 : decode cX3_init 4 = .ok (.aload_n 0, 1) := by decide +kernel
theorem dX3_init_5 : decode cX3_init 5 = .ok (.bipush 32, 2) := by decide +kernel
theorem dX3_init_7 : decode cX3_init 7 = .ok (.newarray .int, 2) := by decide +kernel
theorem dX3_init_9 : decode cX3_init 9 = .ok (.putfield 9, 3) := by decide +kernel
theorem dX3_init_12 : decode cX3_init 12 = .ok (.aload_n 0, 1) := by decide +kernel
theorem dX3_init_13 : decode cX3_init 13 = .ok (.getfield 9, 3) := by decide +kernel
theorem dX3_init_16 : decode cX3_init 16 = .ok (.bipush (-5), 2) := by decide +kernel
theorem dX3_init_18 : decode cX3_init 18 = .ok (.invokestatic 15, 3) := by decide +kernel
theorem dX3_init_21 : decode cX3_init 21 = .ok (.return_, 1) := by decide +kernel
theorem dX3_at_0 : decode cX3_at 0 = .ok (.iload_n 1, 1) := by decide +kernel
theorem dX3_at_1 : decode cX3_at 1 = .ok (.ifCond .lt 18, 3) := by decide +kernel
theorem dX3_at_4 : decode cX3_at 4 = .ok (.iload_n 1, 1) := by decide +kernel
theorem dX3_at_5 : decode cX3_at 5 = .ok (.bipush 32, 2) := by decide +kernel
theorem dX3_at_7 : decode cX3_at 7 = .ok (.if_icmp .ge 12, 3) := by decide +kernel
theorem dX3_at_10 : decode cX3_at 10 = .ok (.aload_n 0, 1) := by decide +kernel
theorem dX3_at_11 : decode cX3_at 11 = .ok (.getfield 9, 3) := by decide +kernel
theorem dX3_at_14 : decode cX3_at 14 = .ok (.iload_n 1, 1) := by decide +kernel
theorem dX3_at_15 : decode cX3_at 15 = .ok (.iaload, 1) := by decide +kernel
theorem dX3_at_16 : decode cX3_at 16 = .ok (.goto 5, 3) := by decide +kernel
theorem dX3_at_19 : decode cX3_at 19 = .ok (.bipush (-5), 2) := by decide +kernel
theorem dX3_at_21 : decode cX3_at 21 = .ok (.ireturn, 1) := by decide +kernel
theorem dX3_place_0 : decode cX3_place 0 = .ok (.iload_n 1, 1) := by decide +kernel
theorem dX3_place_1 : decode cX3_place 1 = .ok (.ifCond .lt 16, 3) := by decide +kernel
theorem dX3_place_4 : decode cX3_place 4 = .ok (.iload_n 1, 1) := by decide +kernel
theorem dX3_place_5 : decode cX3_place 5 = .ok (.bipush 32, 2) := by decide +kernel
theorem dX3_place_7 : decode cX3_place 7 = .ok (.if_icmp .ge 10, 3) := by decide +kernel
theorem dX3_place_10 : decode cX3_place 10 = .ok (.aload_n 0, 1) := by decide +kernel
theorem dX3_place_11 : decode cX3_place 11 = .ok (.getfield 9, 3) := by decide +kernel
theorem dX3_place_14 : decode cX3_place 14 = .ok (.iload_n 1, 1) := by decide +kernel
theorem dX3_place_15 : decode cX3_place 15 = .ok (.iload_n 2, 1) := by decide +kernel
theorem dX3_place_16 : decode cX3_place 16 = .ok (.iastore, 1) := by decide +kernel
theorem dX3_place_17 : decode cX3_place 17 = .ok (.return_, 1) := by decide +kernel
set_option maxRecDepth 20000 in
theorem ggX3_removeAll_J7_fill_53178 : GoodIn wsX3_removeAll wsJ7_fill_53178 := goodIn_r _ [5] (by rfl) (by decide +kernel)
set_option maxRecDepth 20000 in
theorem gX3_removeAll_J7_fill_53178 : GoodIn wsX3_removeAll (va_wsS RX3 15 yJ7_fill_53178 wsJ7_fill_53178) := goodIn_app (goodIn_r _ [2, 3, 4] (by rfl) (by decide +kernel)) ggX3_removeAll_J7_fill_53178
theorem dX3_removeAll_0 : decode cX3_removeAll 0 = .ok (.aload_n 0, 1) := by decide +kernel
theorem dX3_removeAll_1 : decode cX3_removeAll 1 = .ok (.getfield 9, 3) := by decide +kernel
theorem dX3_removeAll_4 : decode cX3_removeAll 4 = .ok (.bipush (-5), 2) := by decide +kernel
theorem dX3_removeAll_6 : decode cX3_removeAll 6 = .ok (.invokestatic 15, 3) := by decide +kernel
theorem dX3_removeAll_9 : decode cX3_removeAll 9 = .ok (.return_, 1) := by decide +kernel
theorem dX3_take_0 : decode cX3_take 0 = .ok (.aload_n 1, 1) := by decide +kernel
theorem dX3_take_1 : decode cX3_take 1 = .ok (.getfield 9, 3) := by decide +kernel
theorem dX3_take_4 : decode cX3_take 4 = .ok (.iconst 0, 1) := by decide +kernel
theorem dX3_take_5 : decode cX3_take 5 = .ok (.aload_n 0, 1) := by decide +kernel
theorem dX3_take_6 : decode cX3_take 6 = .ok (.getfield 9, 3) := by decide +kernel
theorem dX3_take_9 : decode cX3_take 9 = .ok (.iconst 0, 1) := by decide +kernel
theorem dX3_take_10 : decode cX3_take 10 = .ok (.bipush 32, 2) := by decide +kernel
theorem dX3_take_12 : decode cX3_take 12 = .ok (.invokestatic 21, 3) := by decide +kernel
theorem dX3_take_15 : decode cX3_take 15 = .ok (.return_, 1) := by decide +kernel
set_option maxRecDepth 20000 in
theorem ggX3_tell_X3_count : GoodIn wsX3_tell wsX3_count := goodIn_r _ [5, 6, 19] (by rfl) (by decide +kernel)
set_option maxRecDepth 20000 in
theorem gX3_tell_X3_count : GoodIn wsX3_tell (wsV RX3 27 RX3 yX3_count wsX3_count) := goodIn_app (goodIn_r _ [1, 2, 3, 4] (by rfl) (by decide +kernel)) ggX3_tell_X3_count
set_option maxRecDepth 20000 in
theorem ggX3_tell_X3_sum : GoodIn wsX3_tell wsX3_sum := goodIn_r _ [10, 6, 19] (by rfl) (by decide +kernel)
set_option maxRecDepth 20000 in
theorem gX3_tell_X3_sum : GoodIn wsX3_tell (wsV RX3 31 RX3 yX3_sum wsX3_sum) := goodIn_app (goodIn_r _ [7, 8, 9, 4] (by rfl) (by decide +kernel)) ggX3_tell_X3_sum
set_option maxRecDepth 20000 in
theorem ggX3_tell_X3_leastKey : GoodIn wsX3_tell wsX3_leastKey := goodIn_r _ [14, 6, 19] (by rfl) (by decide +kernel)
set_option maxRecDepth 20000 in
theorem gX3_tell_X3_leastKey : GoodIn wsX3_tell (wsV RX3 34 RX3 yX3_leastKey wsX3_leastKey) := goodIn_app (goodIn_r _ [11, 12, 13, 4] (by rfl) (by decide +kernel)) ggX3_tell_X3_leastKey
set_option maxRecDepth 20000 in
theorem ggX3_tell_X3_greatestKey : GoodIn wsX3_tell wsX3_greatestKey := goodIn_r _ [18, 6, 19] (by rfl) (by decide +kernel)
set_option maxRecDepth 20000 in
theorem gX3_tell_X3_greatestKey : GoodIn wsX3_tell (wsV RX3 37 RX3 yX3_greatestKey wsX3_greatestKey) := goodIn_app (goodIn_r _ [15, 16, 17, 4] (by rfl) (by decide +kernel)) ggX3_tell_X3_greatestKey
theorem dX3_tell_0 : decode cX3_tell 0 = .ok (.iload_n 1, 1) := by decide +kernel
theorem dX3_tell_1 : decode cX3_tell 1 = .ok (.tableswitch 42 0 2 #[27, 32, 37], 27) := by decide +kernel
theorem dX3_tell_28 : decode cX3_tell 28 = .ok (.aload_n 0, 1) := by decide +kernel
theorem dX3_tell_29 : decode cX3_tell 29 = .ok (.invokevirtual 27, 3) := by decide +kernel
theorem dX3_tell_32 : decode cX3_tell 32 = .ok (.ireturn, 1) := by decide +kernel
theorem dX3_tell_33 : decode cX3_tell 33 = .ok (.aload_n 0, 1) := by decide +kernel
theorem dX3_tell_34 : decode cX3_tell 34 = .ok (.invokevirtual 31, 3) := by decide +kernel
theorem dX3_tell_37 : decode cX3_tell 37 = .ok (.ireturn, 1) := by decide +kernel
theorem dX3_tell_38 : decode cX3_tell 38 = .ok (.aload_n 0, 1) := by decide +kernel
theorem dX3_tell_39 : decode cX3_tell 39 = .ok (.invokevirtual 34, 3) := by decide +kernel
theorem dX3_tell_42 : decode cX3_tell 42 = .ok (.ireturn, 1) := by decide +kernel
theorem dX3_tell_43 : decode cX3_tell 43 = .ok (.aload_n 0, 1) := by decide +kernel
theorem dX3_tell_44 : decode cX3_tell 44 = .ok (.invokevirtual 37, 3) := by decide +kernel
theorem dX3_tell_47 : decode cX3_tell 47 = .ok (.ireturn, 1) := by decide +kernel
theorem dX3_count_0 : decode cX3_count 0 = .ok (.iconst 0, 1) := by decide +kernel
theorem dX3_count_1 : decode cX3_count 1 = .ok (.istore_n 1, 1) := by decide +kernel
theorem dX3_count_2 : decode cX3_count 2 = .ok (.iconst 0, 1) := by decide +kernel
theorem dX3_count_3 : decode cX3_count 3 = .ok (.istore_n 2, 1) := by decide +kernel
theorem dX3_count_4 : decode cX3_count 4 = .ok (.iload_n 2, 1) := by decide +kernel
theorem dX3_count_5 : decode cX3_count 5 = .ok (.bipush 32, 2) := by decide +kernel
theorem dX3_count_7 : decode cX3_count 7 = .ok (.if_icmp .ge 23, 3) := by decide +kernel
theorem dX3_count_10 : decode cX3_count 10 = .ok (.aload_n 0, 1) := by decide +kernel
theorem dX3_count_11 : decode cX3_count 11 = .ok (.getfield 9, 3) := by decide +kernel
theorem dX3_count_14 : decode cX3_count 14 = .ok (.iload_n 2, 1) := by decide +kernel
theorem dX3_count_15 : decode cX3_count 15 = .ok (.iaload, 1) := by decide +kernel
theorem dX3_count_16 : decode cX3_count 16 = .ok (.bipush (-5), 2) := by decide +kernel
theorem dX3_count_18 : decode cX3_count 18 = .ok (.if_icmp .eq 6, 3) := by decide +kernel
theorem dX3_count_21 : decode cX3_count 21 = .ok (.iinc 1 1, 3) := by decide +kernel
theorem dX3_count_24 : decode cX3_count 24 = .ok (.iinc 2 1, 3) := by decide +kernel
theorem dX3_count_27 : decode cX3_count 27 = .ok (.goto (-23), 3) := by decide +kernel
theorem dX3_count_30 : decode cX3_count 30 = .ok (.iload_n 1, 1) := by decide +kernel
theorem dX3_count_31 : decode cX3_count 31 = .ok (.ireturn, 1) := by decide +kernel
theorem dX3_sum_0 : decode cX3_sum 0 = .ok (.iconst 0, 1) := by decide +kernel
theorem dX3_sum_1 : decode cX3_sum 1 = .ok (.istore_n 1, 1) := by decide +kernel
theorem dX3_sum_2 : decode cX3_sum 2 = .ok (.iconst 0, 1) := by decide +kernel
theorem dX3_sum_3 : decode cX3_sum 3 = .ok (.istore_n 2, 1) := by decide +kernel
theorem dX3_sum_4 : decode cX3_sum 4 = .ok (.iload_n 2, 1) := by decide +kernel
theorem dX3_sum_5 : decode cX3_sum 5 = .ok (.bipush 32, 2) := by decide +kernel
theorem dX3_sum_7 : decode cX3_sum 7 = .ok (.if_icmp .ge 29, 3) := by decide +kernel
theorem dX3_sum_10 : decode cX3_sum 10 = .ok (.aload_n 0, 1) := by decide +kernel
theorem dX3_sum_11 : decode cX3_sum 11 = .ok (.getfield 9, 3) := by decide +kernel
theorem dX3_sum_14 : decode cX3_sum 14 = .ok (.iload_n 2, 1) := by decide +kernel
theorem dX3_sum_15 : decode cX3_sum 15 = .ok (.iaload, 1) := by decide +kernel
theorem dX3_sum_16 : decode cX3_sum 16 = .ok (.bipush (-5), 2) := by decide +kernel
theorem dX3_sum_18 : decode cX3_sum 18 = .ok (.if_icmp .eq 12, 3) := by decide +kernel
theorem dX3_sum_21 : decode cX3_sum 21 = .ok (.iload_n 1, 1) := by decide +kernel
theorem dX3_sum_22 : decode cX3_sum 22 = .ok (.aload_n 0, 1) := by decide +kernel
theorem dX3_sum_23 : decode cX3_sum 23 = .ok (.getfield 9, 3) := by decide +kernel
theorem dX3_sum_26 : decode cX3_sum 26 = .ok (.iload_n 2, 1) := by decide +kernel
theorem dX3_sum_27 : decode cX3_sum 27 = .ok (.iaload, 1) := by decide +kernel
theorem dX3_sum_28 : decode cX3_sum 28 = .ok (.iadd, 1) := by decide +kernel
theorem dX3_sum_29 : decode cX3_sum 29 = .ok (.istore_n 1, 1) := by decide +kernel
theorem dX3_sum_30 : decode cX3_sum 30 = .ok (.iinc 2 1, 3) := by decide +kernel
theorem dX3_sum_33 : decode cX3_sum 33 = .ok (.goto (-29), 3) := by decide +kernel
theorem dX3_sum_36 : decode cX3_sum 36 = .ok (.iload_n 1, 1) := by decide +kernel
theorem dX3_sum_37 : decode cX3_sum 37 = .ok (.ireturn, 1) := by decide +kernel
theorem dX3_leastKey_0 : decode cX3_leastKey 0 = .ok (.iconst 0, 1) := by decide +kernel
theorem dX3_leastKey_1 : decode cX3_leastKey 1 = .ok (.istore_n 1, 1) := by decide +kernel
theorem dX3_leastKey_2 : decode cX3_leastKey 2 = .ok (.iload_n 1, 1) := by decide +kernel
theorem dX3_leastKey_3 : decode cX3_leastKey 3 = .ok (.bipush 32, 2) := by decide +kernel
theorem dX3_leastKey_5 : decode cX3_leastKey 5 = .ok (.if_icmp .ge 22, 3) := by decide +kernel
theorem dX3_leastKey_8 : decode cX3_leastKey 8 = .ok (.aload_n 0, 1) := by decide +kernel
theorem dX3_leastKey_9 : decode cX3_leastKey 9 = .ok (.getfield 9, 3) := by decide +kernel
theorem dX3_leastKey_12 : decode cX3_leastKey 12 = .ok (.iload_n 1, 1) := by decide +kernel
theorem dX3_leastKey_13 : decode cX3_leastKey 13 = .ok (.iaload, 1) := by decide +kernel
theorem dX3_leastKey_14 : decode cX3_leastKey 14 = .ok (.bipush (-5), 2) := by decide +kernel
theorem dX3_leastKey_16 : decode cX3_leastKey 16 = .ok (.if_icmp .eq 5, 3) := by decide +kernel
theorem dX3_leastKey_19 : decode cX3_leastKey 19 = .ok (.iload_n 1, 1) := by decide +kernel
theorem dX3_leastKey_20 : decode cX3_leastKey 20 = .ok (.ireturn, 1) := by decide +kernel
theorem dX3_leastKey_21 : decode cX3_leastKey 21 = .ok (.iinc 1 1, 3) := by decide +kernel
theorem dX3_leastKey_24 : decode cX3_leastKey 24 = .ok (.goto (-22), 3) := by decide +kernel
theorem dX3_leastKey_27 : decode cX3_leastKey 27 = .ok (.bipush (-5), 2) := by decide +kernel
theorem dX3_leastKey_29 : decode cX3_leastKey 29 = .ok (.ireturn, 1) := by decide +kernel
theorem dX3_greatestKey_0 : decode cX3_greatestKey 0 = .ok (.bipush 31, 2) := by decide +kernel
theorem dX3_greatestKey_2 : decode cX3_greatestKey 2 = .ok (.istore_n 1, 1) := by decide +kernel
theorem dX3_greatestKey_3 : decode cX3_greatestKey 3 = .ok (.iload_n 1, 1) := by decide +kernel
theorem dX3_greatestKey_4 : decode cX3_greatestKey 4 = .ok (.ifCond .lt 22, 3) := by decide +kernel
theorem dX3_greatestKey_7 : decode cX3_greatestKey 7 = .ok (.aload_n 0, 1) := by decide +kernel
theorem dX3_greatestKey_8 : decode cX3_greatestKey 8 = .ok (.getfield 9, 3) := by decide +kernel
theorem dX3_greatestKey_11 : decode cX3_greatestKey 11 = .ok (.iload_n 1, 1) := by decide +kernel
theorem dX3_greatestKey_12 : decode cX3_greatestKey 12 = .ok (.iaload, 1) := by decide +kernel
theorem dX3_greatestKey_13 : decode cX3_greatestKey 13 = .ok (.bipush (-5), 2) := by decide +kernel
theorem dX3_greatestKey_15 : decode cX3_greatestKey 15 = .ok (.if_icmp .eq 5, 3) := by decide +kernel
theorem dX3_greatestKey_18 : decode cX3_greatestKey 18 = .ok (.iload_n 1, 1) := by decide +kernel
theorem dX3_greatestKey_19 : decode cX3_greatestKey 19 = .ok (.ireturn, 1) := by decide +kernel
theorem dX3_greatestKey_20 : decode cX3_greatestKey 20 = .ok (.iinc 1 (-1), 3) := by decide +kernel
theorem dX3_greatestKey_23 : decode cX3_greatestKey 23 = .ok (.goto (-20), 3) := by decide +kernel
theorem dX3_greatestKey_26 : decode cX3_greatestKey 26 = .ok (.bipush (-5), 2) := by decide +kernel
theorem dX3_greatestKey_28 : decode cX3_greatestKey 28 = .ok (.ireturn, 1) := by decide +kernel
theorem dX4_init_0 : decode cX4_init 0 = .ok (.aload_n 0, 1) := by decide +kernel
theorem dX4_init_1 : decode cX4_init 1 = .ok (.invokespecial 3, 3) := by decide +kernel
theorem dX4_init_4 : decode cX4_init 4 = .ok (.aload_n 0, 1) := by decide +kernel
theorem dX4_init_5 : decode cX4_init 5 = .ok (.bipush 80, 2) := by decide +kernel
theorem dX4_init_7 : decode cX4_init 7 = .ok (.newarray .int, 2) := by decide +kernel
theorem dX4_init_9 : decode cX4_init 9 = .ok (.putfield 9, 3) := by decide +kernel
theorem dX4_init_12 : decode cX4_init 12 = .ok (.return_, 1) := by decide +kernel
set_option maxRecDepth 20000 in
theorem ggX5_init_X3_init : GoodIn wsX5_init wsX3_init := goodIn_r _ [18, 19, 2, 3, 13, 20, 21, 22, 23, 24, 41] (by rfl) (by decide +kernel)
set_option maxRecDepth 20000 in
theorem gX5_init_X3_init : GoodIn wsX5_init (wsX3_init) := ggX5_init_X3_init
set_option maxRecDepth 20000 in
theorem ggX5_init_X0_init : GoodIn wsX5_init wsX0_init := goodIn_r _ [26, 27, 2, 3, 28, 5, 6, 29, 30, 31, 32, 33, 34, 35, 17, 18, 19, 13, 20, 21, 22, 23, 24, 36, 37, 38, 39, 40, 41, 48, 49, 50, 51, 52, 53, 54, 55, 56, 57, 58] (by rfl) (by decide +kernel)
set_option maxRecDepth 20000 in
theorem gX5_init_X0_init_n23 : GoodIn wsX5_init (wsX0_init) := ggX5_init_X0_init
theorem dX5_init_0 : decode cX5_init 0 = .ok (.aload_n 0, 1) := by decide +kernel
theorem dX5_init_1 : decode cX5_init 1 = .ok (.invokespecial 3, 3) := by decide +kernel
theorem dX5_init_4 : decode cX5_init 4 = .ok (.aload_n 0, 1) := by decide +kernel
theorem dX5_init_5 : decode cX5_init 5 = .ok (.new 9, 3) := by decide +kernel
theorem dX5_init_8 : decode cX5_init 8 = .ok (.dup, 1) := by decide +kernel
theorem dX5_init_9 : decode cX5_init 9 = .ok (.invokespecial 11, 3) := by decide +kernel
theorem dX5_init_12 : decode cX5_init 12 = .ok (.putfield 12, 3) := by decide +kernel
theorem dX5_init_15 : decode cX5_init 15 = .ok (.aload_n 0, 1) := by decide +kernel
theorem dX5_init_16 : decode cX5_init 16 = .ok (.new 9, 3) := by decide +kernel
theorem dX5_init_19 : decode cX5_init 19 = .ok (.dup, 1) := by decide +kernel
theorem dX5_init_20 : decode cX5_init 20 = .ok (.invokespecial 11, 3) := by decide +kernel
theorem dX5_init_23 : decode cX5_init 23 = .ok (.putfield 18, 3) := by decide +kernel
theorem dX5_init_26 : decode cX5_init 26 = .ok (.aload_n 0, 1) := by decide +kernel
theorem dX5_init_27 : decode cX5_init 27 = .ok (.new 21, 3) := by decide +kernel
theorem dX5_init_30 : decode cX5_init 30 = .ok (.dup, 1) := by decide +kernel
theorem dX5_init_31 : decode cX5_init 31 = .ok (.invokespecial 23, 3) := by decide +kernel
theorem dX5_init_34 : decode cX5_init 34 = .ok (.putfield 24, 3) := by decide +kernel
theorem dX5_init_37 : decode cX5_init 37 = .ok (.aload_n 0, 1) := by decide +kernel
theorem dX5_init_38 : decode cX5_init 38 = .ok (.iconst 4, 1) := by decide +kernel
theorem dX5_init_39 : decode cX5_init 39 = .ok (.newarray .int, 2) := by decide +kernel
theorem dX5_init_41 : decode cX5_init 41 = .ok (.dup, 1) := by decide +kernel
theorem dX5_init_42 : decode cX5_init 42 = .ok (.iconst 0, 1) := by decide +kernel
theorem dX5_init_43 : decode cX5_init 43 = .ok (.iconst 3, 1) := by decide +kernel
theorem dX5_init_44 : decode cX5_init 44 = .ok (.iastore, 1) := by decide +kernel
theorem dX5_init_45 : decode cX5_init 45 = .ok (.dup, 1) := by decide +kernel
theorem dX5_init_46 : decode cX5_init 46 = .ok (.iconst 1, 1) := by decide +kernel
theorem dX5_init_47 : decode cX5_init 47 = .ok (.bipush 6, 2) := by decide +kernel
theorem dX5_init_49 : decode cX5_init 49 = .ok (.iastore, 1) := by decide +kernel
theorem dX5_init_50 : decode cX5_init 50 = .ok (.dup, 1) := by decide +kernel
theorem dX5_init_51 : decode cX5_init 51 = .ok (.iconst 2, 1) := by decide +kernel
theorem dX5_init_52 : decode cX5_init 52 = .ok (.iconst 5, 1) := by decide +kernel
theorem dX5_init_53 : decode cX5_init 53 = .ok (.iastore, 1) := by decide +kernel
theorem dX5_init_54 : decode cX5_init 54 = .ok (.dup, 1) := by decide +kernel
theorem dX5_init_55 : decode cX5_init 55 = .ok (.iconst 3, 1) := by decide +kernel
theorem dX5_init_56 : decode cX5_init 56 = .ok (.iconst 0, 1) := by decide +kernel
theorem dX5_init_57 : decode cX5_init 57 = .ok (.iastore, 1) := by decide +kernel
theorem dX5_init_58 : decode cX5_init 58 = .ok (.putfield 28, 3) := by decide +kernel
theorem dX5_init_61 : decode cX5_init 61 = .ok (.aload_n 0, 1) := by decide +kernel
theorem dX5_init_62 : decode cX5_init 62 = .ok (.bipush 8, 2) := by decide +kernel
theorem dX5_init_64 : decode cX5_init 64 = .ok (.newarray .int, 2) := by decide +kernel
theorem dX5_init_66 : decode cX5_init 66 = .ok (.putfield 32, 3) := by decide +kernel
theorem dX5_init_69 : decode cX5_init 69 = .ok (.return_, 1) := by decide +kernel
set_option maxRecDepth 20000 in
theorem ggX5_take_X3_take : GoodIn wsX5_take wsX3_take := goodIn_r _ [15, 16, 17, 7, 8, 9, 47] (by rfl) (by decide +kernel)
set_option maxRecDepth 20000 in
theorem gX5_take_X3_take : GoodIn wsX5_take (wsV RX5 35 RX3 yX3_take wsX3_take) := goodIn_app (goodIn_r _ [11, 12, 13, 14] (by rfl) (by decide +kernel)) ggX5_take_X3_take
set_option maxRecDepth 20000 in
theorem ggX5_take_X0_take : GoodIn wsX5_take wsX0_take := goodIn_r _ [22, 23, 24, 25, 26, 27, 28, 29, 30, 12, 13, 14, 15, 16, 17, 7, 8, 9, 31, 32, 33, 34, 35, 36, 37, 38, 39, 40, 48, 49, 50, 51, 52, 53, 54, 47, 55, 56, 57, 58] (by rfl) (by decide +kernel)
set_option maxRecDepth 20000 in
theorem gX5_take_X0_take : GoodIn wsX5_take (wsV RX5 43 RX0 yX0_take wsX0_take) := goodIn_app (goodIn_r _ [18, 19, 20, 21] (by rfl) (by decide +kernel)) ggX5_take_X0_take
theorem dX5_take_0 : decode cX5_take 0 = .ok (.aload_n 0, 1) := by decide +kernel
theorem dX5_take_1 : decode cX5_take 1 = .ok (.getfield 12, 3) := by decide +kernel
theorem dX5_take_4 : decode cX5_take 4 = .ok (.aload_n 1, 1) := by decide +kernel
theorem dX5_take_5 : decode cX5_take 5 = .ok (.getfield 12, 3) := by decide +kernel
theorem dX5_take_8 : decode cX5_take 8 = .ok (.invokevirtual 35, 3) := by decide +kernel
theorem dX5_take_11 : decode cX5_take 11 = .ok (.aload_n 0, 1) := by decide +kernel
theorem dX5_take_12 : decode cX5_take 12 = .ok (.getfield 18, 3) := by decide +kernel
theorem dX5_take_15 : decode cX5_take 15 = .ok (.aload_n 1, 1) := by decide +kernel
theorem dX5_take_16 : decode cX5_take 16 = .ok (.getfield 18, 3) := by decide +kernel
theorem dX5_take_19 : decode cX5_take 19 = .ok (.invokevirtual 35, 3) := by decide +kernel
theorem dX5_take_22 : decode cX5_take 22 = .ok (.aload_n 0, 1) := by decide +kernel
theorem dX5_take_23 : decode cX5_take 23 = .ok (.aload_n 1, 1) := by decide +kernel
theorem dX5_take_24 : decode cX5_take 24 = .ok (.getfield 39, 3) := by decide +kernel
theorem dX5_take_27 : decode cX5_take 27 = .ok (.putfield 39, 3) := by decide +kernel
theorem dX5_take_30 : decode cX5_take 30 = .ok (.aload_n 0, 1) := by decide +kernel
theorem dX5_take_31 : decode cX5_take 31 = .ok (.getfield 24, 3) := by decide +kernel
theorem dX5_take_34 : decode cX5_take 34 = .ok (.aload_n 1, 1) := by decide +kernel
theorem dX5_take_35 : decode cX5_take 35 = .ok (.getfield 24, 3) := by decide +kernel
theorem dX5_take_38 : decode cX5_take 38 = .ok (.invokevirtual 43, 3) := by decide +kernel
theorem dX5_take_41 : decode cX5_take 41 = .ok (.aload_n 1, 1) := by decide +kernel
theorem dX5_take_42 : decode cX5_take 42 = .ok (.getfield 28, 3) := by decide +kernel
theorem dX5_take_45 : decode cX5_take 45 = .ok (.iconst 0, 1) := by decide +kernel
theorem dX5_take_46 : decode cX5_take 46 = .ok (.aload_n 0, 1) := by decide +kernel
theorem dX5_take_47 : decode cX5_take 47 = .ok (.getfield 28, 3) := by decide +kernel
theorem dX5_take_50 : decode cX5_take 50 = .ok (.iconst 0, 1) := by decide +kernel
theorem dX5_take_51 : decode cX5_take 51 = .ok (.iconst 4, 1) := by decide +kernel
theorem dX5_take_52 : decode cX5_take 52 = .ok (.invokestatic 46, 3) := by decide +kernel
theorem dX5_take_55 : decode cX5_take 55 = .ok (.aload_n 1, 1) := by decide +kernel
theorem dX5_take_56 : decode cX5_take 56 = .ok (.getfield 32, 3) := by decide +kernel
theorem dX5_take_59 : decode cX5_take 59 = .ok (.iconst 0, 1) := by decide +kernel
theorem dX5_take_60 : decode cX5_take 60 = .ok (.aload_n 0, 1) := by decide +kernel
theorem dX5_take_61 : decode cX5_take 61 = .ok (.getfield 32, 3) := by decide +kernel
theorem dX5_take_64 : decode cX5_take 64 = .ok (.iconst 0, 1) := by decide +kernel
theorem dX5_take_65 : decode cX5_take 65 = .ok (.bipush 8, 2) := by decide +kernel
theorem dX5_take_67 : decode cX5_take 67 = .ok (.invokestatic 46, 3) := by decide +kernel
theorem dX5_take_70 : decode cX5_take 70 = .ok (.return_, 1) := by decide +kernel
set_option maxRecDepth 20000 in
theorem ggX5_putRow_X6_isKey : GoodIn wsX5_putRow wsX6_isKey := goodIn_r _ [4, 5, 6, 3, 7] (by rfl) (by decide +kernel)
set_option maxRecDepth 20000 in
theorem gX5_putRow_X6_isKey_n52 : GoodIn wsX5_putRow (wsX6_isKey) := ggX5_putRow_X6_isKey
set_option maxRecDepth 20000 in
theorem ggX5_putRow_X6_isValue : GoodIn wsX5_putRow wsX6_isValue := goodIn_r _ [9, 5, 6, 3, 7] (by rfl) (by decide +kernel)
set_option maxRecDepth 20000 in
theorem gX5_putRow_X6_isValue_n56 : GoodIn wsX5_putRow (wsX6_isValue) := ggX5_putRow_X6_isValue
set_option maxRecDepth 20000 in
theorem ggX5_putRow_X5_changeRow : GoodIn wsX5_putRow wsX5_changeRow := goodIn_r _ [14, 1, 15, 16, 17, 18, 19, 13, 20, 21, 22, 23, 24, 25, 26, 27, 28, 29, 30, 31, 32, 33, 34, 35, 36, 37, 38, 39, 40, 41, 42, 43, 44, 45, 46, 47, 48, 49, 50, 51, 52, 53, 54, 55, 56, 57, 58, 59, 60, 61, 62, 63, 64, 65, 66] (by rfl) (by decide +kernel)
set_option maxRecDepth 20000 in
theorem gX5_putRow_X5_changeRow : GoodIn wsX5_putRow (wsV RX5 63 RX5 yX5_changeRow wsX5_changeRow) := goodIn_app (goodIn_r _ [10, 11, 12, 13] (by rfl) (by decide +kernel)) ggX5_putRow_X5_changeRow
theorem dX5_putRow_0 : decode cX5_putRow 0 = .ok (.iload_n 1, 1) := by decide +kernel
theorem dX5_putRow_1 : decode cX5_putRow 1 = .ok (.invokestatic 52, 3) := by decide +kernel
theorem dX5_putRow_4 : decode cX5_putRow 4 = .ok (.ifCond .ne 5, 3) := by decide +kernel
theorem dX5_putRow_7 : decode cX5_putRow 7 = .ok (.iconst (-1), 1) := by decide +kernel
theorem dX5_putRow_8 : decode cX5_putRow 8 = .ok (.ireturn, 1) := by decide +kernel
theorem dX5_putRow_9 : decode cX5_putRow 9 = .ok (.iload_n 2, 1) := by decide +kernel
theorem dX5_putRow_10 : decode cX5_putRow 10 = .ok (.invokestatic 56, 3) := by decide +kernel
theorem dX5_putRow_13 : decode cX5_putRow 13 = .ok (.ifCond .ne 6, 3) := by decide +kernel
theorem dX5_putRow_16 : decode cX5_putRow 16 = .ok (.bipush (-2), 2) := by decide +kernel
theorem dX5_putRow_18 : decode cX5_putRow 18 = .ok (.ireturn, 1) := by decide +kernel
theorem dX5_putRow_19 : decode cX5_putRow 19 = .ok (.aload_n 0, 1) := by decide +kernel
theorem dX5_putRow_20 : decode cX5_putRow 20 = .ok (.getfield 24, 3) := by decide +kernel
theorem dX5_putRow_23 : decode cX5_putRow 23 = .ok (.getfield 59, 3) := by decide +kernel
theorem dX5_putRow_26 : decode cX5_putRow 26 = .ok (.iconst 3, 1) := by decide +kernel
theorem dX5_putRow_27 : decode cX5_putRow 27 = .ok (.if_icmp .ne 6, 3) := by decide +kernel
theorem dX5_putRow_30 : decode cX5_putRow 30 = .ok (.bipush (-4), 2) := by decide +kernel
theorem dX5_putRow_32 : decode cX5_putRow 32 = .ok (.ireturn, 1) := by decide +kernel
theorem dX5_putRow_33 : decode cX5_putRow 33 = .ok (.aload_n 0, 1) := by decide +kernel
theorem dX5_putRow_34 : decode cX5_putRow 34 = .ok (.iload_n 1, 1) := by decide +kernel
theorem dX5_putRow_35 : decode cX5_putRow 35 = .ok (.iload_n 2, 1) := by decide +kernel
theorem dX5_putRow_36 : decode cX5_putRow 36 = .ok (.invokevirtual 63, 3) := by decide +kernel
theorem dX5_putRow_39 : decode cX5_putRow 39 = .ok (.ireturn, 1) := by decide +kernel
set_option maxRecDepth 20000 in
theorem ggX5_eraseRow_X6_isKey : GoodIn wsX5_eraseRow wsX6_isKey := goodIn_r _ [5, 6, 7, 4, 8] (by rfl) (by decide +kernel)
set_option maxRecDepth 20000 in
theorem gX5_eraseRow_X6_isKey_n52 : GoodIn wsX5_eraseRow (wsX6_isKey) := ggX5_eraseRow_X6_isKey
set_option maxRecDepth 20000 in
theorem ggX5_eraseRow_X3_at : GoodIn wsX5_eraseRow wsX3_at := goodIn_r _ [13, 14, 60] (by rfl) (by decide +kernel)
set_option maxRecDepth 20000 in
theorem gX5_eraseRow_X3_at : GoodIn wsX5_eraseRow (wsV RX5 67 RX3 yX3_at wsX3_at) := goodIn_app (goodIn_r _ [9, 10, 11, 12] (by rfl) (by decide +kernel)) ggX5_eraseRow_X3_at
set_option maxRecDepth 20000 in
theorem ggX5_eraseRow_X5_changeRow : GoodIn wsX5_eraseRow wsX5_changeRow := goodIn_r _ [19, 1, 20, 2, 21, 22, 23, 18, 24, 25, 26, 27, 28, 29, 30, 31, 32, 33, 34, 35, 36, 37, 38, 39, 40, 41, 42, 9, 10, 11, 12, 13, 14, 43, 44, 45, 46, 47, 48, 49, 50, 51, 52, 53, 54, 55, 56, 57, 58, 59, 61, 62, 63, 64, 60] (by rfl) (by decide +kernel)
set_option maxRecDepth 20000 in
theorem gX5_eraseRow_X5_changeRow : GoodIn wsX5_eraseRow (wsV RX5 63 RX5 yX5_changeRow wsX5_changeRow) := goodIn_app (goodIn_r _ [15, 16, 17, 18] (by rfl) (by decide +kernel)) ggX5_eraseRow_X5_changeRow
theorem dX5_eraseRow_0 : decode cX5_eraseRow 0 = .ok (.iload_n 1, 1) := by decide +kernel
theorem dX5_eraseRow_1 : decode cX5_eraseRow 1 = .ok (.invokestatic 52, 3) := by decide +kernel
theorem dX5_eraseRow_4 : decode cX5_eraseRow 4 = .ok (.ifCond .ne 5, 3) := by decide +kernel
theorem dX5_eraseRow_7 : decode cX5_eraseRow 7 = .ok (.iconst (-1), 1) := by decide +kernel
theorem dX5_eraseRow_8 : decode cX5_eraseRow 8 = .ok (.ireturn, 1) := by decide +kernel
theorem dX5_eraseRow_9 : decode cX5_eraseRow 9 = .ok (.aload_n 0, 1) := by decide +kernel
theorem dX5_eraseRow_10 : decode cX5_eraseRow 10 = .ok (.getfield 24, 3) := by decide +kernel
theorem dX5_eraseRow_13 : decode cX5_eraseRow 13 = .ok (.getfield 59, 3) := by decide +kernel
theorem dX5_eraseRow_16 : decode cX5_eraseRow 16 = .ok (.iconst 3, 1) := by decide +kernel
theorem dX5_eraseRow_17 : decode cX5_eraseRow 17 = .ok (.if_icmp .ne 6, 3) := by decide +kernel
theorem dX5_eraseRow_20 : decode cX5_eraseRow 20 = .ok (.bipush (-4), 2) := by decide +kernel
theorem dX5_eraseRow_22 : decode cX5_eraseRow 22 = .ok (.ireturn, 1) := by decide +kernel
theorem dX5_eraseRow_23 : decode cX5_eraseRow 23 = .ok (.aload_n 0, 1) := by decide +kernel
theorem dX5_eraseRow_24 : decode cX5_eraseRow 24 = .ok (.getfield 12, 3) := by decide +kernel
theorem dX5_eraseRow_27 : decode cX5_eraseRow 27 = .ok (.iload_n 1, 1) := by decide +kernel
theorem dX5_eraseRow_28 : decode cX5_eraseRow 28 = .ok (.invokevirtual 67, 3) := by decide +kernel
theorem dX5_eraseRow_31 : decode cX5_eraseRow 31 = .ok (.bipush (-5), 2) := by decide +kernel
theorem dX5_eraseRow_33 : decode cX5_eraseRow 33 = .ok (.if_icmp .ne 8, 3) := by decide +kernel
theorem dX5_eraseRow_36 : decode cX5_eraseRow 36 = .ok (.bipush (-5), 2) := by decide +kernel
theorem dX5_eraseRow_38 : decode cX5_eraseRow 38 = .ok (.goto 10, 3) := by decide +kernel
theorem dX5_eraseRow_41 : decode cX5_eraseRow 41 = .ok (.aload_n 0, 1) := by decide +kernel
theorem dX5_eraseRow_42 : decode cX5_eraseRow 42 = .ok (.iload_n 1, 1) := by decide +kernel
theorem dX5_eraseRow_43 : decode cX5_eraseRow 43 = .ok (.bipush (-5), 2) := by decide +kernel
theorem dX5_eraseRow_45 : decode cX5_eraseRow 45 = .ok (.invokevirtual 63, 3) := by decide +kernel
theorem dX5_eraseRow_48 : decode cX5_eraseRow 48 = .ok (.ireturn, 1) := by decide +kernel
set_option maxRecDepth 20000 in
theorem ggX5_changeRow_X5_hasCopy : GoodIn wsX5_changeRow wsX5_hasCopy := goodIn_r _ [8, 1, 37, 38, 39, 40, 41, 42, 43, 44, 45, 46, 47, 48, 49] (by rfl) (by decide +kernel)
set_option maxRecDepth 20000 in
theorem gX5_changeRow_X5_hasCopy : GoodIn wsX5_changeRow (wsV RX5 71 RX5 yX5_hasCopy wsX5_hasCopy) := goodIn_app (goodIn_r _ [4, 5, 6, 7] (by rfl) (by decide +kernel)) ggX5_changeRow_X5_hasCopy
set_option maxRecDepth 20000 in
theorem ggX5_changeRow_X2_add : GoodIn wsX5_changeRow wsX2_add := goodIn_r _ [13, 14, 15, 16, 17, 18, 19, 12, 20, 21, 50, 51, 52, 53] (by rfl) (by decide +kernel)
set_option maxRecDepth 20000 in
theorem gX5_changeRow_X2_add : GoodIn wsX5_changeRow (wsV RX5 79 RX2 yX2_add wsX2_add) := goodIn_app (goodIn_r _ [9, 10, 11, 12] (by rfl) (by decide +kernel)) ggX5_changeRow_X2_add
set_option maxRecDepth 20000 in
theorem ggX5_changeRow_X5_endGivenUp : GoodIn wsX5_changeRow wsX5_endGivenUp := goodIn_r _ [25, 1, 26, 37, 38, 39, 40, 41, 42, 43, 44, 45, 46, 47, 48, 49] (by rfl) (by decide +kernel)
set_option maxRecDepth 20000 in
theorem gX5_changeRow_X5_endGivenUp : GoodIn wsX5_changeRow (wsV RX5 85 RX5 yX5_endGivenUp wsX5_endGivenUp) := goodIn_app (goodIn_r _ [22, 23, 24, 7] (by rfl) (by decide +kernel)) ggX5_changeRow_X5_endGivenUp
set_option maxRecDepth 20000 in
theorem ggX5_changeRow_X3_at : GoodIn wsX5_changeRow wsX3_at := goodIn_r _ [31, 32, 54] (by rfl) (by decide +kernel)
set_option maxRecDepth 20000 in
theorem gX5_changeRow_X3_at : GoodIn wsX5_changeRow (wsV RX5 67 RX3 yX3_at wsX3_at) := goodIn_app (goodIn_r _ [27, 28, 29, 30] (by rfl) (by decide +kernel)) ggX5_changeRow_X3_at
set_option maxRecDepth 20000 in
theorem ggX5_changeRow_X3_place : GoodIn wsX5_changeRow wsX3_place := goodIn_r _ [36, 32, 54] (by rfl) (by decide +kernel)
set_option maxRecDepth 20000 in
theorem gX5_changeRow_X3_place : GoodIn wsX5_changeRow (wsV RX5 88 RX3 yX3_place wsX3_place) := goodIn_app (goodIn_r _ [33, 34, 35, 30] (by rfl) (by decide +kernel)) ggX5_changeRow_X3_place
theorem dX5_changeRow_0 : decode cX5_changeRow 0 = .ok (.aload_n 0, 1) := by decide +kernel
theorem dX5_changeRow_1 : decode cX5_changeRow 1 = .ok (.invokevirtual 71, 3) := by decide +kernel
theorem dX5_changeRow_4 : decode cX5_changeRow 4 = .ok (.ifCond .eq 35, 3) := by decide +kernel
theorem dX5_changeRow_7 : decode cX5_changeRow 7 = .ok (.aload_n 0, 1) := by decide +kernel
theorem dX5_changeRow_8 : decode cX5_changeRow 8 = .ok (.getfield 24, 3) := by decide +kernel
theorem dX5_changeRow_11 : decode cX5_changeRow 11 = .ok (.getfield 75, 3) := by decide +kernel
theorem dX5_changeRow_14 : decode cX5_changeRow 14 = .ok (.iload_n 1, 1) := by decide +kernel
theorem dX5_changeRow_15 : decode cX5_changeRow 15 = .ok (.iload_n 2, 1) := by decide +kernel
theorem dX5_changeRow_16 : decode cX5_changeRow 16 = .ok (.invokevirtual 79, 3) := by decide +kernel
theorem dX5_changeRow_19 : decode cX5_changeRow 19 = .ok (.ifCond .ne 20, 3) := by decide +kernel
theorem dX5_changeRow_22 : decode cX5_changeRow 22 = .ok (.aload_n 0, 1) := by decide +kernel
theorem dX5_changeRow_23 : decode cX5_changeRow 23 = .ok (.getfield 28, 3) := by decide +kernel
theorem dX5_changeRow_26 : decode cX5_changeRow 26 = .ok (.iconst 3, 1) := by decide +kernel
theorem dX5_changeRow_27 : decode cX5_changeRow 27 = .ok (.iaload, 1) := by decide +kernel
theorem dX5_changeRow_28 : decode cX5_changeRow 28 = .ok (.iconst 1, 1) := by decide +kernel
theorem dX5_changeRow_29 : decode cX5_changeRow 29 = .ok (.if_icmp .ne 6, 3) := by decide +kernel
theorem dX5_changeRow_32 : decode cX5_changeRow 32 = .ok (.bipush (-3), 2) := by decide +kernel
theorem dX5_changeRow_34 : decode cX5_changeRow 34 = .ok (.ireturn, 1) := by decide +kernel
theorem dX5_changeRow_35 : decode cX5_changeRow 35 = .ok (.aload_n 0, 1) := by decide +kernel
theorem dX5_changeRow_36 : decode cX5_changeRow 36 = .ok (.invokevirtual 85, 3) := by decide +kernel
theorem dX5_changeRow_39 : decode cX5_changeRow 39 = .ok (.aload_n 0, 1) := by decide +kernel
theorem dX5_changeRow_40 : decode cX5_changeRow 40 = .ok (.getfield 12, 3) := by decide +kernel
theorem dX5_changeRow_43 : decode cX5_changeRow 43 = .ok (.iload_n 1, 1) := by decide +kernel
theorem dX5_changeRow_44 : decode cX5_changeRow 44 = .ok (.invokevirtual 67, 3) := by decide +kernel
theorem dX5_changeRow_47 : decode cX5_changeRow 47 = .ok (.istore_n 3, 1) := by decide +kernel
theorem dX5_changeRow_48 : decode cX5_changeRow 48 = .ok (.aload_n 0, 1) := by decide +kernel
theorem dX5_changeRow_49 : decode cX5_changeRow 49 = .ok (.getfield 12, 3) := by decide +kernel
theorem dX5_changeRow_52 : decode cX5_changeRow 52 = .ok (.iload_n 1, 1) := by decide +kernel
theorem dX5_changeRow_53 : decode cX5_changeRow 53 = .ok (.iload_n 2, 1) := by decide +kernel
theorem dX5_changeRow_54 : decode cX5_changeRow 54 = .ok (.invokevirtual 88, 3) := by decide +kernel
theorem dX5_changeRow_57 : decode cX5_changeRow 57 = .ok (.iload_n 3, 1) := by decide +kernel
theorem dX5_changeRow_58 : decode cX5_changeRow 58 = .ok (.ireturn, 1) := by decide +kernel
set_option maxRecDepth 20000 in
theorem ggX5_beginCopy_X6_isKind : GoodIn wsX5_beginCopy wsX6_isKind := goodIn_r _ [6, 7, 8, 5, 9] (by rfl) (by decide +kernel)
set_option maxRecDepth 20000 in
theorem gX5_beginCopy_X6_isKind_n92 : GoodIn wsX5_beginCopy (wsX6_isKind) := ggX5_beginCopy_X6_isKind
set_option maxRecDepth 20000 in
theorem ggX5_beginCopy_X6_isLot : GoodIn wsX5_beginCopy wsX6_isLot := goodIn_r _ [11, 7, 8, 5, 9] (by rfl) (by decide +kernel)
set_option maxRecDepth 20000 in
theorem gX5_beginCopy_X6_isLot_n95 : GoodIn wsX5_beginCopy (wsX6_isLot) := ggX5_beginCopy_X6_isLot
set_option maxRecDepth 20000 in
theorem ggX5_beginCopy_X5_hasCopy : GoodIn wsX5_beginCopy wsX5_hasCopy := goodIn_r _ [16, 1, 49, 50, 51, 52, 53, 54, 55, 56, 57, 58, 59, 60, 61] (by rfl) (by decide +kernel)
set_option maxRecDepth 20000 in
theorem gX5_beginCopy_X5_hasCopy : GoodIn wsX5_beginCopy (wsV RX5 71 RX5 yX5_hasCopy wsX5_hasCopy) := goodIn_app (goodIn_r _ [12, 13, 14, 15] (by rfl) (by decide +kernel)) ggX5_beginCopy_X5_hasCopy
set_option maxRecDepth 20000 in
theorem ggX5_beginCopy_X0_start : GoodIn wsX5_beginCopy wsX0_start := goodIn_r _ [21, 22, 23, 24, 25, 26, 27, 28, 29, 30, 31, 32, 33, 34, 35, 36, 37, 38, 39, 40, 41, 42, 43, 44, 55, 56, 57, 58, 59, 60, 61, 62, 63, 64, 65, 66] (by rfl) (by decide +kernel)
set_option maxRecDepth 20000 in
theorem gX5_beginCopy_X0_start : GoodIn wsX5_beginCopy (wsV RX5 98 RX0 yX0_start wsX0_start) := goodIn_app (goodIn_r _ [17, 18, 19, 20] (by rfl) (by decide +kernel)) ggX5_beginCopy_X0_start
set_option maxRecDepth 20000 in
theorem ggX5_beginCopy_X3_count : GoodIn wsX5_beginCopy wsX3_count := goodIn_r _ [48, 33, 62] (by rfl) (by decide +kernel)
set_option maxRecDepth 20000 in
theorem gX5_beginCopy_X3_count : GoodIn wsX5_beginCopy (wsV RX5 101 RX3 yX3_count wsX3_count) := goodIn_app (goodIn_r _ [45, 46, 47, 31] (by rfl) (by decide +kernel)) ggX5_beginCopy_X3_count
theorem dX5_beginCopy_0 : decode cX5_beginCopy 0 = .ok (.iload_n 1, 1) := by decide +kernel
theorem dX5_beginCopy_1 : decode cX5_beginCopy 1 = .ok (.invokestatic 92, 3) := by decide +kernel
theorem dX5_beginCopy_4 : decode cX5_beginCopy 4 = .ok (.ifCond .eq 10, 3) := by decide +kernel
theorem dX5_beginCopy_7 : decode cX5_beginCopy 7 = .ok (.iload_n 2, 1) := by decide +kernel
theorem dX5_beginCopy_8 : decode cX5_beginCopy 8 = .ok (.invokestatic 95, 3) := by decide +kernel
theorem dX5_beginCopy_11 : decode cX5_beginCopy 11 = .ok (.ifCond .ne 6, 3) := by decide +kernel
theorem dX5_beginCopy_14 : decode cX5_beginCopy 14 = .ok (.bipush (-2), 2) := by decide +kernel
theorem dX5_beginCopy_16 : decode cX5_beginCopy 16 = .ok (.ireturn, 1) := by decide +kernel
theorem dX5_beginCopy_17 : decode cX5_beginCopy 17 = .ok (.aload_n 0, 1) := by decide +kernel
theorem dX5_beginCopy_18 : decode cX5_beginCopy 18 = .ok (.invokevirtual 71, 3) := by decide +kernel
theorem dX5_beginCopy_21 : decode cX5_beginCopy 21 = .ok (.ifCond .eq 6, 3) := by decide +kernel
theorem dX5_beginCopy_24 : decode cX5_beginCopy 24 = .ok (.bipush (-4), 2) := by decide +kernel
theorem dX5_beginCopy_26 : decode cX5_beginCopy 26 = .ok (.ireturn, 1) := by decide +kernel
theorem dX5_beginCopy_27 : decode cX5_beginCopy 27 = .ok (.aload_n 0, 1) := by decide +kernel
theorem dX5_beginCopy_28 : decode cX5_beginCopy 28 = .ok (.getfield 24, 3) := by decide +kernel
theorem dX5_beginCopy_31 : decode cX5_beginCopy 31 = .ok (.iload_n 1, 1) := by decide +kernel
theorem dX5_beginCopy_32 : decode cX5_beginCopy 32 = .ok (.iload_n 2, 1) := by decide +kernel
theorem dX5_beginCopy_33 : decode cX5_beginCopy 33 = .ok (.invokevirtual 98, 3) := by decide +kernel
theorem dX5_beginCopy_36 : decode cX5_beginCopy 36 = .ok (.aload_n 0, 1) := by decide +kernel
theorem dX5_beginCopy_37 : decode cX5_beginCopy 37 = .ok (.getfield 32, 3) := by decide +kernel
theorem dX5_beginCopy_40 : decode cX5_beginCopy 40 = .ok (.iconst 0, 1) := by decide +kernel
theorem dX5_beginCopy_41 : decode cX5_beginCopy 41 = .ok (.dup2, 1) := by decide +kernel
theorem dX5_beginCopy_42 : decode cX5_beginCopy 42 = .ok (.iaload, 1) := by decide +kernel
theorem dX5_beginCopy_43 : decode cX5_beginCopy 43 = .ok (.iconst 1, 1) := by decide +kernel
theorem dX5_beginCopy_44 : decode cX5_beginCopy 44 = .ok (.iadd, 1) := by decide +kernel
theorem dX5_beginCopy_45 : decode cX5_beginCopy 45 = .ok (.iastore, 1) := by decide +kernel
theorem dX5_beginCopy_46 : decode cX5_beginCopy 46 = .ok (.aload_n 0, 1) := by decide +kernel
theorem dX5_beginCopy_47 : decode cX5_beginCopy 47 = .ok (.getfield 12, 3) := by decide +kernel
theorem dX5_beginCopy_50 : decode cX5_beginCopy 50 = .ok (.invokevirtual 101, 3) := by decide +kernel
theorem dX5_beginCopy_53 : decode cX5_beginCopy 53 = .ok (.ireturn, 1) := by decide +kernel
set_option maxRecDepth 20000 in
theorem ggX5_makeTicks_X6_isTicks : GoodIn wsX5_makeTicks wsX6_isTicks := goodIn_r _ [4, 5, 6, 3, 7] (by rfl) (by decide +kernel)
set_option maxRecDepth 20000 in
theorem gX5_makeTicks_X6_isTicks_n105 : GoodIn wsX5_makeTicks (wsX6_isTicks) := ggX5_makeTicks_X6_isTicks
set_option maxRecDepth 20000 in
theorem ggX5_makeTicks_X5_makeTick : GoodIn wsX5_makeTicks wsX5_makeTick := goodIn_r _ [12, 13, 1, 14, 15, 16, 11, 17, 18, 19, 20, 21, 22, 23, 24, 25, 26, 27, 28, 29, 30, 31, 32, 33, 34, 35, 36, 37, 38, 39, 40, 41, 42, 43, 44, 3, 45, 46, 47, 48, 49, 50, 51, 52, 53, 54, 55, 56, 57, 58, 59, 60, 61, 62, 63, 64, 65, 66, 67, 68, 69, 70, 71, 72, 73, 74, 75, 76, 77, 78, 79, 80, 81, 82, 83, 84, 85, 86, 87, 88, 89, 90, 91, 92] (by rfl) (by decide +kernel)
set_option maxRecDepth 20000 in
theorem gX5_makeTicks_X5_makeTick : GoodIn wsX5_makeTicks (wsV RX5 108 RX5 yX5_makeTick wsX5_makeTick) := goodIn_app (goodIn_r _ [8, 9, 10, 11] (by rfl) (by decide +kernel)) ggX5_makeTicks_X5_makeTick
theorem dX5_makeTicks_0 : decode cX5_makeTicks 0 = .ok (.iload_n 1, 1) := by decide +kernel
theorem dX5_makeTicks_1 : decode cX5_makeTicks 1 = .ok (.invokestatic 105, 3) := by decide +kernel
theorem dX5_makeTicks_4 : decode cX5_makeTicks 4 = .ok (.ifCond .ne 6, 3) := by decide +kernel
theorem dX5_makeTicks_7 : decode cX5_makeTicks 7 = .ok (.bipush (-2), 2) := by decide +kernel
theorem dX5_makeTicks_9 : decode cX5_makeTicks 9 = .ok (.ireturn, 1) := by decide +kernel
theorem dX5_makeTicks_10 : decode cX5_makeTicks 10 = .ok (.iconst 0, 1) := by decide +kernel
theorem dX5_makeTicks_11 : decode cX5_makeTicks 11 = .ok (.istore_n 2, 1) := by decide +kernel
theorem dX5_makeTicks_12 : decode cX5_makeTicks 12 = .ok (.iload_n 2, 1) := by decide +kernel
theorem dX5_makeTicks_13 : decode cX5_makeTicks 13 = .ok (.iload_n 1, 1) := by decide +kernel
theorem dX5_makeTicks_14 : decode cX5_makeTicks 14 = .ok (.if_icmp .ge 13, 3) := by decide +kernel
theorem dX5_makeTicks_17 : decode cX5_makeTicks 17 = .ok (.aload_n 0, 1) := by decide +kernel
theorem dX5_makeTicks_18 : decode cX5_makeTicks 18 = .ok (.invokevirtual 108, 3) := by decide +kernel
theorem dX5_makeTicks_21 : decode cX5_makeTicks 21 = .ok (.iinc 2 1, 3) := by decide +kernel
theorem dX5_makeTicks_24 : decode cX5_makeTicks 24 = .ok (.goto (-12), 3) := by decide +kernel
theorem dX5_makeTicks_27 : decode cX5_makeTicks 27 = .ok (.aload_n 0, 1) := by decide +kernel
theorem dX5_makeTicks_28 : decode cX5_makeTicks 28 = .ok (.getfield 24, 3) := by decide +kernel
theorem dX5_makeTicks_31 : decode cX5_makeTicks 31 = .ok (.getfield 59, 3) := by decide +kernel
theorem dX5_makeTicks_34 : decode cX5_makeTicks 34 = .ok (.ireturn, 1) := by decide +kernel
set_option maxRecDepth 20000 in
theorem ggX5_makeTick_X5_hasCopy : GoodIn wsX5_makeTick wsX5_hasCopy := goodIn_r _ [7, 2, 66, 67, 68, 69, 70, 71, 72, 73, 74, 75, 76, 77, 78] (by rfl) (by decide +kernel)
set_option maxRecDepth 20000 in
theorem gX5_makeTick_X5_hasCopy : GoodIn wsX5_makeTick (wsV RX5 71 RX5 yX5_hasCopy wsX5_hasCopy) := goodIn_app (goodIn_r _ [3, 4, 5, 6] (by rfl) (by decide +kernel)) ggX5_makeTick_X5_hasCopy
set_option maxRecDepth 20000 in
theorem ggX5_makeTick_X5_lockRunsOut : GoodIn wsX5_makeTick wsX5_lockRunsOut := goodIn_r _ [11, 2, 12, 1, 66, 67, 68, 69, 70, 71, 72, 73, 74, 75, 76, 77, 78] (by rfl) (by decide +kernel)
set_option maxRecDepth 20000 in
theorem gX5_makeTick_X5_lockRunsOut : GoodIn wsX5_makeTick (wsV RX5 111 RX5 yX5_lockRunsOut wsX5_lockRunsOut) := goodIn_app (goodIn_r _ [8, 9, 10, 6] (by rfl) (by decide +kernel)) ggX5_makeTick_X5_lockRunsOut
set_option maxRecDepth 20000 in
theorem ggX5_makeTick_X5_applyEntries : GoodIn wsX5_makeTick wsX5_applyEntries := goodIn_r _ [16, 2, 12, 1, 17, 18, 19, 20, 21, 22, 23, 24, 25, 26, 27, 28, 29, 30, 31, 32, 33, 34, 35, 36, 37, 38, 39, 40, 41, 42, 43, 44, 45, 46, 66, 67, 68, 69, 70, 71, 72, 73, 74, 75, 76, 77, 78, 79, 80, 81, 82, 83] (by rfl) (by decide +kernel)
set_option maxRecDepth 20000 in
theorem gX5_makeTick_X5_applyEntries : GoodIn wsX5_makeTick (wsV RX5 114 RX5 yX5_applyEntries wsX5_applyEntries) := goodIn_app (goodIn_r _ [13, 14, 15, 6] (by rfl) (by decide +kernel)) ggX5_makeTick_X5_applyEntries
set_option maxRecDepth 20000 in
theorem ggX5_makeTick_X5_copyLot : GoodIn wsX5_makeTick wsX5_copyLot := goodIn_r _ [50, 2, 12, 1, 51, 52, 53, 54, 40, 55, 42, 56, 57, 58, 59, 60, 61, 62, 63, 34, 35, 36, 64, 65, 38, 39, 41, 66, 67, 68, 69, 70, 71, 72, 73, 74, 75, 76, 77, 78, 79, 80, 81, 82, 83] (by rfl) (by decide +kernel)
set_option maxRecDepth 20000 in
theorem gX5_makeTick_X5_copyLot : GoodIn wsX5_makeTick (wsV RX5 117 RX5 yX5_copyLot wsX5_copyLot) := goodIn_app (goodIn_r _ [47, 48, 49, 6] (by rfl) (by decide +kernel)) ggX5_makeTick_X5_copyLot
theorem dX5_makeTick_0 : decode cX5_makeTick 0 = .ok (.aload_n 0, 1) := by decide +kernel
theorem dX5_makeTick_1 : decode cX5_makeTick 1 = .ok (.getfield 32, 3) := by decide +kernel
theorem dX5_makeTick_4 : decode cX5_makeTick 4 = .ok (.bipush 7, 2) := by decide +kernel
theorem dX5_makeTick_6 : decode cX5_makeTick 6 = .ok (.dup2, 1) := by decide +kernel
theorem dX5_makeTick_7 : decode cX5_makeTick 7 = .ok (.iaload, 1) := by decide +kernel
theorem dX5_makeTick_8 : decode cX5_makeTick 8 = .ok (.iconst 1, 1) := by decide +kernel
theorem dX5_makeTick_9 : decode cX5_makeTick 9 = .ok (.iadd, 1) := by decide +kernel
theorem dX5_makeTick_10 : decode cX5_makeTick 10 = .ok (.iastore, 1) := by decide +kernel
theorem dX5_makeTick_11 : decode cX5_makeTick 11 = .ok (.aload_n 0, 1) := by decide +kernel
theorem dX5_makeTick_12 : decode cX5_makeTick 12 = .ok (.invokevirtual 71, 3) := by decide +kernel
theorem dX5_makeTick_15 : decode cX5_makeTick 15 = .ok (.ifCond .eq 10, 3) := by decide +kernel
theorem dX5_makeTick_18 : decode cX5_makeTick 18 = .ok (.aload_n 0, 1) := by decide +kernel
theorem dX5_makeTick_19 : decode cX5_makeTick 19 = .ok (.invokevirtual 111, 3) := by decide +kernel
theorem dX5_makeTick_22 : decode cX5_makeTick 22 = .ok (.ifCond .eq 4, 3) := by decide +kernel
theorem dX5_makeTick_25 : decode cX5_makeTick 25 = .ok (.return_, 1) := by decide +kernel
theorem dX5_makeTick_26 : decode cX5_makeTick 26 = .ok (.aload_n 0, 1) := by decide +kernel
theorem dX5_makeTick_27 : decode cX5_makeTick 27 = .ok (.invokevirtual 114, 3) := by decide +kernel
theorem dX5_makeTick_30 : decode cX5_makeTick 30 = .ok (.aload_n 0, 1) := by decide +kernel
theorem dX5_makeTick_31 : decode cX5_makeTick 31 = .ok (.getfield 24, 3) := by decide +kernel
theorem dX5_makeTick_34 : decode cX5_makeTick 34 = .ok (.getfield 59, 3) := by decide +kernel
theorem dX5_makeTick_37 : decode cX5_makeTick 37 = .ok (.iconst 1, 1) := by decide +kernel
theorem dX5_makeTick_38 : decode cX5_makeTick 38 = .ok (.if_icmp .ne 7, 3) := by decide +kernel
theorem dX5_makeTick_41 : decode cX5_makeTick 41 = .ok (.aload_n 0, 1) := by decide +kernel
theorem dX5_makeTick_42 : decode cX5_makeTick 42 = .ok (.invokevirtual 117, 3) := by decide +kernel
theorem dX5_makeTick_45 : decode cX5_makeTick 45 = .ok (.return_, 1) := by decide +kernel
theorem dX5_lockRunsOut_0 : decode cX5_lockRunsOut 0 = .ok (.aload_n 0, 1) := by decide +kernel
theorem dX5_lockRunsOut_1 : decode cX5_lockRunsOut 1 = .ok (.getfield 24, 3) := by decide +kernel
theorem dX5_lockRunsOut_4 : decode cX5_lockRunsOut 4 = .ok (.getfield 59, 3) := by decide +kernel
theorem dX5_lockRunsOut_7 : decode cX5_lockRunsOut 7 = .ok (.iconst 3, 1) := by decide +kernel
theorem dX5_lockRunsOut_8 : decode cX5_lockRunsOut 8 = .ok (.if_icmp .eq 5, 3) := by decide +kernel
theorem dX5_lockRunsOut_11 : decode cX5_lockRunsOut 11 = .ok (.iconst 0, 1) := by decide +kernel
theorem dX5_lockRunsOut_12 : decode cX5_lockRunsOut 12 = .ok (.ireturn, 1) := by decide +kernel
theorem dX5_lockRunsOut_13 : decode cX5_lockRunsOut 13 = .ok (.aload_n 0, 1) := by decide +kernel
theorem dX5_lockRunsOut_14 : decode cX5_lockRunsOut 14 = .ok (.getfield 24, 3) := by decide +kernel
theorem dX5_lockRunsOut_17 : decode cX5_lockRunsOut 17 = .ok (.dup, 1) := by decide +kernel
theorem dX5_lockRunsOut_18 : decode cX5_lockRunsOut 18 = .ok (.getfield 120, 3) := by decide +kernel
theorem dX5_lockRunsOut_21 : decode cX5_lockRunsOut 21 = .ok (.iconst 1, 1) := by decide +kernel
theorem dX5_lockRunsOut_22 : decode cX5_lockRunsOut 22 = .ok (.iadd, 1) := by decide +kernel
theorem dX5_lockRunsOut_23 : decode cX5_lockRunsOut 23 = .ok (.putfield 120, 3) := by decide +kernel
theorem dX5_lockRunsOut_26 : decode cX5_lockRunsOut 26 = .ok (.aload_n 0, 1) := by decide +kernel
theorem dX5_lockRunsOut_27 : decode cX5_lockRunsOut 27 = .ok (.getfield 24, 3) := by decide +kernel
theorem dX5_lockRunsOut_30 : decode cX5_lockRunsOut 30 = .ok (.getfield 120, 3) := by decide +kernel
theorem dX5_lockRunsOut_33 : decode cX5_lockRunsOut 33 = .ok (.aload_n 0, 1) := by decide +kernel
theorem dX5_lockRunsOut_34 : decode cX5_lockRunsOut 34 = .ok (.getfield 28, 3) := by decide +kernel
theorem dX5_lockRunsOut_37 : decode cX5_lockRunsOut 37 = .ok (.iconst 2, 1) := by decide +kernel
theorem dX5_lockRunsOut_38 : decode cX5_lockRunsOut 38 = .ok (.iaload, 1) := by decide +kernel
theorem dX5_lockRunsOut_39 : decode cX5_lockRunsOut 39 = .ok (.if_icmp .gt 5, 3) := by decide +kernel
theorem dX5_lockRunsOut_42 : decode cX5_lockRunsOut 42 = .ok (.iconst 0, 1) := by decide +kernel
theorem dX5_lockRunsOut_43 : decode cX5_lockRunsOut 43 = .ok (.ireturn, 1) := by decide +kernel
theorem dX5_lockRunsOut_44 : decode cX5_lockRunsOut 44 = .ok (.aload_n 0, 1) := by decide +kernel
theorem dX5_lockRunsOut_45 : decode cX5_lockRunsOut 45 = .ok (.getfield 24, 3) := by decide +kernel
theorem dX5_lockRunsOut_48 : decode cX5_lockRunsOut 48 = .ok (.iconst 2, 1) := by decide +kernel
theorem dX5_lockRunsOut_49 : decode cX5_lockRunsOut 49 = .ok (.putfield 59, 3) := by decide +kernel
theorem dX5_lockRunsOut_52 : decode cX5_lockRunsOut 52 = .ok (.aload_n 0, 1) := by decide +kernel
theorem dX5_lockRunsOut_53 : decode cX5_lockRunsOut 53 = .ok (.getfield 32, 3) := by decide +kernel
theorem dX5_lockRunsOut_56 : decode cX5_lockRunsOut 56 = .ok (.iconst 3, 1) := by decide +kernel
theorem dX5_lockRunsOut_57 : decode cX5_lockRunsOut 57 = .ok (.dup2, 1) := by decide +kernel
theorem dX5_lockRunsOut_58 : decode cX5_lockRunsOut 58 = .ok (.iaload, 1) := by decide +kernel
theorem dX5_lockRunsOut_59 : decode cX5_lockRunsOut 59 = .ok (.iconst 1, 1) := by decide +kernel
theorem dX5_lockRunsOut_60 : decode cX5_lockRunsOut 60 = .ok (.iadd, 1) := by decide +kernel
theorem dX5_lockRunsOut_61 : decode cX5_lockRunsOut 61 = .ok (.iastore, 1) := by decide +kernel
theorem dX5_lockRunsOut_62 : decode cX5_lockRunsOut 62 = .ok (.iconst 1, 1) := by decide +kernel
theorem dX5_lockRunsOut_63 : decode cX5_lockRunsOut 63 = .ok (.ireturn, 1) := by decide +kernel
set_option maxRecDepth 20000 in
theorem ggX5_applyEntries_X2_keyAt : GoodIn wsX5_applyEntries wsX2_keyAt := goodIn_r _ [8, 9, 10, 11, 12, 13, 7, 14, 15, 47, 48, 49, 50] (by rfl) (by decide +kernel)
set_option maxRecDepth 20000 in
theorem gX5_applyEntries_X2_keyAt : GoodIn wsX5_applyEntries (wsV RX5 126 RX2 yX2_keyAt wsX2_keyAt) := goodIn_app (goodIn_r _ [4, 5, 6, 7] (by rfl) (by decide +kernel)) ggX5_applyEntries_X2_keyAt
set_option maxRecDepth 20000 in
theorem ggX5_applyEntries_X2_valueAt : GoodIn wsX5_applyEntries wsX2_valueAt := goodIn_r _ [19, 9, 20, 11, 12, 13, 7, 14, 15, 47, 48, 49, 50] (by rfl) (by decide +kernel)
set_option maxRecDepth 20000 in
theorem gX5_applyEntries_X2_valueAt : GoodIn wsX5_applyEntries (wsV RX5 135 RX2 yX2_valueAt wsX2_valueAt) := goodIn_app (goodIn_r _ [16, 17, 18, 7] (by rfl) (by decide +kernel)) ggX5_applyEntries_X2_valueAt
set_option maxRecDepth 20000 in
theorem ggX5_applyEntries_X6_changedValue : GoodIn wsX5_applyEntries wsX6_changedValue := goodIn_r _ [23] (by rfl) (by decide +kernel)
set_option maxRecDepth 20000 in
theorem gX5_applyEntries_X6_changedValue_n138 : GoodIn wsX5_applyEntries (wsX6_changedValue) := ggX5_applyEntries_X6_changedValue
set_option maxRecDepth 20000 in
theorem ggX5_applyEntries_X3_place : GoodIn wsX5_applyEntries wsX3_place := goodIn_r _ [28, 29, 51] (by rfl) (by decide +kernel)
set_option maxRecDepth 20000 in
theorem gX5_applyEntries_X3_place : GoodIn wsX5_applyEntries (wsV RX5 88 RX3 yX3_place wsX3_place) := goodIn_app (goodIn_r _ [24, 25, 26, 27] (by rfl) (by decide +kernel)) ggX5_applyEntries_X3_place
set_option maxRecDepth 20000 in
theorem ggX5_applyEntries_X2_removeFirst : GoodIn wsX5_applyEntries wsX2_removeFirst := goodIn_r _ [33, 9, 15, 11, 12, 13, 7, 14, 47, 48, 49, 50] (by rfl) (by decide +kernel)
set_option maxRecDepth 20000 in
theorem gX5_applyEntries_X2_removeFirst : GoodIn wsX5_applyEntries (wsV RX5 142 RX2 yX2_removeFirst wsX2_removeFirst) := goodIn_app (goodIn_r _ [30, 31, 32, 7] (by rfl) (by decide +kernel)) ggX5_applyEntries_X2_removeFirst
theorem dX5_applyEntries_0 : decode cX5_applyEntries 0 = .ok (.aload_n 0, 1) := by decide +kernel
theorem dX5_applyEntries_1 : decode cX5_applyEntries 1 = .ok (.getfield 24, 3) := by decide +kernel
theorem dX5_applyEntries_4 : decode cX5_applyEntries 4 = .ok (.getfield 75, 3) := by decide +kernel
theorem dX5_applyEntries_7 : decode cX5_applyEntries 7 = .ok (.astore_n 1, 1) := by decide +kernel
theorem dX5_applyEntries_8 : decode cX5_applyEntries 8 = .ok (.iconst 0, 1) := by decide +kernel
theorem dX5_applyEntries_9 : decode cX5_applyEntries 9 = .ok (.istore_n 2, 1) := by decide +kernel
theorem dX5_applyEntries_10 : decode cX5_applyEntries 10 = .ok (.iload_n 2, 1) := by decide +kernel
theorem dX5_applyEntries_11 : decode cX5_applyEntries 11 = .ok (.aload_n 0, 1) := by decide +kernel
theorem dX5_applyEntries_12 : decode cX5_applyEntries 12 = .ok (.getfield 28, 3) := by decide +kernel
theorem dX5_applyEntries_15 : decode cX5_applyEntries 15 = .ok (.iconst 0, 1) := by decide +kernel
theorem dX5_applyEntries_16 : decode cX5_applyEntries 16 = .ok (.iaload, 1) := by decide +kernel
theorem dX5_applyEntries_17 : decode cX5_applyEntries 17 = .ok (.if_icmp .ge 63, 3) := by decide +kernel
theorem dX5_applyEntries_20 : decode cX5_applyEntries 20 = .ok (.aload_n 1, 1) := by decide +kernel
theorem dX5_applyEntries_21 : decode cX5_applyEntries 21 = .ok (.getfield 123, 3) := by decide +kernel
theorem dX5_applyEntries_24 : decode cX5_applyEntries 24 = .ok (.ifCond .le 56, 3) := by decide +kernel
theorem dX5_applyEntries_27 : decode cX5_applyEntries 27 = .ok (.aload_n 1, 1) := by decide +kernel
theorem dX5_applyEntries_28 : decode cX5_applyEntries 28 = .ok (.iconst 0, 1) := by decide +kernel
theorem dX5_applyEntries_29 : decode cX5_applyEntries 29 = .ok (.invokevirtual 126, 3) := by decide +kernel
theorem dX5_applyEntries_32 : decode cX5_applyEntries 32 = .ok (.istore_n 3, 1) := by decide +kernel
theorem dX5_applyEntries_33 : decode cX5_applyEntries 33 = .ok (.aload_n 0, 1) := by decide +kernel
theorem dX5_applyEntries_34 : decode cX5_applyEntries 34 = .ok (.getfield 24, 3) := by decide +kernel
theorem dX5_applyEntries_37 : decode cX5_applyEntries 37 = .ok (.getfield 129, 3) := by decide +kernel
theorem dX5_applyEntries_40 : decode cX5_applyEntries 40 = .ok (.iload_n 3, 1) := by decide +kernel
theorem dX5_applyEntries_41 : decode cX5_applyEntries 41 = .ok (.aload_n 0, 1) := by decide +kernel
theorem dX5_applyEntries_42 : decode cX5_applyEntries 42 = .ok (.getfield 24, 3) := by decide +kernel
theorem dX5_applyEntries_45 : decode cX5_applyEntries 45 = .ok (.getfield 132, 3) := by decide +kernel
theorem dX5_applyEntries_48 : decode cX5_applyEntries 48 = .ok (.iload_n 3, 1) := by decide +kernel
theorem dX5_applyEntries_49 : decode cX5_applyEntries 49 = .ok (.aload_n 1, 1) := by decide +kernel
theorem dX5_applyEntries_50 : decode cX5_applyEntries 50 = .ok (.iconst 0, 1) := by decide +kernel
theorem dX5_applyEntries_51 : decode cX5_applyEntries 51 = .ok (.invokevirtual 135, 3) := by decide +kernel
theorem dX5_applyEntries_54 : decode cX5_applyEntries 54 = .ok (.invokestatic 138, 3) := by decide +kernel
theorem dX5_applyEntries_57 : decode cX5_applyEntries 57 = .ok (.invokevirtual 88, 3) := by decide +kernel
theorem dX5_applyEntries_60 : decode cX5_applyEntries 60 = .ok (.aload_n 1, 1) := by decide +kernel
theorem dX5_applyEntries_61 : decode cX5_applyEntries 61 = .ok (.invokevirtual 142, 3) := by decide +kernel
theorem dX5_applyEntries_64 : decode cX5_applyEntries 64 = .ok (.aload_n 0, 1) := by decide +kernel
theorem dX5_applyEntries_65 : decode cX5_applyEntries 65 = .ok (.getfield 32, 3) := by decide +kernel
theorem dX5_applyEntries_68 : decode cX5_applyEntries 68 = .ok (.iconst 5, 1) := by decide +kernel
theorem dX5_applyEntries_69 : decode cX5_applyEntries 69 = .ok (.dup2, 1) := by decide +kernel
theorem dX5_applyEntries_70 : decode cX5_applyEntries 70 = .ok (.iaload, 1) := by decide +kernel
theorem dX5_applyEntries_71 : decode cX5_applyEntries 71 = .ok (.iconst 1, 1) := by decide +kernel
theorem dX5_applyEntries_72 : decode cX5_applyEntries 72 = .ok (.iadd, 1) := by decide +kernel
theorem dX5_applyEntries_73 : decode cX5_applyEntries 73 = .ok (.iastore, 1) := by decide +kernel
theorem dX5_applyEntries_74 : decode cX5_applyEntries 74 = .ok (.iinc 2 1, 3) := by decide +kernel
theorem dX5_applyEntries_77 : decode cX5_applyEntries 77 = .ok (.goto (-67), 3) := by decide +kernel
theorem dX5_applyEntries_80 : decode cX5_applyEntries 80 = .ok (.return_, 1) := by decide +kernel
set_option maxRecDepth 20000 in
theorem ggX5_copyLot_X3_at : GoodIn wsX5_copyLot wsX3_at := goodIn_r _ [9, 10, 44] (by rfl) (by decide +kernel)
set_option maxRecDepth 20000 in
theorem gX5_copyLot_X3_at : GoodIn wsX5_copyLot (wsV RX5 67 RX3 yX3_at wsX3_at) := goodIn_app (goodIn_r _ [5, 6, 7, 8] (by rfl) (by decide +kernel)) ggX5_copyLot_X3_at
set_option maxRecDepth 20000 in
theorem ggX5_copyLot_X0_copyKey : GoodIn wsX5_copyLot wsX0_copyKey := goodIn_r _ [15, 16, 17, 18, 19, 20, 21, 22, 6, 7, 8, 9, 10, 23, 24, 25, 26, 33, 34, 35, 36, 37, 38, 39, 44] (by rfl) (by decide +kernel)
set_option maxRecDepth 20000 in
theorem gX5_copyLot_X0_copyKey : GoodIn wsX5_copyLot (wsV RX5 151 RX0 yX0_copyKey wsX0_copyKey) := goodIn_app (goodIn_r _ [11, 12, 13, 14] (by rfl) (by decide +kernel)) ggX5_copyLot_X0_copyKey
theorem dX5_copyLot_0 : decode cX5_copyLot 0 = .ok (.aload_n 0, 1) := by decide +kernel
theorem dX5_copyLot_1 : decode cX5_copyLot 1 = .ok (.getfield 24, 3) := by decide +kernel
theorem dX5_copyLot_4 : decode cX5_copyLot 4 = .ok (.getfield 75, 3) := by decide +kernel
theorem dX5_copyLot_7 : decode cX5_copyLot 7 = .ok (.getfield 123, 3) := by decide +kernel
theorem dX5_copyLot_10 : decode cX5_copyLot 10 = .ok (.aload_n 0, 1) := by decide +kernel
theorem dX5_copyLot_11 : decode cX5_copyLot 11 = .ok (.getfield 28, 3) := by decide +kernel
theorem dX5_copyLot_14 : decode cX5_copyLot 14 = .ok (.iconst 1, 1) := by decide +kernel
theorem dX5_copyLot_15 : decode cX5_copyLot 15 = .ok (.iaload, 1) := by decide +kernel
theorem dX5_copyLot_16 : decode cX5_copyLot 16 = .ok (.if_icmp .le 14, 3) := by decide +kernel
theorem dX5_copyLot_19 : decode cX5_copyLot 19 = .ok (.aload_n 0, 1) := by decide +kernel
theorem dX5_copyLot_20 : decode cX5_copyLot 20 = .ok (.getfield 32, 3) := by decide +kernel
theorem dX5_copyLot_23 : decode cX5_copyLot 23 = .ok (.iconst 4, 1) := by decide +kernel
theorem dX5_copyLot_24 : decode cX5_copyLot 24 = .ok (.dup2, 1) := by decide +kernel
theorem dX5_copyLot_25 : decode cX5_copyLot 25 = .ok (.iaload, 1) := by decide +kernel
theorem dX5_copyLot_26 : decode cX5_copyLot 26 = .ok (.iconst 1, 1) := by decide +kernel
theorem dX5_copyLot_27 : decode cX5_copyLot 27 = .ok (.iadd, 1) := by decide +kernel
theorem dX5_copyLot_28 : decode cX5_copyLot 28 = .ok (.iastore, 1) := by decide +kernel
theorem dX5_copyLot_29 : decode cX5_copyLot 29 = .ok (.return_, 1) := by decide +kernel
theorem dX5_copyLot_30 : decode cX5_copyLot 30 = .ok (.iconst 0, 1) := by decide +kernel
theorem dX5_copyLot_31 : decode cX5_copyLot 31 = .ok (.istore_n 1, 1) := by decide +kernel
theorem dX5_copyLot_32 : decode cX5_copyLot 32 = .ok (.aload_n 0, 1) := by decide +kernel
theorem dX5_copyLot_33 : decode cX5_copyLot 33 = .ok (.getfield 24, 3) := by decide +kernel
theorem dX5_copyLot_36 : decode cX5_copyLot 36 = .ok (.getfield 145, 3) := by decide +kernel
theorem dX5_copyLot_39 : decode cX5_copyLot 39 = .ok (.istore_n 2, 1) := by decide +kernel
theorem dX5_copyLot_40 : decode cX5_copyLot 40 = .ok (.iload_n 2, 1) := by decide +kernel
theorem dX5_copyLot_41 : decode cX5_copyLot 41 = .ok (.bipush 32, 2) := by decide +kernel
theorem dX5_copyLot_43 : decode cX5_copyLot 43 = .ok (.if_icmp .ge 66, 3) := by decide +kernel
theorem dX5_copyLot_46 : decode cX5_copyLot 46 = .ok (.iload_n 1, 1) := by decide +kernel
theorem dX5_copyLot_47 : decode cX5_copyLot 47 = .ok (.aload_n 0, 1) := by decide +kernel
theorem dX5_copyLot_48 : decode cX5_copyLot 48 = .ok (.getfield 24, 3) := by decide +kernel
theorem dX5_copyLot_51 : decode cX5_copyLot 51 = .ok (.getfield 148, 3) := by decide +kernel
theorem dX5_copyLot_54 : decode cX5_copyLot 54 = .ok (.if_icmp .ge 55, 3) := by decide +kernel
theorem dX5_copyLot_57 : decode cX5_copyLot 57 = .ok (.aload_n 0, 1) := by decide +kernel
theorem dX5_copyLot_58 : decode cX5_copyLot 58 = .ok (.getfield 12, 3) := by decide +kernel
theorem dX5_copyLot_61 : decode cX5_copyLot 61 = .ok (.iload_n 2, 1) := by decide +kernel
theorem dX5_copyLot_62 : decode cX5_copyLot 62 = .ok (.invokevirtual 67, 3) := by decide +kernel
theorem dX5_copyLot_65 : decode cX5_copyLot 65 = .ok (.bipush (-5), 2) := by decide +kernel
theorem dX5_copyLot_67 : decode cX5_copyLot 67 = .ok (.if_icmp .eq 6, 3) := by decide +kernel
theorem dX5_copyLot_70 : decode cX5_copyLot 70 = .ok (.iinc 1 1, 3) := by decide +kernel
theorem dX5_copyLot_73 : decode cX5_copyLot 73 = .ok (.aload_n 0, 1) := by decide +kernel
theorem dX5_copyLot_74 : decode cX5_copyLot 74 = .ok (.getfield 24, 3) := by decide +kernel
theorem dX5_copyLot_77 : decode cX5_copyLot 77 = .ok (.iload_n 2, 1) := by decide +kernel
theorem dX5_copyLot_78 : decode cX5_copyLot 78 = .ok (.aload_n 0, 1) := by decide +kernel
theorem dX5_copyLot_79 : decode cX5_copyLot 79 = .ok (.getfield 12, 3) := by decide +kernel
theorem dX5_copyLot_82 : decode cX5_copyLot 82 = .ok (.iload_n 2, 1) := by decide +kernel
theorem dX5_copyLot_83 : decode cX5_copyLot 83 = .ok (.invokevirtual 67, 3) := by decide +kernel
theorem dX5_copyLot_86 : decode cX5_copyLot 86 = .ok (.invokevirtual 151, 3) := by decide +kernel
theorem dX5_copyLot_89 : decode cX5_copyLot 89 = .ok (.ifCond .eq 14, 3) := by decide +kernel
theorem dX5_copyLot_92 : decode cX5_copyLot 92 = .ok (.aload_n 0, 1) := by decide +kernel
theorem dX5_copyLot_93 : decode cX5_copyLot 93 = .ok (.getfield 32, 3) := by decide +kernel
theorem dX5_copyLot_96 : decode cX5_copyLot 96 = .ok (.bipush 6, 2) := by decide +kernel
theorem dX5_copyLot_98 : decode cX5_copyLot 98 = .ok (.dup2, 1) := by decide +kernel
theorem dX5_copyLot_99 : decode cX5_copyLot 99 = .ok (.iaload, 1) := by decide +kernel
theorem dX5_copyLot_100 : decode cX5_copyLot 100 = .ok (.iconst 1, 1) := by decide +kernel
theorem dX5_copyLot_101 : decode cX5_copyLot 101 = .ok (.iadd, 1) := by decide +kernel
theorem dX5_copyLot_102 : decode cX5_copyLot 102 = .ok (.iastore, 1) := by decide +kernel
theorem dX5_copyLot_103 : decode cX5_copyLot 103 = .ok (.iinc 2 1, 3) := by decide +kernel
theorem dX5_copyLot_106 : decode cX5_copyLot 106 = .ok (.goto (-66), 3) := by decide +kernel
theorem dX5_copyLot_109 : decode cX5_copyLot 109 = .ok (.aload_n 0, 1) := by decide +kernel
theorem dX5_copyLot_110 : decode cX5_copyLot 110 = .ok (.getfield 24, 3) := by decide +kernel
theorem dX5_copyLot_113 : decode cX5_copyLot 113 = .ok (.getfield 145, 3) := by decide +kernel
theorem dX5_copyLot_116 : decode cX5_copyLot 116 = .ok (.bipush 32, 2) := by decide +kernel
theorem dX5_copyLot_118 : decode cX5_copyLot 118 = .ok (.if_icmp .lt 11, 3) := by decide +kernel
theorem dX5_copyLot_121 : decode cX5_copyLot 121 = .ok (.aload_n 0, 1) := by decide +kernel
theorem dX5_copyLot_122 : decode cX5_copyLot 122 = .ok (.getfield 24, 3) := by decide +kernel
theorem dX5_copyLot_125 : decode cX5_copyLot 125 = .ok (.iconst 2, 1) := by decide +kernel
theorem dX5_copyLot_126 : decode cX5_copyLot 126 = .ok (.putfield 59, 3) := by decide +kernel
theorem dX5_copyLot_129 : decode cX5_copyLot 129 = .ok (.return_, 1) := by decide +kernel
theorem dX5_lockLive_0 : decode cX5_lockLive 0 = .ok (.aload_n 0, 1) := by decide +kernel
theorem dX5_lockLive_1 : decode cX5_lockLive 1 = .ok (.getfield 24, 3) := by decide +kernel
theorem dX5_lockLive_4 : decode cX5_lockLive 4 = .ok (.getfield 59, 3) := by decide +kernel
theorem dX5_lockLive_7 : decode cX5_lockLive 7 = .ok (.iconst 2, 1) := by decide +kernel
theorem dX5_lockLive_8 : decode cX5_lockLive 8 = .ok (.if_icmp .eq 6, 3) := by decide +kernel
theorem dX5_lockLive_11 : decode cX5_lockLive 11 = .ok (.bipush (-4), 2) := by decide +kernel
theorem dX5_lockLive_13 : decode cX5_lockLive 13 = .ok (.ireturn, 1) := by decide +kernel
theorem dX5_lockLive_14 : decode cX5_lockLive 14 = .ok (.aload_n 0, 1) := by decide +kernel
theorem dX5_lockLive_15 : decode cX5_lockLive 15 = .ok (.getfield 24, 3) := by decide +kernel
theorem dX5_lockLive_18 : decode cX5_lockLive 18 = .ok (.iconst 3, 1) := by decide +kernel
theorem dX5_lockLive_19 : decode cX5_lockLive 19 = .ok (.putfield 59, 3) := by decide +kernel
theorem dX5_lockLive_22 : decode cX5_lockLive 22 = .ok (.aload_n 0, 1) := by decide +kernel
theorem dX5_lockLive_23 : decode cX5_lockLive 23 = .ok (.getfield 24, 3) := by decide +kernel
theorem dX5_lockLive_26 : decode cX5_lockLive 26 = .ok (.iconst 0, 1) := by decide +kernel
theorem dX5_lockLive_27 : decode cX5_lockLive 27 = .ok (.putfield 120, 3) := by decide +kernel
theorem dX5_lockLive_30 : decode cX5_lockLive 30 = .ok (.aload_n 0, 1) := by decide +kernel
theorem dX5_lockLive_31 : decode cX5_lockLive 31 = .ok (.getfield 24, 3) := by decide +kernel
theorem dX5_lockLive_34 : decode cX5_lockLive 34 = .ok (.getfield 75, 3) := by decide +kernel
theorem dX5_lockLive_37 : decode cX5_lockLive 37 = .ok (.getfield 123, 3) := by decide +kernel
theorem dX5_lockLive_40 : decode cX5_lockLive 40 = .ok (.ireturn, 1) := by decide +kernel
theorem dX5_unlockLive_0 : decode cX5_unlockLive 0 = .ok (.aload_n 0, 1) := by decide +kernel
theorem dX5_unlockLive_1 : decode cX5_unlockLive 1 = .ok (.getfield 24, 3) := by decide +kernel
theorem dX5_unlockLive_4 : decode cX5_unlockLive 4 = .ok (.getfield 59, 3) := by decide +kernel
theorem dX5_unlockLive_7 : decode cX5_unlockLive 7 = .ok (.iconst 3, 1) := by decide +kernel
theorem dX5_unlockLive_8 : decode cX5_unlockLive 8 = .ok (.if_icmp .eq 6, 3) := by decide +kernel
theorem dX5_unlockLive_11 : decode cX5_unlockLive 11 = .ok (.bipush (-4), 2) := by decide +kernel
theorem dX5_unlockLive_13 : decode cX5_unlockLive 13 = .ok (.ireturn, 1) := by decide +kernel
theorem dX5_unlockLive_14 : decode cX5_unlockLive 14 = .ok (.aload_n 0, 1) := by decide +kernel
theorem dX5_unlockLive_15 : decode cX5_unlockLive 15 = .ok (.getfield 24, 3) := by decide +kernel
theorem dX5_unlockLive_18 : decode cX5_unlockLive 18 = .ok (.iconst 2, 1) := by decide +kernel
theorem dX5_unlockLive_19 : decode cX5_unlockLive 19 = .ok (.putfield 59, 3) := by decide +kernel
theorem dX5_unlockLive_22 : decode cX5_unlockLive 22 = .ok (.aload_n 0, 1) := by decide +kernel
theorem dX5_unlockLive_23 : decode cX5_unlockLive 23 = .ok (.getfield 24, 3) := by decide +kernel
theorem dX5_unlockLive_26 : decode cX5_unlockLive 26 = .ok (.getfield 120, 3) := by decide +kernel
theorem dX5_unlockLive_29 : decode cX5_unlockLive 29 = .ok (.ireturn, 1) := by decide +kernel
set_option maxRecDepth 20000 in
theorem ggX5_swapTables_X3_take : GoodIn wsX5_swapTables wsX3_take := goodIn_r _ [10, 11, 12, 13, 14, 15, 37] (by rfl) (by decide +kernel)
set_option maxRecDepth 20000 in
theorem gX5_swapTables_X3_take : GoodIn wsX5_swapTables (wsV RX5 35 RX3 yX3_take wsX3_take) := goodIn_app (goodIn_r _ [6, 7, 8, 9] (by rfl) (by decide +kernel)) ggX5_swapTables_X3_take
set_option maxRecDepth 20000 in
theorem ggX5_swapTables_X3_count : GoodIn wsX5_swapTables wsX3_count := goodIn_r _ [19, 11, 37] (by rfl) (by decide +kernel)
set_option maxRecDepth 20000 in
theorem gX5_swapTables_X3_count : GoodIn wsX5_swapTables (wsV RX5 101 RX3 yX3_count wsX3_count) := goodIn_app (goodIn_r _ [16, 17, 18, 9] (by rfl) (by decide +kernel)) ggX5_swapTables_X3_count
theorem dX5_swapTables_0 : decode cX5_swapTables 0 = .ok (.aload_n 0, 1) := by decide +kernel
theorem dX5_swapTables_1 : decode cX5_swapTables 1 = .ok (.getfield 24, 3) := by decide +kernel
theorem dX5_swapTables_4 : decode cX5_swapTables 4 = .ok (.getfield 59, 3) := by decide +kernel
theorem dX5_swapTables_7 : decode cX5_swapTables 7 = .ok (.iconst 3, 1) := by decide +kernel
theorem dX5_swapTables_8 : decode cX5_swapTables 8 = .ok (.if_icmp .ne 16, 3) := by decide +kernel
theorem dX5_swapTables_11 : decode cX5_swapTables 11 = .ok (.aload_n 0, 1) := by decide +kernel
theorem dX5_swapTables_12 : decode cX5_swapTables 12 = .ok (.getfield 24, 3) := by decide +kernel
theorem dX5_swapTables_15 : decode cX5_swapTables 15 = .ok (.getfield 75, 3) := by decide +kernel
theorem dX5_swapTables_18 : decode cX5_swapTables 18 = .ok (.getfield 123, 3) := by decide +kernel
theorem dX5_swapTables_21 : decode cX5_swapTables 21 = .ok (.ifCond .le 6, 3) := by decide +kernel
theorem dX5_swapTables_24 : decode cX5_swapTables 24 = .ok (.bipush (-4), 2) := by decide +kernel
theorem dX5_swapTables_26 : decode cX5_swapTables 26 = .ok (.ireturn, 1) := by decide +kernel
theorem dX5_swapTables_27 : decode cX5_swapTables 27 = .ok (.aload_n 0, 1) := by decide +kernel
theorem dX5_swapTables_28 : decode cX5_swapTables 28 = .ok (.getfield 18, 3) := by decide +kernel
theorem dX5_swapTables_31 : decode cX5_swapTables 31 = .ok (.aload_n 0, 1) := by decide +kernel
theorem dX5_swapTables_32 : decode cX5_swapTables 32 = .ok (.getfield 12, 3) := by decide +kernel
theorem dX5_swapTables_35 : decode cX5_swapTables 35 = .ok (.invokevirtual 35, 3) := by decide +kernel
theorem dX5_swapTables_38 : decode cX5_swapTables 38 = .ok (.aload_n 0, 1) := by decide +kernel
theorem dX5_swapTables_39 : decode cX5_swapTables 39 = .ok (.iconst 1, 1) := by decide +kernel
theorem dX5_swapTables_40 : decode cX5_swapTables 40 = .ok (.putfield 39, 3) := by decide +kernel
theorem dX5_swapTables_43 : decode cX5_swapTables 43 = .ok (.aload_n 0, 1) := by decide +kernel
theorem dX5_swapTables_44 : decode cX5_swapTables 44 = .ok (.getfield 12, 3) := by decide +kernel
theorem dX5_swapTables_47 : decode cX5_swapTables 47 = .ok (.aload_n 0, 1) := by decide +kernel
theorem dX5_swapTables_48 : decode cX5_swapTables 48 = .ok (.getfield 24, 3) := by decide +kernel
theorem dX5_swapTables_51 : decode cX5_swapTables 51 = .ok (.getfield 129, 3) := by decide +kernel
theorem dX5_swapTables_54 : decode cX5_swapTables 54 = .ok (.invokevirtual 35, 3) := by decide +kernel
theorem dX5_swapTables_57 : decode cX5_swapTables 57 = .ok (.aload_n 0, 1) := by decide +kernel
theorem dX5_swapTables_58 : decode cX5_swapTables 58 = .ok (.getfield 24, 3) := by decide +kernel
theorem dX5_swapTables_61 : decode cX5_swapTables 61 = .ok (.iconst 0, 1) := by decide +kernel
theorem dX5_swapTables_62 : decode cX5_swapTables 62 = .ok (.putfield 59, 3) := by decide +kernel
theorem dX5_swapTables_65 : decode cX5_swapTables 65 = .ok (.aload_n 0, 1) := by decide +kernel
theorem dX5_swapTables_66 : decode cX5_swapTables 66 = .ok (.getfield 32, 3) := by decide +kernel
theorem dX5_swapTables_69 : decode cX5_swapTables 69 = .ok (.iconst 1, 1) := by decide +kernel
theorem dX5_swapTables_70 : decode cX5_swapTables 70 = .ok (.dup2, 1) := by decide +kernel
theorem dX5_swapTables_71 : decode cX5_swapTables 71 = .ok (.iaload, 1) := by decide +kernel
theorem dX5_swapTables_72 : decode cX5_swapTables 72 = .ok (.iconst 1, 1) := by decide +kernel
theorem dX5_swapTables_73 : decode cX5_swapTables 73 = .ok (.iadd, 1) := by decide +kernel
theorem dX5_swapTables_74 : decode cX5_swapTables 74 = .ok (.iastore, 1) := by decide +kernel
theorem dX5_swapTables_75 : decode cX5_swapTables 75 = .ok (.aload_n 0, 1) := by decide +kernel
theorem dX5_swapTables_76 : decode cX5_swapTables 76 = .ok (.getfield 12, 3) := by decide +kernel
theorem dX5_swapTables_79 : decode cX5_swapTables 79 = .ok (.invokevirtual 101, 3) := by decide +kernel
theorem dX5_swapTables_82 : decode cX5_swapTables 82 = .ok (.ireturn, 1) := by decide +kernel
set_option maxRecDepth 20000 in
theorem ggX5_giveCopyUp_X5_hasCopy : GoodIn wsX5_giveCopyUp wsX5_hasCopy := goodIn_r _ [6, 1, 18, 19, 20, 21, 22, 23, 24, 25, 26, 27, 28, 29, 30] (by rfl) (by decide +kernel)
set_option maxRecDepth 20000 in
theorem gX5_giveCopyUp_X5_hasCopy : GoodIn wsX5_giveCopyUp (wsV RX5 71 RX5 yX5_hasCopy wsX5_hasCopy) := goodIn_app (goodIn_r _ [2, 3, 4, 5] (by rfl) (by decide +kernel)) ggX5_giveCopyUp_X5_hasCopy
set_option maxRecDepth 20000 in
theorem ggX5_giveCopyUp_X5_endGivenUp : GoodIn wsX5_giveCopyUp wsX5_endGivenUp := goodIn_r _ [10, 1, 11, 18, 19, 20, 21, 22, 23, 24, 25, 26, 27, 28, 29, 30] (by rfl) (by decide +kernel)
set_option maxRecDepth 20000 in
theorem gX5_giveCopyUp_X5_endGivenUp : GoodIn wsX5_giveCopyUp (wsV RX5 85 RX5 yX5_endGivenUp wsX5_endGivenUp) := goodIn_app (goodIn_r _ [7, 8, 9, 5] (by rfl) (by decide +kernel)) ggX5_giveCopyUp_X5_endGivenUp
set_option maxRecDepth 20000 in
theorem ggX5_giveCopyUp_X3_count : GoodIn wsX5_giveCopyUp wsX3_count := goodIn_r _ [16, 17, 31] (by rfl) (by decide +kernel)
set_option maxRecDepth 20000 in
theorem gX5_giveCopyUp_X3_count : GoodIn wsX5_giveCopyUp (wsV RX5 101 RX3 yX3_count wsX3_count) := goodIn_app (goodIn_r _ [12, 13, 14, 15] (by rfl) (by decide +kernel)) ggX5_giveCopyUp_X3_count
theorem dX5_giveCopyUp_0 : decode cX5_giveCopyUp 0 = .ok (.aload_n 0, 1) := by decide +kernel
theorem dX5_giveCopyUp_1 : decode cX5_giveCopyUp 1 = .ok (.invokevirtual 71, 3) := by decide +kernel
theorem dX5_giveCopyUp_4 : decode cX5_giveCopyUp 4 = .ok (.ifCond .ne 6, 3) := by decide +kernel
theorem dX5_giveCopyUp_7 : decode cX5_giveCopyUp 7 = .ok (.bipush (-4), 2) := by decide +kernel
theorem dX5_giveCopyUp_9 : decode cX5_giveCopyUp 9 = .ok (.ireturn, 1) := by decide +kernel
theorem dX5_giveCopyUp_10 : decode cX5_giveCopyUp 10 = .ok (.aload_n 0, 1) := by decide +kernel
theorem dX5_giveCopyUp_11 : decode cX5_giveCopyUp 11 = .ok (.invokevirtual 85, 3) := by decide +kernel
theorem dX5_giveCopyUp_14 : decode cX5_giveCopyUp 14 = .ok (.aload_n 0, 1) := by decide +kernel
theorem dX5_giveCopyUp_15 : decode cX5_giveCopyUp 15 = .ok (.getfield 24, 3) := by decide +kernel
theorem dX5_giveCopyUp_18 : decode cX5_giveCopyUp 18 = .ok (.getfield 129, 3) := by decide +kernel
theorem dX5_giveCopyUp_21 : decode cX5_giveCopyUp 21 = .ok (.invokevirtual 101, 3) := by decide +kernel
theorem dX5_giveCopyUp_24 : decode cX5_giveCopyUp 24 = .ok (.ireturn, 1) := by decide +kernel
theorem dX5_endGivenUp_0 : decode cX5_endGivenUp 0 = .ok (.aload_n 0, 1) := by decide +kernel
theorem dX5_endGivenUp_1 : decode cX5_endGivenUp 1 = .ok (.getfield 24, 3) := by decide +kernel
theorem dX5_endGivenUp_4 : decode cX5_endGivenUp 4 = .ok (.iconst 0, 1) := by decide +kernel
theorem dX5_endGivenUp_5 : decode cX5_endGivenUp 5 = .ok (.putfield 59, 3) := by decide +kernel
theorem dX5_endGivenUp_8 : decode cX5_endGivenUp 8 = .ok (.aload_n 0, 1) := by decide +kernel
theorem dX5_endGivenUp_9 : decode cX5_endGivenUp 9 = .ok (.getfield 32, 3) := by decide +kernel
theorem dX5_endGivenUp_12 : decode cX5_endGivenUp 12 = .ok (.iconst 2, 1) := by decide +kernel
theorem dX5_endGivenUp_13 : decode cX5_endGivenUp 13 = .ok (.dup2, 1) := by decide +kernel
theorem dX5_endGivenUp_14 : decode cX5_endGivenUp 14 = .ok (.iaload, 1) := by decide +kernel
theorem dX5_endGivenUp_15 : decode cX5_endGivenUp 15 = .ok (.iconst 1, 1) := by decide +kernel
theorem dX5_endGivenUp_16 : decode cX5_endGivenUp 16 = .ok (.iadd, 1) := by decide +kernel
theorem dX5_endGivenUp_17 : decode cX5_endGivenUp 17 = .ok (.iastore, 1) := by decide +kernel
theorem dX5_endGivenUp_18 : decode cX5_endGivenUp 18 = .ok (.return_, 1) := by decide +kernel
set_option maxRecDepth 20000 in
theorem ggX5_changeSetting_X6_isSetting : GoodIn wsX5_changeSetting wsX6_isSetting := goodIn_r _ [4, 5, 6, 3, 7] (by rfl) (by decide +kernel)
set_option maxRecDepth 20000 in
theorem gX5_changeSetting_X6_isSetting_n154 : GoodIn wsX5_changeSetting (wsX6_isSetting) := ggX5_changeSetting_X6_isSetting
set_option maxRecDepth 20000 in
theorem ggX5_changeSetting_X6_isIn : GoodIn wsX5_changeSetting wsX6_isIn := goodIn_r _ [7] (by rfl) (by decide +kernel)
set_option maxRecDepth 20000 in
theorem gX5_changeSetting_X6_isIn_n163 : GoodIn wsX5_changeSetting (wsX6_isIn) := ggX5_changeSetting_X6_isIn
theorem dX5_changeSetting_0 : decode cX5_changeSetting 0 = .ok (.iload_n 1, 1) := by decide +kernel
theorem dX5_changeSetting_1 : decode cX5_changeSetting 1 = .ok (.invokestatic 154, 3) := by decide +kernel
theorem dX5_changeSetting_4 : decode cX5_changeSetting 4 = .ok (.ifCond .ne 5, 3) := by decide +kernel
theorem dX5_changeSetting_7 : decode cX5_changeSetting 7 = .ok (.iconst (-1), 1) := by decide +kernel
theorem dX5_changeSetting_8 : decode cX5_changeSetting 8 = .ok (.ireturn, 1) := by decide +kernel
theorem dX5_changeSetting_9 : decode cX5_changeSetting 9 = .ok (.iload_n 2, 1) := by decide +kernel
theorem dX5_changeSetting_10 : decode cX5_changeSetting 10 = .ok (.getstatic 157, 3) := by decide +kernel
theorem dX5_changeSetting_13 : decode cX5_changeSetting 13 = .ok (.iload_n 1, 1) := by decide +kernel
theorem dX5_changeSetting_14 : decode cX5_changeSetting 14 = .ok (.iaload, 1) := by decide +kernel
theorem dX5_changeSetting_15 : decode cX5_changeSetting 15 = .ok (.getstatic 160, 3) := by decide +kernel
theorem dX5_changeSetting_18 : decode cX5_changeSetting 18 = .ok (.iload_n 1, 1) := by decide +kernel
theorem dX5_changeSetting_19 : decode cX5_changeSetting 19 = .ok (.iaload, 1) := by decide +kernel
theorem dX5_changeSetting_20 : decode cX5_changeSetting 20 = .ok (.invokestatic 163, 3) := by decide +kernel
theorem dX5_changeSetting_23 : decode cX5_changeSetting 23 = .ok (.ifCond .ne 6, 3) := by decide +kernel
theorem dX5_changeSetting_26 : decode cX5_changeSetting 26 = .ok (.bipush (-2), 2) := by decide +kernel
theorem dX5_changeSetting_28 : decode cX5_changeSetting 28 = .ok (.ireturn, 1) := by decide +kernel
theorem dX5_changeSetting_29 : decode cX5_changeSetting 29 = .ok (.aload_n 0, 1) := by decide +kernel
theorem dX5_changeSetting_30 : decode cX5_changeSetting 30 = .ok (.getfield 28, 3) := by decide +kernel
theorem dX5_changeSetting_33 : decode cX5_changeSetting 33 = .ok (.iload_n 1, 1) := by decide +kernel
theorem dX5_changeSetting_34 : decode cX5_changeSetting 34 = .ok (.iaload, 1) := by decide +kernel
theorem dX5_changeSetting_35 : decode cX5_changeSetting 35 = .ok (.istore_n 3, 1) := by decide +kernel
theorem dX5_changeSetting_36 : decode cX5_changeSetting 36 = .ok (.aload_n 0, 1) := by decide +kernel
theorem dX5_changeSetting_37 : decode cX5_changeSetting 37 = .ok (.getfield 28, 3) := by decide +kernel
theorem dX5_changeSetting_40 : decode cX5_changeSetting 40 = .ok (.iload_n 1, 1) := by decide +kernel
theorem dX5_changeSetting_41 : decode cX5_changeSetting 41 = .ok (.iload_n 2, 1) := by decide +kernel
theorem dX5_changeSetting_42 : decode cX5_changeSetting 42 = .ok (.iastore, 1) := by decide +kernel
theorem dX5_changeSetting_43 : decode cX5_changeSetting 43 = .ok (.iload_n 3, 1) := by decide +kernel
theorem dX5_changeSetting_44 : decode cX5_changeSetting 44 = .ok (.ireturn, 1) := by decide +kernel
theorem dX5_hasCopy_0 : decode cX5_hasCopy 0 = .ok (.aload_n 0, 1) := by decide +kernel
theorem dX5_hasCopy_1 : decode cX5_hasCopy 1 = .ok (.getfield 24, 3) := by decide +kernel
theorem dX5_hasCopy_4 : decode cX5_hasCopy 4 = .ok (.getfield 59, 3) := by decide +kernel
theorem dX5_hasCopy_7 : decode cX5_hasCopy 7 = .ok (.ifCond .eq 7, 3) := by decide +kernel
theorem dX5_hasCopy_10 : decode cX5_hasCopy 10 = .ok (.iconst 1, 1) := by decide +kernel
theorem dX5_hasCopy_11 : decode cX5_hasCopy 11 = .ok (.goto 4, 3) := by decide +kernel
theorem dX5_hasCopy_14 : decode cX5_hasCopy 14 = .ok (.iconst 0, 1) := by decide +kernel
theorem dX5_hasCopy_15 : decode cX5_hasCopy 15 = .ok (.ireturn, 1) := by decide +kernel
set_option maxRecDepth 20000 in
theorem ggX5_rowsOf_X5_hasCopy : GoodIn wsX5_rowsOf wsX5_hasCopy := goodIn_r _ [9, 2, 10, 11, 12, 13, 14, 15, 16, 17, 18, 19, 20, 21, 22] (by rfl) (by decide +kernel)
set_option maxRecDepth 20000 in
theorem gX5_rowsOf_X5_hasCopy : GoodIn wsX5_rowsOf (wsV RX5 71 RX5 yX5_hasCopy wsX5_hasCopy) := goodIn_app (goodIn_r _ [5, 6, 7, 8] (by rfl) (by decide +kernel)) ggX5_rowsOf_X5_hasCopy
theorem dX5_rowsOf_0 : decode cX5_rowsOf 0 = .ok (.iload_n 1, 1) := by decide +kernel
theorem dX5_rowsOf_1 : decode cX5_rowsOf 1 = .ok (.lookupswitch 51 #[(0, 27), (1, 32)], 27) := by decide +kernel
theorem dX5_rowsOf_28 : decode cX5_rowsOf 28 = .ok (.aload_n 0, 1) := by decide +kernel
theorem dX5_rowsOf_29 : decode cX5_rowsOf 29 = .ok (.getfield 12, 3) := by decide +kernel
theorem dX5_rowsOf_32 : decode cX5_rowsOf 32 = .ok (.areturn, 1) := by decide +kernel
theorem dX5_rowsOf_33 : decode cX5_rowsOf 33 = .ok (.aload_n 0, 1) := by decide +kernel
theorem dX5_rowsOf_34 : decode cX5_rowsOf 34 = .ok (.invokevirtual 71, 3) := by decide +kernel
theorem dX5_rowsOf_37 : decode cX5_rowsOf 37 = .ok (.ifCond .eq 13, 3) := by decide +kernel
theorem dX5_rowsOf_40 : decode cX5_rowsOf 40 = .ok (.aload_n 0, 1) := by decide +kernel
theorem dX5_rowsOf_41 : decode cX5_rowsOf 41 = .ok (.getfield 24, 3) := by decide +kernel
theorem dX5_rowsOf_44 : decode cX5_rowsOf 44 = .ok (.getfield 129, 3) := by decide +kernel
theorem dX5_rowsOf_47 : decode cX5_rowsOf 47 = .ok (.goto 4, 3) := by decide +kernel
theorem dX5_rowsOf_50 : decode cX5_rowsOf 50 = .ok (.aconst_null, 1) := by decide +kernel
theorem dX5_rowsOf_51 : decode cX5_rowsOf 51 = .ok (.areturn, 1) := by decide +kernel
theorem dX5_rowsOf_52 : decode cX5_rowsOf 52 = .ok (.aload_n 0, 1) := by decide +kernel
theorem dX5_rowsOf_53 : decode cX5_rowsOf 53 = .ok (.getfield 39, 3) := by decide +kernel
theorem dX5_rowsOf_56 : decode cX5_rowsOf 56 = .ok (.ifCond .eq 10, 3) := by decide +kernel
theorem dX5_rowsOf_59 : decode cX5_rowsOf 59 = .ok (.aload_n 0, 1) := by decide +kernel
theorem dX5_rowsOf_60 : decode cX5_rowsOf 60 = .ok (.getfield 18, 3) := by decide +kernel
theorem dX5_rowsOf_63 : decode cX5_rowsOf 63 = .ok (.goto 4, 3) := by decide +kernel
theorem dX5_rowsOf_66 : decode cX5_rowsOf 66 = .ok (.aconst_null, 1) := by decide +kernel
theorem dX5_rowsOf_67 : decode cX5_rowsOf 67 = .ok (.areturn, 1) := by decide +kernel
set_option maxRecDepth 20000 in
theorem ggX5_differsAt_X3_at : GoodIn wsX5_differsAt wsX3_at := goodIn_r _ [7, 8, 25] (by rfl) (by decide +kernel)
set_option maxRecDepth 20000 in
theorem gX5_differsAt_X3_at : GoodIn wsX5_differsAt (wsV RX5 67 RX3 yX3_at wsX3_at) := goodIn_app (goodIn_r _ [3, 4, 5, 6] (by rfl) (by decide +kernel)) ggX5_differsAt_X3_at
set_option maxRecDepth 20000 in
theorem ggX5_differsAt_X6_changedValue : GoodIn wsX5_differsAt wsX6_changedValue := goodIn_r _ [11] (by rfl) (by decide +kernel)
set_option maxRecDepth 20000 in
theorem gX5_differsAt_X6_changedValue_n138 : GoodIn wsX5_differsAt (wsX6_changedValue) := ggX5_differsAt_X6_changedValue
theorem dX5_differsAt_0 : decode cX5_differsAt 0 = .ok (.aload_n 0, 1) := by decide +kernel
theorem dX5_differsAt_1 : decode cX5_differsAt 1 = .ok (.getfield 24, 3) := by decide +kernel
theorem dX5_differsAt_4 : decode cX5_differsAt 4 = .ok (.getfield 129, 3) := by decide +kernel
theorem dX5_differsAt_7 : decode cX5_differsAt 7 = .ok (.iload_n 1, 1) := by decide +kernel
theorem dX5_differsAt_8 : decode cX5_differsAt 8 = .ok (.invokevirtual 67, 3) := by decide +kernel
theorem dX5_differsAt_11 : decode cX5_differsAt 11 = .ok (.aload_n 0, 1) := by decide +kernel
theorem dX5_differsAt_12 : decode cX5_differsAt 12 = .ok (.getfield 24, 3) := by decide +kernel
theorem dX5_differsAt_15 : decode cX5_differsAt 15 = .ok (.getfield 132, 3) := by decide +kernel
theorem dX5_differsAt_18 : decode cX5_differsAt 18 = .ok (.iload_n 1, 1) := by decide +kernel
theorem dX5_differsAt_19 : decode cX5_differsAt 19 = .ok (.aload_n 0, 1) := by decide +kernel
theorem dX5_differsAt_20 : decode cX5_differsAt 20 = .ok (.getfield 12, 3) := by decide +kernel
theorem dX5_differsAt_23 : decode cX5_differsAt 23 = .ok (.iload_n 1, 1) := by decide +kernel
theorem dX5_differsAt_24 : decode cX5_differsAt 24 = .ok (.invokevirtual 67, 3) := by decide +kernel
theorem dX5_differsAt_27 : decode cX5_differsAt 27 = .ok (.invokestatic 138, 3) := by decide +kernel
theorem dX5_differsAt_30 : decode cX5_differsAt 30 = .ok (.if_icmp .eq 7, 3) := by decide +kernel
theorem dX5_differsAt_33 : decode cX5_differsAt 33 = .ok (.iconst 1, 1) := by decide +kernel
theorem dX5_differsAt_34 : decode cX5_differsAt 34 = .ok (.goto 4, 3) := by decide +kernel
theorem dX5_differsAt_37 : decode cX5_differsAt 37 = .ok (.iconst 0, 1) := by decide +kernel
theorem dX5_differsAt_38 : decode cX5_differsAt 38 = .ok (.ireturn, 1) := by decide +kernel
theorem dX5_canBecomeReady_0 : decode cX5_canBecomeReady 0 = .ok (.aload_n 0, 1) := by decide +kernel
theorem dX5_canBecomeReady_1 : decode cX5_canBecomeReady 1 = .ok (.getfield 24, 3) := by decide +kernel
theorem dX5_canBecomeReady_4 : decode cX5_canBecomeReady 4 = .ok (.getfield 59, 3) := by decide +kernel
theorem dX5_canBecomeReady_7 : decode cX5_canBecomeReady 7 = .ok (.iconst 1, 1) := by decide +kernel
theorem dX5_canBecomeReady_8 : decode cX5_canBecomeReady 8 = .ok (.if_icmp .eq 14, 3) := by decide +kernel
theorem dX5_canBecomeReady_11 : decode cX5_canBecomeReady 11 = .ok (.aload_n 0, 1) := by decide +kernel
theorem dX5_canBecomeReady_12 : decode cX5_canBecomeReady 12 = .ok (.getfield 24, 3) := by decide +kernel
theorem dX5_canBecomeReady_15 : decode cX5_canBecomeReady 15 = .ok (.getfield 59, 3) := by decide +kernel
theorem dX5_canBecomeReady_18 : decode cX5_canBecomeReady 18 = .ok (.iconst 2, 1) := by decide +kernel
theorem dX5_canBecomeReady_19 : decode cX5_canBecomeReady 19 = .ok (.if_icmp .ne 7, 3) := by decide +kernel
theorem dX5_canBecomeReady_22 : decode cX5_canBecomeReady 22 = .ok (.iconst 1, 1) := by decide +kernel
theorem dX5_canBecomeReady_23 : decode cX5_canBecomeReady 23 = .ok (.goto 4, 3) := by decide +kernel
theorem dX5_canBecomeReady_26 : decode cX5_canBecomeReady 26 = .ok (.iconst 0, 1) := by decide +kernel
theorem dX5_canBecomeReady_27 : decode cX5_canBecomeReady 27 = .ok (.ireturn, 1) := by decide +kernel
set_option maxRecDepth 20000 in
theorem ggX5_ticksUntilReady_X5_makeTick : GoodIn wsX5_ticksUntilReady wsX5_makeTick := goodIn_r _ [6, 7, 1, 8, 9, 10, 5, 11, 12, 13, 14, 15, 16, 17, 18, 19, 20, 21, 22, 23, 24, 25, 26, 27, 28, 29, 30, 31, 32, 33, 34, 35, 36, 37, 38, 39, 40, 41, 42, 43, 44, 45, 46, 47, 48, 49, 50, 51, 52, 53, 54, 55, 56, 57, 58, 59, 60, 61, 62, 63, 64, 65, 66, 67, 68, 69, 70, 71, 72, 73, 74, 75, 76, 77, 78, 79, 80, 81, 82, 83, 84, 85, 86, 87] (by rfl) (by decide +kernel)
set_option maxRecDepth 20000 in
theorem gX5_ticksUntilReady_X5_makeTick : GoodIn wsX5_ticksUntilReady (wsV RX5 108 RX5 yX5_makeTick wsX5_makeTick) := goodIn_app (goodIn_r _ [2, 3, 4, 5] (by rfl) (by decide +kernel)) ggX5_ticksUntilReady_X5_makeTick
theorem dX5_ticksUntilReady_0 : decode cX5_ticksUntilReady 0 = .ok (.iconst 0, 1) := by decide +kernel
theorem dX5_ticksUntilReady_1 : decode cX5_ticksUntilReady 1 = .ok (.istore_n 2, 1) := by decide +kernel
theorem dX5_ticksUntilReady_2 : decode cX5_ticksUntilReady 2 = .ok (.iload_n 2, 1) := by decide +kernel
theorem dX5_ticksUntilReady_3 : decode cX5_ticksUntilReady 3 = .ok (.iload_n 1, 1) := by decide +kernel
theorem dX5_ticksUntilReady_4 : decode cX5_ticksUntilReady 4 = .ok (.if_icmp .gt 39, 3) := by decide +kernel
theorem dX5_ticksUntilReady_7 : decode cX5_ticksUntilReady 7 = .ok (.aload_n 0, 1) := by decide +kernel
theorem dX5_ticksUntilReady_8 : decode cX5_ticksUntilReady 8 = .ok (.getfield 24, 3) := by decide +kernel
theorem dX5_ticksUntilReady_11 : decode cX5_ticksUntilReady 11 = .ok (.getfield 59, 3) := by decide +kernel
theorem dX5_ticksUntilReady_14 : decode cX5_ticksUntilReady 14 = .ok (.iconst 2, 1) := by decide +kernel
theorem dX5_ticksUntilReady_15 : decode cX5_ticksUntilReady 15 = .ok (.if_icmp .ne 18, 3) := by decide +kernel
theorem dX5_ticksUntilReady_18 : decode cX5_ticksUntilReady 18 = .ok (.aload_n 0, 1) := by decide +kernel
theorem dX5_ticksUntilReady_19 : decode cX5_ticksUntilReady 19 = .ok (.getfield 24, 3) := by decide +kernel
theorem dX5_ticksUntilReady_22 : decode cX5_ticksUntilReady 22 = .ok (.getfield 75, 3) := by decide +kernel
theorem dX5_ticksUntilReady_25 : decode cX5_ticksUntilReady 25 = .ok (.getfield 123, 3) := by decide +kernel
theorem dX5_ticksUntilReady_28 : decode cX5_ticksUntilReady 28 = .ok (.ifCond .ne 5, 3) := by decide +kernel
theorem dX5_ticksUntilReady_31 : decode cX5_ticksUntilReady 31 = .ok (.iload_n 2, 1) := by decide +kernel
theorem dX5_ticksUntilReady_32 : decode cX5_ticksUntilReady 32 = .ok (.ireturn, 1) := by decide +kernel
theorem dX5_ticksUntilReady_33 : decode cX5_ticksUntilReady 33 = .ok (.aload_n 0, 1) := by decide +kernel
theorem dX5_ticksUntilReady_34 : decode cX5_ticksUntilReady 34 = .ok (.invokevirtual 108, 3) := by decide +kernel
theorem dX5_ticksUntilReady_37 : decode cX5_ticksUntilReady 37 = .ok (.iinc 2 1, 3) := by decide +kernel
theorem dX5_ticksUntilReady_40 : decode cX5_ticksUntilReady 40 = .ok (.goto (-38), 3) := by decide +kernel
theorem dX5_ticksUntilReady_43 : decode cX5_ticksUntilReady 43 = .ok (.bipush (-5), 2) := by decide +kernel
theorem dX5_ticksUntilReady_45 : decode cX5_ticksUntilReady 45 = .ok (.ireturn, 1) := by decide +kernel
set_option maxRecDepth 20000 in
theorem ggX6_init_X5_init : GoodIn wsX6_init wsX5_init := goodIn_r _ [19, 20, 2, 3, 21, 22, 23, 24, 25, 26, 27, 28, 29, 30, 31, 32, 33, 34, 35, 36, 37, 38, 39, 40, 41, 42, 43, 44, 45, 46, 47, 48, 49, 50, 51, 52, 53, 54, 55, 56, 57, 90, 68, 69, 70, 71, 72, 73, 91, 92, 93, 94, 95, 96, 97, 98, 99, 100, 101] (by rfl) (by decide +kernel)
set_option maxRecDepth 20000 in
theorem gX6_init_X5_init_n9 : GoodIn wsX6_init (wsX5_init) := ggX6_init_X5_init
set_option maxRecDepth 20000 in
theorem ggX6_init_X1_init : GoodIn wsX6_init wsX1_init := goodIn_r _ [60, 61, 2, 3, 62, 63, 5, 6, 18, 19, 20, 21, 22, 23, 24, 25, 26, 27, 28, 29, 30, 31, 32, 33, 34, 35, 36, 37, 38, 39, 40, 41, 42, 43, 44, 45, 46, 47, 48, 49, 50, 51, 52, 53, 54, 55, 56, 57, 80, 81, 82, 68, 69, 70, 71, 72, 73, 90, 91, 92, 93, 94, 95, 96, 97, 98, 99, 100, 101] (by rfl) (by decide +kernel)
set_option maxRecDepth 20000 in
theorem gX6_init_X1_init : GoodIn wsX6_init (wsX1_init) := ggX6_init_X1_init
set_option maxRecDepth 20000 in
theorem ggX6_init_X4_init : GoodIn wsX6_init wsX4_init := goodIn_r _ [65, 66, 2, 3, 30, 67, 83, 84, 85, 86, 87, 88, 89] (by rfl) (by decide +kernel)
set_option maxRecDepth 20000 in
theorem gX6_init_X4_init_n31 : GoodIn wsX6_init (wsX4_init) := ggX6_init_X4_init
theorem dX6_init_0 : decode cX6_init 0 = .ok (.aload_n 0, 1) := by decide +kernel
theorem dX6_init_1 : decode cX6_init 1 = .ok (.invokespecial 1, 3) := by decide +kernel
theorem dX6_init_4 : decode cX6_init 4 = .ok (.aload_n 0, 1) := by decide +kernel
theorem dX6_init_5 : decode cX6_init 5 = .ok (.new 7, 3) := by decide +kernel
theorem dX6_init_8 : decode cX6_init 8 = .ok (.dup, 1) := by decide +kernel
theorem dX6_init_9 : decode cX6_init 9 = .ok (.invokespecial 9, 3) := by decide +kernel
theorem dX6_init_12 : decode cX6_init 12 = .ok (.putfield 10, 3) := by decide +kernel
theorem dX6_init_15 : decode cX6_init 15 = .ok (.aload_n 0, 1) := by decide +kernel
theorem dX6_init_16 : decode cX6_init 16 = .ok (.new 7, 3) := by decide +kernel
theorem dX6_init_19 : decode cX6_init 19 = .ok (.dup, 1) := by decide +kernel
theorem dX6_init_20 : decode cX6_init 20 = .ok (.invokespecial 9, 3) := by decide +kernel
theorem dX6_init_23 : decode cX6_init 23 = .ok (.putfield 16, 3) := by decide +kernel
theorem dX6_init_26 : decode cX6_init 26 = .ok (.aload_n 0, 1) := by decide +kernel
theorem dX6_init_27 : decode cX6_init 27 = .ok (.new 7, 3) := by decide +kernel
theorem dX6_init_30 : decode cX6_init 30 = .ok (.dup, 1) := by decide +kernel
theorem dX6_init_31 : decode cX6_init 31 = .ok (.invokespecial 9, 3) := by decide +kernel
theorem dX6_init_34 : decode cX6_init 34 = .ok (.putfield 19, 3) := by decide +kernel
theorem dX6_init_37 : decode cX6_init 37 = .ok (.aload_n 0, 1) := by decide +kernel
theorem dX6_init_38 : decode cX6_init 38 = .ok (.new 22, 3) := by decide +kernel
theorem dX6_init_41 : decode cX6_init 41 = .ok (.dup, 1) := by decide +kernel
theorem dX6_init_42 : decode cX6_init 42 = .ok (.invokespecial 24, 3) := by decide +kernel
theorem dX6_init_45 : decode cX6_init 45 = .ok (.putfield 25, 3) := by decide +kernel
theorem dX6_init_48 : decode cX6_init 48 = .ok (.aload_n 0, 1) := by decide +kernel
theorem dX6_init_49 : decode cX6_init 49 = .ok (.new 29, 3) := by decide +kernel
theorem dX6_init_52 : decode cX6_init 52 = .ok (.dup, 1) := by decide +kernel
theorem dX6_init_53 : decode cX6_init 53 = .ok (.invokespecial 31, 3) := by decide +kernel
theorem dX6_init_56 : decode cX6_init 56 = .ok (.putfield 32, 3) := by decide +kernel
theorem dX6_init_59 : decode cX6_init 59 = .ok (.return_, 1) := by decide +kernel
set_option maxRecDepth 20000 in
theorem ggX6_put_X1_prepare : GoodIn wsX6_put wsX1_prepare := goodIn_r _ [7, 8, 9, 10, 11, 12, 6, 13, 14, 15, 16, 17, 18, 19, 20, 21, 22, 23, 24, 25, 26, 27, 28, 29, 30, 31, 32, 33, 34, 35, 36, 37, 38, 39, 40, 41, 42, 43, 44, 45, 46, 47, 48, 49, 50, 51, 52, 53, 54, 55, 56, 57, 58, 59, 117, 118, 119, 120, 121, 122, 123, 124, 125, 126, 127, 128, 129, 130, 131, 132, 133, 134, 135, 136, 137] (by rfl) (by decide +kernel)
set_option maxRecDepth 20000 in
theorem gX6_put_X1_prepare : GoodIn wsX6_put (wsV RX6 36 RX1 yX1_prepare wsX1_prepare) := goodIn_app (goodIn_r _ [3, 4, 5, 6] (by rfl) (by decide +kernel)) ggX6_put_X1_prepare
set_option maxRecDepth 20000 in
theorem ggX6_put_X5_putRow : GoodIn wsX6_put wsX5_putRow := goodIn_r _ [63, 23, 64, 65, 66, 67, 68, 69, 70, 71, 72, 73, 74, 18, 75, 24, 20, 76, 77, 78, 79, 80, 81, 82, 53, 83, 59, 55, 57, 84, 85, 86, 87, 58, 88, 89, 90, 91, 29, 92, 93, 94, 33, 95, 35, 96, 97, 98, 99, 120, 121, 122, 123, 124, 125, 127, 128, 129, 130, 131, 132, 133, 134, 135, 136, 137, 126] (by rfl) (by decide +kernel)
set_option maxRecDepth 20000 in
theorem gX6_put_X5_putRow : GoodIn wsX6_put (wsV RX6 40 RX5 yX5_putRow wsX5_putRow) := goodIn_app (goodIn_r _ [60, 61, 62, 18] (by rfl) (by decide +kernel)) ggX6_put_X5_putRow
set_option maxRecDepth 20000 in
theorem ggX6_put_X6_recorded : GoodIn wsX6_put wsX6_recorded := goodIn_r _ [103, 1, 104, 105, 65, 106, 107, 108, 109, 6, 110, 9, 14, 10, 11, 12, 13, 111, 112, 113, 114, 115, 116, 117, 118, 119] (by rfl) (by decide +kernel)
set_option maxRecDepth 20000 in
theorem gX6_put_X6_recorded : GoodIn wsX6_put (wsV RX6 44 RX6 yX6_recorded wsX6_recorded) := goodIn_app (goodIn_r _ [100, 101, 102, 65] (by rfl) (by decide +kernel)) ggX6_put_X6_recorded
theorem dX6_put_0 : decode cX6_put 0 = .ok (.aload_n 0, 1) := by decide +kernel
theorem dX6_put_1 : decode cX6_put 1 = .ok (.getfield 25, 3) := by decide +kernel
theorem dX6_put_4 : decode cX6_put 4 = .ok (.aload_n 0, 1) := by decide +kernel
theorem dX6_put_5 : decode cX6_put 5 = .ok (.getfield 10, 3) := by decide +kernel
theorem dX6_put_8 : decode cX6_put 8 = .ok (.invokevirtual 36, 3) := by decide +kernel
theorem dX6_put_11 : decode cX6_put 11 = .ok (.aload_n 0, 1) := by decide +kernel
theorem dX6_put_12 : decode cX6_put 12 = .ok (.aload_n 0, 1) := by decide +kernel
theorem dX6_put_13 : decode cX6_put 13 = .ok (.getfield 10, 3) := by decide +kernel
theorem dX6_put_16 : decode cX6_put 16 = .ok (.iload_n 1, 1) := by decide +kernel
theorem dX6_put_17 : decode cX6_put 17 = .ok (.iload_n 2, 1) := by decide +kernel
theorem dX6_put_18 : decode cX6_put 18 = .ok (.invokevirtual 40, 3) := by decide +kernel
theorem dX6_put_21 : decode cX6_put 21 = .ok (.invokevirtual 44, 3) := by decide +kernel
theorem dX6_put_24 : decode cX6_put 24 = .ok (.ireturn, 1) := by decide +kernel
set_option maxRecDepth 20000 in
theorem ggX6_erase_X1_prepare : GoodIn wsX6_erase wsX1_prepare := goodIn_r _ [7, 8, 9, 10, 11, 12, 6, 13, 14, 15, 16, 17, 18, 19, 20, 21, 22, 23, 24, 25, 26, 27, 28, 29, 30, 31, 32, 33, 34, 35, 36, 37, 38, 39, 40, 41, 42, 43, 44, 45, 46, 47, 48, 49, 50, 51, 52, 53, 54, 55, 56, 57, 58, 59, 115, 116, 117, 118, 119, 120, 121, 122, 123, 124, 125, 126, 127, 128, 129, 130, 131, 132, 133, 134, 135] (by rfl) (by decide +kernel)
set_option maxRecDepth 20000 in
theorem gX6_erase_X1_prepare : GoodIn wsX6_erase (wsV RX6 36 RX1 yX1_prepare wsX1_prepare) := goodIn_app (goodIn_r _ [3, 4, 5, 6] (by rfl) (by decide +kernel)) ggX6_erase_X1_prepare
set_option maxRecDepth 20000 in
theorem ggX6_erase_X5_eraseRow : GoodIn wsX6_erase wsX5_eraseRow := goodIn_r _ [63, 23, 20, 64, 65, 66, 67, 68, 69, 70, 71, 72, 33, 73, 35, 74, 75, 76, 18, 77, 24, 78, 79, 80, 81, 82, 83, 84, 53, 85, 59, 55, 57, 86, 87, 88, 89, 58, 90, 91, 92, 93, 29, 94, 95, 96, 97, 118, 119, 120, 121, 122, 123, 125, 126, 127, 128, 129, 130, 131, 124, 132, 133, 134, 135] (by rfl) (by decide +kernel)
set_option maxRecDepth 20000 in
theorem gX6_erase_X5_eraseRow : GoodIn wsX6_erase (wsV RX6 48 RX5 yX5_eraseRow wsX5_eraseRow) := goodIn_app (goodIn_r _ [60, 61, 62, 18] (by rfl) (by decide +kernel)) ggX6_erase_X5_eraseRow
set_option maxRecDepth 20000 in
theorem ggX6_erase_X6_recorded : GoodIn wsX6_erase wsX6_recorded := goodIn_r _ [101, 1, 102, 103, 65, 104, 105, 106, 107, 6, 108, 9, 14, 10, 11, 12, 13, 109, 110, 111, 112, 113, 114, 115, 116, 117] (by rfl) (by decide +kernel)
set_option maxRecDepth 20000 in
theorem gX6_erase_X6_recorded : GoodIn wsX6_erase (wsV RX6 44 RX6 yX6_recorded wsX6_recorded) := goodIn_app (goodIn_r _ [98, 99, 100, 65] (by rfl) (by decide +kernel)) ggX6_erase_X6_recorded
theorem dX6_erase_0 : decode cX6_erase 0 = .ok (.aload_n 0, 1) := by decide +kernel
theorem dX6_erase_1 : decode cX6_erase 1 = .ok (.getfield 25, 3) := by decide +kernel
theorem dX6_erase_4 : decode cX6_erase 4 = .ok (.aload_n 0, 1) := by decide +kernel
theorem dX6_erase_5 : decode cX6_erase 5 = .ok (.getfield 10, 3) := by decide +kernel
theorem dX6_erase_8 : decode cX6_erase 8 = .ok (.invokevirtual 36, 3) := by decide +kernel
theorem dX6_erase_11 : decode cX6_erase 11 = .ok (.aload_n 0, 1) := by decide +kernel
theorem dX6_erase_12 : decode cX6_erase 12 = .ok (.aload_n 0, 1) := by decide +kernel
theorem dX6_erase_13 : decode cX6_erase 13 = .ok (.getfield 10, 3) := by decide +kernel
theorem dX6_erase_16 : decode cX6_erase 16 = .ok (.iload_n 1, 1) := by decide +kernel
theorem dX6_erase_17 : decode cX6_erase 17 = .ok (.invokevirtual 48, 3) := by decide +kernel
theorem dX6_erase_20 : decode cX6_erase 20 = .ok (.invokevirtual 44, 3) := by decide +kernel
theorem dX6_erase_23 : decode cX6_erase 23 = .ok (.ireturn, 1) := by decide +kernel
set_option maxRecDepth 20000 in
theorem ggX6_begin_X1_prepare : GoodIn wsX6_begin wsX1_prepare := goodIn_r _ [7, 8, 9, 10, 11, 12, 6, 13, 14, 15, 16, 17, 18, 19, 20, 21, 22, 23, 24, 25, 26, 27, 28, 29, 30, 31, 32, 33, 34, 35, 36, 37, 38, 39, 40, 41, 42, 43, 44, 45, 46, 47, 48, 49, 50, 51, 52, 53, 54, 55, 56, 57, 58, 59, 113, 114, 115, 116, 117, 118, 119, 120, 121, 122, 123, 124, 125, 126, 127, 128, 129, 130, 131, 132, 133] (by rfl) (by decide +kernel)
set_option maxRecDepth 20000 in
theorem gX6_begin_X1_prepare : GoodIn wsX6_begin (wsV RX6 36 RX1 yX1_prepare wsX1_prepare) := goodIn_app (goodIn_r _ [3, 4, 5, 6] (by rfl) (by decide +kernel)) ggX6_begin_X1_prepare
set_option maxRecDepth 20000 in
theorem ggX6_begin_X5_beginCopy : GoodIn wsX6_begin wsX5_beginCopy := goodIn_r _ [63, 23, 29, 20, 64, 65, 66, 67, 68, 69, 70, 71, 72, 73, 74, 18, 75, 76, 77, 78, 40, 79, 42, 43, 44, 45, 46, 47, 80, 81, 82, 33, 83, 35, 84, 85, 86, 87, 88, 89, 90, 53, 91, 58, 59, 92, 93, 94, 95, 116, 117, 118, 119, 120, 121, 123, 124, 125, 126, 127, 128, 129, 122, 130, 131, 132, 133] (by rfl) (by decide +kernel)
set_option maxRecDepth 20000 in
theorem gX6_begin_X5_beginCopy : GoodIn wsX6_begin (wsV RX6 51 RX5 yX5_beginCopy wsX5_beginCopy) := goodIn_app (goodIn_r _ [60, 61, 62, 18] (by rfl) (by decide +kernel)) ggX6_begin_X5_beginCopy
set_option maxRecDepth 20000 in
theorem ggX6_begin_X6_recorded : GoodIn wsX6_begin wsX6_recorded := goodIn_r _ [99, 1, 100, 101, 65, 102, 103, 104, 105, 6, 106, 9, 14, 10, 11, 12, 13, 107, 108, 109, 110, 111, 112, 113, 114, 115] (by rfl) (by decide +kernel)
set_option maxRecDepth 20000 in
theorem gX6_begin_X6_recorded : GoodIn wsX6_begin (wsV RX6 44 RX6 yX6_recorded wsX6_recorded) := goodIn_app (goodIn_r _ [96, 97, 98, 65] (by rfl) (by decide +kernel)) ggX6_begin_X6_recorded
theorem dX6_begin_0 : decode cX6_begin 0 = .ok (.aload_n 0, 1) := by decide +kernel
theorem dX6_begin_1 : decode cX6_begin 1 = .ok (.getfield 25, 3) := by decide +kernel
theorem dX6_begin_4 : decode cX6_begin 4 = .ok (.aload_n 0, 1) := by decide +kernel
theorem dX6_begin_5 : decode cX6_begin 5 = .ok (.getfield 10, 3) := by decide +kernel
theorem dX6_begin_8 : decode cX6_begin 8 = .ok (.invokevirtual 36, 3) := by decide +kernel
theorem dX6_begin_11 : decode cX6_begin 11 = .ok (.aload_n 0, 1) := by decide +kernel
theorem dX6_begin_12 : decode cX6_begin 12 = .ok (.aload_n 0, 1) := by decide +kernel
theorem dX6_begin_13 : decode cX6_begin 13 = .ok (.getfield 10, 3) := by decide +kernel
theorem dX6_begin_16 : decode cX6_begin 16 = .ok (.iload_n 1, 1) := by decide +kernel
theorem dX6_begin_17 : decode cX6_begin 17 = .ok (.iload_n 2, 1) := by decide +kernel
theorem dX6_begin_18 : decode cX6_begin 18 = .ok (.invokevirtual 51, 3) := by decide +kernel
theorem dX6_begin_21 : decode cX6_begin 21 = .ok (.invokevirtual 44, 3) := by decide +kernel
theorem dX6_begin_24 : decode cX6_begin 24 = .ok (.ireturn, 1) := by decide +kernel
set_option maxRecDepth 20000 in
theorem ggX6_tick_X1_prepare : GoodIn wsX6_tick wsX1_prepare := goodIn_r _ [7, 8, 9, 10, 11, 12, 6, 13, 14, 15, 16, 17, 18, 19, 20, 21, 22, 23, 24, 25, 26, 27, 28, 29, 30, 31, 32, 33, 34, 35, 36, 37, 38, 39, 40, 41, 42, 43, 44, 45, 46, 47, 48, 49, 50, 51, 52, 53, 54, 55, 56, 57, 58, 59, 139, 140, 141, 142, 143, 144, 145, 146, 147, 148, 149, 150, 151, 152, 153, 154, 155, 156, 157, 158, 159] (by rfl) (by decide +kernel)
set_option maxRecDepth 20000 in
theorem gX6_tick_X1_prepare : GoodIn wsX6_tick (wsV RX6 36 RX1 yX1_prepare wsX1_prepare) := goodIn_app (goodIn_r _ [3, 4, 5, 6] (by rfl) (by decide +kernel)) ggX6_tick_X1_prepare
set_option maxRecDepth 20000 in
theorem ggX6_tick_X5_makeTicks : GoodIn wsX6_tick wsX5_makeTicks := goodIn_r _ [63, 23, 64, 65, 66, 67, 68, 69, 70, 71, 72, 18, 73, 29, 74, 75, 76, 77, 78, 79, 80, 81, 24, 82, 83, 84, 85, 86, 87, 88, 53, 89, 59, 55, 90, 91, 92, 93, 58, 94, 95, 96, 97, 57, 98, 99, 100, 101, 102, 33, 103, 35, 104, 105, 106, 107, 108, 109, 110, 111, 20, 112, 113, 114, 115, 116, 117, 118, 40, 119, 47, 45, 42, 120, 121, 142, 143, 144, 145, 146, 147, 149, 150, 151, 152, 153, 154, 155, 156, 157, 158, 159, 148] (by rfl) (by decide +kernel)
set_option maxRecDepth 20000 in
theorem gX6_tick_X5_makeTicks : GoodIn wsX6_tick (wsV RX6 54 RX5 yX5_makeTicks wsX5_makeTicks) := goodIn_app (goodIn_r _ [60, 61, 62, 18] (by rfl) (by decide +kernel)) ggX6_tick_X5_makeTicks
set_option maxRecDepth 20000 in
theorem ggX6_tick_X6_recorded : GoodIn wsX6_tick wsX6_recorded := goodIn_r _ [125, 1, 126, 127, 65, 128, 129, 130, 131, 6, 132, 9, 14, 10, 11, 12, 13, 133, 134, 135, 136, 137, 138, 139, 140, 141] (by rfl) (by decide +kernel)
set_option maxRecDepth 20000 in
theorem gX6_tick_X6_recorded : GoodIn wsX6_tick (wsV RX6 44 RX6 yX6_recorded wsX6_recorded) := goodIn_app (goodIn_r _ [122, 123, 124, 65] (by rfl) (by decide +kernel)) ggX6_tick_X6_recorded
theorem dX6_tick_0 : decode cX6_tick 0 = .ok (.aload_n 0, 1) := by decide +kernel
theorem dX6_tick_1 : decode cX6_tick 1 = .ok (.getfield 25, 3) := by decide +kernel
theorem dX6_tick_4 : decode cX6_tick 4 = .ok (.aload_n 0, 1) := by decide +kernel
theorem dX6_tick_5 : decode cX6_tick 5 = .ok (.getfield 10, 3) := by decide +kernel
theorem dX6_tick_8 : decode cX6_tick 8 = .ok (.invokevirtual 36, 3) := by decide +kernel
theorem dX6_tick_11 : decode cX6_tick 11 = .ok (.aload_n 0, 1) := by decide +kernel
theorem dX6_tick_12 : decode cX6_tick 12 = .ok (.aload_n 0, 1) := by decide +kernel
theorem dX6_tick_13 : decode cX6_tick 13 = .ok (.getfield 10, 3) := by decide +kernel
theorem dX6_tick_16 : decode cX6_tick 16 = .ok (.iload_n 1, 1) := by decide +kernel
theorem dX6_tick_17 : decode cX6_tick 17 = .ok (.invokevirtual 54, 3) := by decide +kernel
theorem dX6_tick_20 : decode cX6_tick 20 = .ok (.invokevirtual 44, 3) := by decide +kernel
theorem dX6_tick_23 : decode cX6_tick 23 = .ok (.ireturn, 1) := by decide +kernel
set_option maxRecDepth 20000 in
theorem ggX6_lock_X1_prepare : GoodIn wsX6_lock wsX1_prepare := goodIn_r _ [7, 8, 9, 10, 11, 12, 6, 13, 14, 15, 16, 17, 18, 19, 20, 21, 22, 23, 24, 25, 26, 27, 28, 29, 30, 31, 32, 33, 34, 35, 36, 37, 38, 39, 40, 41, 42, 43, 44, 45, 46, 47, 48, 49, 50, 51, 52, 53, 54, 55, 56, 57, 58, 59, 82, 83, 84, 85, 86, 87, 88, 89, 90, 91, 92, 93, 94, 95, 96, 97, 98, 99, 100, 101, 102] (by rfl) (by decide +kernel)
set_option maxRecDepth 20000 in
theorem gX6_lock_X1_prepare : GoodIn wsX6_lock (wsV RX6 36 RX1 yX1_prepare wsX1_prepare) := goodIn_app (goodIn_r _ [3, 4, 5, 6] (by rfl) (by decide +kernel)) ggX6_lock_X1_prepare
set_option maxRecDepth 20000 in
theorem ggX6_lock_X5_lockLive : GoodIn wsX6_lock wsX5_lockLive := goodIn_r _ [63, 23, 85, 86, 87, 88, 89, 90, 92, 93, 94, 95, 96, 97, 98, 99, 100, 101, 102] (by rfl) (by decide +kernel)
set_option maxRecDepth 20000 in
theorem gX6_lock_X5_lockLive : GoodIn wsX6_lock (wsV RX6 57 RX5 yX5_lockLive wsX5_lockLive) := goodIn_app (goodIn_r _ [60, 61, 62, 18] (by rfl) (by decide +kernel)) ggX6_lock_X5_lockLive
set_option maxRecDepth 20000 in
theorem ggX6_lock_X6_recorded : GoodIn wsX6_lock wsX6_recorded := goodIn_r _ [68, 1, 69, 70, 67, 71, 72, 73, 74, 6, 75, 9, 14, 10, 11, 12, 13, 76, 77, 78, 79, 80, 81, 82, 83, 84] (by rfl) (by decide +kernel)
set_option maxRecDepth 20000 in
theorem gX6_lock_X6_recorded : GoodIn wsX6_lock (wsV RX6 44 RX6 yX6_recorded wsX6_recorded) := goodIn_app (goodIn_r _ [64, 65, 66, 67] (by rfl) (by decide +kernel)) ggX6_lock_X6_recorded
theorem dX6_lock_0 : decode cX6_lock 0 = .ok (.aload_n 0, 1) := by decide +kernel
theorem dX6_lock_1 : decode cX6_lock 1 = .ok (.getfield 25, 3) := by decide +kernel
theorem dX6_lock_4 : decode cX6_lock 4 = .ok (.aload_n 0, 1) := by decide +kernel
theorem dX6_lock_5 : decode cX6_lock 5 = .ok (.getfield 10, 3) := by decide +kernel
theorem dX6_lock_8 : decode cX6_lock 8 = .ok (.invokevirtual 36, 3) := by decide +kernel
theorem dX6_lock_11 : decode cX6_lock 11 = .ok (.aload_n 0, 1) := by decide +kernel
theorem dX6_lock_12 : decode cX6_lock 12 = .ok (.aload_n 0, 1) := by decide +kernel
theorem dX6_lock_13 : decode cX6_lock 13 = .ok (.getfield 10, 3) := by decide +kernel
theorem dX6_lock_16 : decode cX6_lock 16 = .ok (.invokevirtual 57, 3) := by decide +kernel
theorem dX6_lock_19 : decode cX6_lock 19 = .ok (.invokevirtual 44, 3) := by decide +kernel
theorem dX6_lock_22 : decode cX6_lock 22 = .ok (.ireturn, 1) := by decide +kernel
set_option maxRecDepth 20000 in
theorem ggX6_unlock_X1_prepare : GoodIn wsX6_unlock wsX1_prepare := goodIn_r _ [7, 8, 9, 10, 11, 12, 6, 13, 14, 15, 16, 17, 18, 19, 20, 21, 22, 23, 24, 25, 26, 27, 28, 29, 30, 31, 32, 33, 34, 35, 36, 37, 38, 39, 40, 41, 42, 43, 44, 45, 46, 47, 48, 49, 50, 51, 52, 53, 54, 55, 56, 57, 58, 59, 82, 83, 84, 85, 86, 87, 88, 89, 90, 91, 92, 93, 94, 95, 96, 97, 98, 99, 100, 101, 102] (by rfl) (by decide +kernel)
set_option maxRecDepth 20000 in
theorem gX6_unlock_X1_prepare : GoodIn wsX6_unlock (wsV RX6 36 RX1 yX1_prepare wsX1_prepare) := goodIn_app (goodIn_r _ [3, 4, 5, 6] (by rfl) (by decide +kernel)) ggX6_unlock_X1_prepare
set_option maxRecDepth 20000 in
theorem ggX6_unlock_X5_unlockLive : GoodIn wsX6_unlock wsX5_unlockLive := goodIn_r _ [63, 23, 85, 86, 87, 88, 89, 90, 92, 93, 94, 95, 96, 97, 98] (by rfl) (by decide +kernel)
set_option maxRecDepth 20000 in
theorem gX6_unlock_X5_unlockLive : GoodIn wsX6_unlock (wsV RX6 61 RX5 yX5_unlockLive wsX5_unlockLive) := goodIn_app (goodIn_r _ [60, 61, 62, 18] (by rfl) (by decide +kernel)) ggX6_unlock_X5_unlockLive
set_option maxRecDepth 20000 in
theorem ggX6_unlock_X6_recorded : GoodIn wsX6_unlock wsX6_recorded := goodIn_r _ [68, 1, 69, 70, 67, 71, 72, 73, 74, 6, 75, 9, 14, 10, 11, 12, 13, 76, 77, 78, 79, 80, 81, 82, 83, 84] (by rfl) (by decide +kernel)
set_option maxRecDepth 20000 in
theorem gX6_unlock_X6_recorded : GoodIn wsX6_unlock (wsV RX6 44 RX6 yX6_recorded wsX6_recorded) := goodIn_app (goodIn_r _ [64, 65, 66, 67] (by rfl) (by decide +kernel)) ggX6_unlock_X6_recorded
theorem dX6_unlock_0 : decode cX6_unlock 0 = .ok (.aload_n 0, 1) := by decide +kernel
theorem dX6_unlock_1 : decode cX6_unlock 1 = .ok (.getfield 25, 3) := by decide +kernel
theorem dX6_unlock_4 : decode cX6_unlock 4 = .ok (.aload_n 0, 1) := by decide +kernel
theorem dX6_unlock_5 : decode cX6_unlock 5 = .ok (.getfield 10, 3) := by decide +kernel
theorem dX6_unlock_8 : decode cX6_unlock 8 = .ok (.invokevirtual 36, 3) := by decide +kernel
theorem dX6_unlock_11 : decode cX6_unlock 11 = .ok (.aload_n 0, 1) := by decide +kernel
theorem dX6_unlock_12 : decode cX6_unlock 12 = .ok (.aload_n 0, 1) := by decide +kernel
theorem dX6_unlock_13 : decode cX6_unlock 13 = .ok (.getfield 10, 3) := by decide +kernel
theorem dX6_unlock_16 : decode cX6_unlock 16 = .ok (.invokevirtual 61, 3) := by decide +kernel
theorem dX6_unlock_19 : decode cX6_unlock 19 = .ok (.invokevirtual 44, 3) := by decide +kernel
theorem dX6_unlock_22 : decode cX6_unlock 22 = .ok (.ireturn, 1) := by decide +kernel
set_option maxRecDepth 20000 in
theorem ggX6_swap_X1_prepare : GoodIn wsX6_swap wsX1_prepare := goodIn_r _ [7, 8, 9, 10, 11, 12, 6, 13, 14, 15, 16, 17, 18, 19, 20, 21, 22, 23, 24, 25, 26, 27, 28, 29, 30, 31, 32, 33, 34, 35, 36, 37, 38, 39, 40, 41, 42, 43, 44, 45, 46, 47, 48, 49, 50, 51, 52, 53, 54, 55, 56, 57, 58, 59, 86, 87, 88, 89, 90, 91, 92, 93, 94, 95, 96, 97, 98, 99, 100, 101, 102, 103, 104, 105, 106] (by rfl) (by decide +kernel)
set_option maxRecDepth 20000 in
theorem gX6_swap_X1_prepare : GoodIn wsX6_swap (wsV RX6 36 RX1 yX1_prepare wsX1_prepare) := goodIn_app (goodIn_r _ [3, 4, 5, 6] (by rfl) (by decide +kernel)) ggX6_swap_X1_prepare
set_option maxRecDepth 20000 in
theorem ggX6_swap_X5_swapTables : GoodIn wsX6_swap wsX5_swapTables := goodIn_r _ [63, 23, 21, 20, 22, 29, 30, 31, 32, 33, 34, 35, 36, 26, 27, 28, 64, 65, 66, 67, 89, 90, 91, 92, 93, 94, 96, 97, 98, 99, 100, 101, 102, 103, 104, 105, 106, 95] (by rfl) (by decide +kernel)
set_option maxRecDepth 20000 in
theorem gX6_swap_X5_swapTables : GoodIn wsX6_swap (wsV RX6 64 RX5 yX5_swapTables wsX5_swapTables) := goodIn_app (goodIn_r _ [60, 61, 62, 18] (by rfl) (by decide +kernel)) ggX6_swap_X5_swapTables
set_option maxRecDepth 20000 in
theorem ggX6_swap_X6_recorded : GoodIn wsX6_swap wsX6_recorded := goodIn_r _ [72, 1, 73, 74, 71, 75, 76, 77, 78, 6, 79, 9, 14, 10, 11, 12, 13, 80, 81, 82, 83, 84, 85, 86, 87, 88] (by rfl) (by decide +kernel)
set_option maxRecDepth 20000 in
theorem gX6_swap_X6_recorded : GoodIn wsX6_swap (wsV RX6 44 RX6 yX6_recorded wsX6_recorded) := goodIn_app (goodIn_r _ [68, 69, 70, 71] (by rfl) (by decide +kernel)) ggX6_swap_X6_recorded
theorem dX6_swap_0 : decode cX6_swap 0 = .ok (.aload_n 0, 1) := by decide +kernel
theorem dX6_swap_1 : decode cX6_swap 1 = .ok (.getfield 25, 3) := by decide +kernel
theorem dX6_swap_4 : decode cX6_swap 4 = .ok (.aload_n 0, 1) := by decide +kernel
theorem dX6_swap_5 : decode cX6_swap 5 = .ok (.getfield 10, 3) := by decide +kernel
theorem dX6_swap_8 : decode cX6_swap 8 = .ok (.invokevirtual 36, 3) := by decide +kernel
theorem dX6_swap_11 : decode cX6_swap 11 = .ok (.aload_n 0, 1) := by decide +kernel
theorem dX6_swap_12 : decode cX6_swap 12 = .ok (.aload_n 0, 1) := by decide +kernel
theorem dX6_swap_13 : decode cX6_swap 13 = .ok (.getfield 10, 3) := by decide +kernel
theorem dX6_swap_16 : decode cX6_swap 16 = .ok (.invokevirtual 64, 3) := by decide +kernel
theorem dX6_swap_19 : decode cX6_swap 19 = .ok (.invokevirtual 44, 3) := by decide +kernel
theorem dX6_swap_22 : decode cX6_swap 22 = .ok (.ireturn, 1) := by decide +kernel
set_option maxRecDepth 20000 in
theorem ggX6_giveUp_X1_prepare : GoodIn wsX6_giveUp wsX1_prepare := goodIn_r _ [7, 8, 9, 10, 11, 12, 6, 13, 14, 15, 16, 17, 18, 19, 20, 21, 22, 23, 24, 25, 26, 27, 28, 29, 30, 31, 32, 33, 34, 35, 36, 37, 38, 39, 40, 41, 42, 43, 44, 45, 46, 47, 48, 49, 50, 51, 52, 53, 54, 55, 56, 57, 58, 59, 94, 95, 96, 97, 98, 99, 100, 101, 102, 103, 104, 105, 106, 107, 108, 109, 110, 111, 112, 113, 114] (by rfl) (by decide +kernel)
set_option maxRecDepth 20000 in
theorem gX6_giveUp_X1_prepare : GoodIn wsX6_giveUp (wsV RX6 36 RX1 yX1_prepare wsX1_prepare) := goodIn_app (goodIn_r _ [3, 4, 5, 6] (by rfl) (by decide +kernel)) ggX6_giveUp_X1_prepare
set_option maxRecDepth 20000 in
theorem ggX6_giveUp_X5_giveCopyUp : GoodIn wsX6_giveUp wsX5_giveCopyUp := goodIn_r _ [63, 23, 64, 65, 66, 18, 67, 68, 69, 70, 71, 29, 72, 73, 74, 33, 75, 35, 97, 98, 99, 100, 101, 102, 104, 105, 106, 107, 108, 109, 110, 103] (by rfl) (by decide +kernel)
set_option maxRecDepth 20000 in
theorem gX6_giveUp_X5_giveCopyUp : GoodIn wsX6_giveUp (wsV RX6 67 RX5 yX5_giveCopyUp wsX5_giveCopyUp) := goodIn_app (goodIn_r _ [60, 61, 62, 18] (by rfl) (by decide +kernel)) ggX6_giveUp_X5_giveCopyUp
set_option maxRecDepth 20000 in
theorem ggX6_giveUp_X6_recorded : GoodIn wsX6_giveUp wsX6_recorded := goodIn_r _ [80, 1, 81, 82, 79, 83, 84, 85, 86, 6, 87, 9, 14, 10, 11, 12, 13, 88, 89, 90, 91, 92, 93, 94, 95, 96] (by rfl) (by decide +kernel)
set_option maxRecDepth 20000 in
theorem gX6_giveUp_X6_recorded : GoodIn wsX6_giveUp (wsV RX6 44 RX6 yX6_recorded wsX6_recorded) := goodIn_app (goodIn_r _ [76, 77, 78, 79] (by rfl) (by decide +kernel)) ggX6_giveUp_X6_recorded
theorem dX6_giveUp_0 : decode cX6_giveUp 0 = .ok (.aload_n 0, 1) := by decide +kernel
theorem dX6_giveUp_1 : decode cX6_giveUp 1 = .ok (.getfield 25, 3) := by decide +kernel
theorem dX6_giveUp_4 : decode cX6_giveUp 4 = .ok (.aload_n 0, 1) := by decide +kernel
theorem dX6_giveUp_5 : decode cX6_giveUp 5 = .ok (.getfield 10, 3) := by decide +kernel
theorem dX6_giveUp_8 : decode cX6_giveUp 8 = .ok (.invokevirtual 36, 3) := by decide +kernel
theorem dX6_giveUp_11 : decode cX6_giveUp 11 = .ok (.aload_n 0, 1) := by decide +kernel
theorem dX6_giveUp_12 : decode cX6_giveUp 12 = .ok (.aload_n 0, 1) := by decide +kernel
theorem dX6_giveUp_13 : decode cX6_giveUp 13 = .ok (.getfield 10, 3) := by decide +kernel
theorem dX6_giveUp_16 : decode cX6_giveUp 16 = .ok (.invokevirtual 67, 3) := by decide +kernel
theorem dX6_giveUp_19 : decode cX6_giveUp 19 = .ok (.invokevirtual 44, 3) := by decide +kernel
theorem dX6_giveUp_22 : decode cX6_giveUp 22 = .ok (.ireturn, 1) := by decide +kernel
set_option maxRecDepth 20000 in
theorem ggX6_set_X1_prepare : GoodIn wsX6_set wsX1_prepare := goodIn_r _ [7, 8, 9, 10, 11, 12, 6, 13, 14, 15, 16, 17, 18, 19, 20, 21, 22, 23, 24, 25, 26, 27, 28, 29, 30, 31, 32, 33, 34, 35, 36, 37, 38, 39, 40, 41, 42, 43, 44, 45, 46, 47, 48, 49, 50, 51, 52, 53, 54, 55, 56, 57, 58, 59, 87, 88, 89, 90, 91, 92, 93, 94, 95, 96, 97, 98, 99, 100, 101, 102, 103, 104, 105, 106, 107] (by rfl) (by decide +kernel)
set_option maxRecDepth 20000 in
theorem gX6_set_X1_prepare : GoodIn wsX6_set (wsV RX6 36 RX1 yX1_prepare wsX1_prepare) := goodIn_app (goodIn_r _ [3, 4, 5, 6] (by rfl) (by decide +kernel)) ggX6_set_X1_prepare
set_option maxRecDepth 20000 in
theorem ggX6_set_X5_changeSetting : GoodIn wsX6_set wsX5_changeSetting := goodIn_r _ [63, 24, 64, 65, 66, 67, 68, 69, 90, 91, 92, 93, 94, 95] (by rfl) (by decide +kernel)
set_option maxRecDepth 20000 in
theorem gX6_set_X5_changeSetting : GoodIn wsX6_set (wsV RX6 70 RX5 yX5_changeSetting wsX5_changeSetting) := goodIn_app (goodIn_r _ [60, 61, 62, 18] (by rfl) (by decide +kernel)) ggX6_set_X5_changeSetting
set_option maxRecDepth 20000 in
theorem ggX6_set_X6_recorded : GoodIn wsX6_set wsX6_recorded := goodIn_r _ [73, 1, 74, 75, 65, 76, 77, 78, 79, 6, 80, 9, 14, 10, 11, 12, 13, 81, 82, 83, 84, 85, 86, 87, 88, 89] (by rfl) (by decide +kernel)
set_option maxRecDepth 20000 in
theorem gX6_set_X6_recorded : GoodIn wsX6_set (wsV RX6 44 RX6 yX6_recorded wsX6_recorded) := goodIn_app (goodIn_r _ [70, 71, 72, 65] (by rfl) (by decide +kernel)) ggX6_set_X6_recorded
theorem dX6_set_0 : decode cX6_set 0 = .ok (.aload_n 0, 1) := by decide +kernel
theorem dX6_set_1 : decode cX6_set 1 = .ok (.getfield 25, 3) := by decide +kernel
theorem dX6_set_4 : decode cX6_set 4 = .ok (.aload_n 0, 1) := by decide +kernel
theorem dX6_set_5 : decode cX6_set 5 = .ok (.getfield 10, 3) := by decide +kernel
theorem dX6_set_8 : decode cX6_set 8 = .ok (.invokevirtual 36, 3) := by decide +kernel
theorem dX6_set_11 : decode cX6_set 11 = .ok (.aload_n 0, 1) := by decide +kernel
theorem dX6_set_12 : decode cX6_set 12 = .ok (.aload_n 0, 1) := by decide +kernel
theorem dX6_set_13 : decode cX6_set 13 = .ok (.getfield 10, 3) := by decide +kernel
theorem dX6_set_16 : decode cX6_set 16 = .ok (.iload_n 1, 1) := by decide +kernel
theorem dX6_set_17 : decode cX6_set 17 = .ok (.iload_n 2, 1) := by decide +kernel
theorem dX6_set_18 : decode cX6_set 18 = .ok (.invokevirtual 70, 3) := by decide +kernel
theorem dX6_set_21 : decode cX6_set 21 = .ok (.invokevirtual 44, 3) := by decide +kernel
theorem dX6_set_24 : decode cX6_set 24 = .ok (.ireturn, 1) := by decide +kernel
set_option maxRecDepth 20000 in
theorem ggX6_undo_X1_takeBack : GoodIn wsX6_undo wsX1_takeBack := goodIn_r _ [7, 8, 9, 10, 11, 12, 6, 13, 14, 15, 16, 17, 18, 19, 20, 21, 22, 23, 24, 25, 26, 27, 28, 29, 30, 31, 32, 33, 34, 35, 36, 37, 38, 39, 40, 41, 42, 43, 44, 45, 46, 47, 48, 49, 50, 51, 52, 53, 54, 55, 56, 57, 58, 59, 66, 67, 68, 69, 70, 71, 72, 73, 74, 75, 76, 77, 78, 79, 80, 81, 82, 83, 84, 85, 86] (by rfl) (by decide +kernel)
set_option maxRecDepth 20000 in
theorem gX6_undo_X1_takeBack : GoodIn wsX6_undo (wsV RX6 102 RX1 yX1_takeBack wsX1_takeBack) := goodIn_app (goodIn_r _ [3, 4, 5, 6] (by rfl) (by decide +kernel)) ggX6_undo_X1_takeBack
theorem dX6_undo_0 : decode cX6_undo 0 = .ok (.aload_n 0, 1) := by decide +kernel
theorem dX6_undo_1 : decode cX6_undo 1 = .ok (.getfield 25, 3) := by decide +kernel
theorem dX6_undo_4 : decode cX6_undo 4 = .ok (.aload_n 0, 1) := by decide +kernel
theorem dX6_undo_5 : decode cX6_undo 5 = .ok (.getfield 10, 3) := by decide +kernel
theorem dX6_undo_8 : decode cX6_undo 8 = .ok (.invokevirtual 102, 3) := by decide +kernel
theorem dX6_undo_11 : decode cX6_undo 11 = .ok (.ireturn, 1) := by decide +kernel
set_option maxRecDepth 20000 in
theorem ggX6_value_X6_isKey : GoodIn wsX6_value wsX6_isKey := goodIn_r _ [5, 6, 7, 4, 8] (by rfl) (by decide +kernel)
set_option maxRecDepth 20000 in
theorem gX6_value_X6_isKey : GoodIn wsX6_value (va_wsS RX6 122 yX6_isKey wsX6_isKey) := goodIn_app (goodIn_r _ [2, 3, 4] (by rfl) (by decide +kernel)) ggX6_value_X6_isKey
set_option maxRecDepth 20000 in
theorem ggX6_value_X6_isTable : GoodIn wsX6_value wsX6_isTable := goodIn_r _ [11, 6, 7, 4, 8] (by rfl) (by decide +kernel)
set_option maxRecDepth 20000 in
theorem gX6_value_X6_isTable : GoodIn wsX6_value (va_wsS RX6 125 yX6_isTable wsX6_isTable) := goodIn_app (goodIn_r _ [9, 10, 4] (by rfl) (by decide +kernel)) ggX6_value_X6_isTable
set_option maxRecDepth 20000 in
theorem ggX6_value_X5_rowsOf : GoodIn wsX6_value wsX5_rowsOf := goodIn_r _ [16, 17, 18, 19, 20, 21, 22, 23, 15, 24, 37, 38, 39, 40, 41, 42, 43, 44, 45, 46, 47, 48, 49] (by rfl) (by decide +kernel)
set_option maxRecDepth 20000 in
theorem gX6_value_X5_rowsOf : GoodIn wsX6_value (wsV RX6 128 RX5 yX5_rowsOf wsX5_rowsOf) := goodIn_app (goodIn_r _ [12, 13, 14, 15] (by rfl) (by decide +kernel)) ggX6_value_X5_rowsOf
set_option maxRecDepth 20000 in
theorem ggX6_value_X3_at : GoodIn wsX6_value wsX3_at := goodIn_r _ [29, 30, 50] (by rfl) (by decide +kernel)
set_option maxRecDepth 20000 in
theorem gX6_value_X3_at : GoodIn wsX6_value (wsV RX6 132 RX3 yX3_at wsX3_at) := goodIn_app (goodIn_r _ [25, 26, 27, 28] (by rfl) (by decide +kernel)) ggX6_value_X3_at
theorem dX6_value_0 : decode cX6_value 0 = .ok (.iload_n 2, 1) := by decide +kernel
theorem dX6_value_1 : decode cX6_value 1 = .ok (.invokestatic 122, 3) := by decide +kernel
theorem dX6_value_4 : decode cX6_value 4 = .ok (.ifCond .ne 5, 3) := by decide +kernel
theorem dX6_value_7 : decode cX6_value 7 = .ok (.iconst (-1), 1) := by decide +kernel
theorem dX6_value_8 : decode cX6_value 8 = .ok (.ireturn, 1) := by decide +kernel
theorem dX6_value_9 : decode cX6_value 9 = .ok (.iload_n 1, 1) := by decide +kernel
theorem dX6_value_10 : decode cX6_value 10 = .ok (.invokestatic 125, 3) := by decide +kernel
theorem dX6_value_13 : decode cX6_value 13 = .ok (.ifCond .ne 6, 3) := by decide +kernel
theorem dX6_value_16 : decode cX6_value 16 = .ok (.bipush (-2), 2) := by decide +kernel
theorem dX6_value_18 : decode cX6_value 18 = .ok (.ireturn, 1) := by decide +kernel
theorem dX6_value_19 : decode cX6_value 19 = .ok (.aload_n 0, 1) := by decide +kernel
theorem dX6_value_20 : decode cX6_value 20 = .ok (.getfield 10, 3) := by decide +kernel
theorem dX6_value_23 : decode cX6_value 23 = .ok (.iload_n 1, 1) := by decide +kernel
theorem dX6_value_24 : decode cX6_value 24 = .ok (.invokevirtual 128, 3) := by decide +kernel
theorem dX6_value_27 : decode cX6_value 27 = .ok (.astore_n 3, 1) := by decide +kernel
theorem dX6_value_28 : decode cX6_value 28 = .ok (.aload_n 3, 1) := by decide +kernel
theorem dX6_value_29 : decode cX6_value 29 = .ok (.ifnonnull 8, 3) := by decide +kernel
theorem dX6_value_32 : decode cX6_value 32 = .ok (.bipush (-5), 2) := by decide +kernel
theorem dX6_value_34 : decode cX6_value 34 = .ok (.goto 8, 3) := by decide +kernel
theorem dX6_value_37 : decode cX6_value 37 = .ok (.aload_n 3, 1) := by decide +kernel
theorem dX6_value_38 : decode cX6_value 38 = .ok (.iload_n 2, 1) := by decide +kernel
theorem dX6_value_39 : decode cX6_value 39 = .ok (.invokevirtual 132, 3) := by decide +kernel
theorem dX6_value_42 : decode cX6_value 42 = .ok (.ireturn, 1) := by decide +kernel
set_option maxRecDepth 20000 in
theorem ggX6_table_X6_isTable : GoodIn wsX6_table wsX6_isTable := goodIn_r _ [5, 6, 7, 4, 8] (by rfl) (by decide +kernel)
set_option maxRecDepth 20000 in
theorem gX6_table_X6_isTable : GoodIn wsX6_table (va_wsS RX6 125 yX6_isTable wsX6_isTable) := goodIn_app (goodIn_r _ [2, 3, 4] (by rfl) (by decide +kernel)) ggX6_table_X6_isTable
set_option maxRecDepth 20000 in
theorem ggX6_table_X6_isIn : GoodIn wsX6_table wsX6_isIn := goodIn_r _ [8] (by rfl) (by decide +kernel)
set_option maxRecDepth 20000 in
theorem gX6_table_X6_isIn : GoodIn wsX6_table (va_wsS RX6 135 yX6_isIn wsX6_isIn) := goodIn_app (goodIn_r _ [6, 7, 4] (by rfl) (by decide +kernel)) ggX6_table_X6_isIn
set_option maxRecDepth 20000 in
theorem ggX6_table_X5_rowsOf : GoodIn wsX6_table wsX5_rowsOf := goodIn_r _ [13, 14, 15, 16, 17, 18, 19, 20, 12, 21, 50, 51, 52, 53, 54, 55, 56, 57, 58, 59, 60, 61, 62] (by rfl) (by decide +kernel)
set_option maxRecDepth 20000 in
theorem gX6_table_X5_rowsOf : GoodIn wsX6_table (wsV RX6 128 RX5 yX5_rowsOf wsX5_rowsOf) := goodIn_app (goodIn_r _ [9, 10, 11, 12] (by rfl) (by decide +kernel)) ggX6_table_X5_rowsOf
set_option maxRecDepth 20000 in
theorem ggX6_table_X3_tell : GoodIn wsX6_table wsX3_tell := goodIn_r _ [26, 27, 28, 29, 25, 30, 31, 32, 33, 34, 35, 36, 37, 38, 39, 40, 41, 42, 43, 63] (by rfl) (by decide +kernel)
set_option maxRecDepth 20000 in
theorem gX6_table_X3_tell : GoodIn wsX6_table (wsV RX6 139 RX3 yX3_tell wsX3_tell) := goodIn_app (goodIn_r _ [22, 23, 24, 25] (by rfl) (by decide +kernel)) ggX6_table_X3_tell
theorem dX6_table_0 : decode cX6_table 0 = .ok (.iload_n 1, 1) := by decide +kernel
theorem dX6_table_1 : decode cX6_table 1 = .ok (.invokestatic 125, 3) := by decide +kernel
theorem dX6_table_4 : decode cX6_table 4 = .ok (.ifCond .eq 12, 3) := by decide +kernel
theorem dX6_table_7 : decode cX6_table 7 = .ok (.iload_n 2, 1) := by decide +kernel
theorem dX6_table_8 : decode cX6_table 8 = .ok (.iconst 0, 1) := by decide +kernel
theorem dX6_table_9 : decode cX6_table 9 = .ok (.iconst 3, 1) := by decide +kernel
theorem dX6_table_10 : decode cX6_table 10 = .ok (.invokestatic 135, 3) := by decide +kernel
theorem dX6_table_13 : decode cX6_table 13 = .ok (.ifCond .ne 6, 3) := by decide +kernel
theorem dX6_table_16 : decode cX6_table 16 = .ok (.bipush (-2), 2) := by decide +kernel
theorem dX6_table_18 : decode cX6_table 18 = .ok (.ireturn, 1) := by decide +kernel
theorem dX6_table_19 : decode cX6_table 19 = .ok (.aload_n 0, 1) := by decide +kernel
theorem dX6_table_20 : decode cX6_table 20 = .ok (.getfield 10, 3) := by decide +kernel
theorem dX6_table_23 : decode cX6_table 23 = .ok (.iload_n 1, 1) := by decide +kernel
theorem dX6_table_24 : decode cX6_table 24 = .ok (.invokevirtual 128, 3) := by decide +kernel
theorem dX6_table_27 : decode cX6_table 27 = .ok (.astore_n 3, 1) := by decide +kernel
theorem dX6_table_28 : decode cX6_table 28 = .ok (.aload_n 3, 1) := by decide +kernel
theorem dX6_table_29 : decode cX6_table 29 = .ok (.ifnonnull 8, 3) := by decide +kernel
theorem dX6_table_32 : decode cX6_table 32 = .ok (.bipush (-5), 2) := by decide +kernel
theorem dX6_table_34 : decode cX6_table 34 = .ok (.goto 8, 3) := by decide +kernel
theorem dX6_table_37 : decode cX6_table 37 = .ok (.aload_n 3, 1) := by decide +kernel
theorem dX6_table_38 : decode cX6_table 38 = .ok (.iload_n 2, 1) := by decide +kernel
theorem dX6_table_39 : decode cX6_table 39 = .ok (.invokevirtual 139, 3) := by decide +kernel
theorem dX6_table_42 : decode cX6_table 42 = .ok (.ireturn, 1) := by decide +kernel
set_option maxRecDepth 20000 in
theorem ggX6_copy_X6_isIn : GoodIn wsX6_copy wsX6_isIn := goodIn_r _ [5] (by rfl) (by decide +kernel)
set_option maxRecDepth 20000 in
theorem gX6_copy_X6_isIn : GoodIn wsX6_copy (va_wsS RX6 135 yX6_isIn wsX6_isIn) := goodIn_app (goodIn_r _ [2, 3, 4] (by rfl) (by decide +kernel)) ggX6_copy_X6_isIn
set_option maxRecDepth 20000 in
theorem ggX6_copy_X0_tell : GoodIn wsX6_copy wsX0_tell := goodIn_r _ [10, 11, 12, 13, 14, 15, 16, 29, 30, 31, 32, 33, 34, 35, 36, 37, 38, 39] (by rfl) (by decide +kernel)
set_option maxRecDepth 20000 in
theorem gX6_copy_X0_tell : GoodIn wsX6_copy (wsV RX6 146 RX0 yX0_tell wsX0_tell) := goodIn_app (goodIn_r _ [6, 7, 8, 9] (by rfl) (by decide +kernel)) ggX6_copy_X0_tell
theorem dX6_copy_0 : decode cX6_copy 0 = .ok (.iload_n 1, 1) := by decide +kernel
theorem dX6_copy_1 : decode cX6_copy 1 = .ok (.iconst 0, 1) := by decide +kernel
theorem dX6_copy_2 : decode cX6_copy 2 = .ok (.iconst 5, 1) := by decide +kernel
theorem dX6_copy_3 : decode cX6_copy 3 = .ok (.invokestatic 135, 3) := by decide +kernel
theorem dX6_copy_6 : decode cX6_copy 6 = .ok (.ifCond .eq 17, 3) := by decide +kernel
theorem dX6_copy_9 : decode cX6_copy 9 = .ok (.aload_n 0, 1) := by decide +kernel
theorem dX6_copy_10 : decode cX6_copy 10 = .ok (.getfield 10, 3) := by decide +kernel
theorem dX6_copy_13 : decode cX6_copy 13 = .ok (.getfield 142, 3) := by decide +kernel
theorem dX6_copy_16 : decode cX6_copy 16 = .ok (.iload_n 1, 1) := by decide +kernel
theorem dX6_copy_17 : decode cX6_copy 17 = .ok (.invokevirtual 146, 3) := by decide +kernel
theorem dX6_copy_20 : decode cX6_copy 20 = .ok (.goto 5, 3) := by decide +kernel
theorem dX6_copy_23 : decode cX6_copy 23 = .ok (.bipush (-2), 2) := by decide +kernel
theorem dX6_copy_25 : decode cX6_copy 25 = .ok (.ireturn, 1) := by decide +kernel
set_option maxRecDepth 20000 in
theorem ggX6_entry_X6_isIn : GoodIn wsX6_entry wsX6_isIn := goodIn_r _ [5] (by rfl) (by decide +kernel)
set_option maxRecDepth 20000 in
theorem gX6_entry_X6_isIn : GoodIn wsX6_entry (va_wsS RX6 135 yX6_isIn wsX6_isIn) := goodIn_app (goodIn_r _ [2, 3, 4] (by rfl) (by decide +kernel)) ggX6_entry_X6_isIn
set_option maxRecDepth 20000 in
theorem ggX6_entry_X5_hasCopy : GoodIn wsX6_entry wsX5_hasCopy := goodIn_r _ [10, 11, 35, 36, 37, 38, 39, 40, 41, 42, 43, 44, 45, 46, 47] (by rfl) (by decide +kernel)
set_option maxRecDepth 20000 in
theorem gX6_entry_X5_hasCopy : GoodIn wsX6_entry (wsV RX6 149 RX5 yX5_hasCopy wsX5_hasCopy) := goodIn_app (goodIn_r _ [6, 7, 8, 9] (by rfl) (by decide +kernel)) ggX6_entry_X5_hasCopy
set_option maxRecDepth 20000 in
theorem ggX6_entry_X2_keyAt : GoodIn wsX6_entry wsX2_keyAt := goodIn_r _ [16, 17, 18, 19, 20, 21, 15, 22, 23, 48, 49, 50, 51] (by rfl) (by decide +kernel)
set_option maxRecDepth 20000 in
theorem gX6_entry_X2_keyAt : GoodIn wsX6_entry (wsV RX6 156 RX2 yX2_keyAt wsX2_keyAt) := goodIn_app (goodIn_r _ [12, 13, 14, 15] (by rfl) (by decide +kernel)) ggX6_entry_X2_keyAt
set_option maxRecDepth 20000 in
theorem ggX6_entry_X2_valueAt : GoodIn wsX6_entry wsX2_valueAt := goodIn_r _ [27, 17, 28, 19, 20, 21, 15, 22, 23, 48, 49, 50, 51] (by rfl) (by decide +kernel)
set_option maxRecDepth 20000 in
theorem gX6_entry_X2_valueAt : GoodIn wsX6_entry (wsV RX6 161 RX2 yX2_valueAt wsX2_valueAt) := goodIn_app (goodIn_r _ [24, 25, 26, 15] (by rfl) (by decide +kernel)) ggX6_entry_X2_valueAt
theorem dX6_entry_0 : decode cX6_entry 0 = .ok (.iload_n 1, 1) := by decide +kernel
theorem dX6_entry_1 : decode cX6_entry 1 = .ok (.ifCond .lt 12, 3) := by decide +kernel
theorem dX6_entry_4 : decode cX6_entry 4 = .ok (.iload_n 2, 1) := by decide +kernel
theorem dX6_entry_5 : decode cX6_entry 5 = .ok (.iconst 0, 1) := by decide +kernel
theorem dX6_entry_6 : decode cX6_entry 6 = .ok (.iconst 1, 1) := by decide +kernel
theorem dX6_entry_7 : decode cX6_entry 7 = .ok (.invokestatic 135, 3) := by decide +kernel
theorem dX6_entry_10 : decode cX6_entry 10 = .ok (.ifCond .ne 6, 3) := by decide +kernel
theorem dX6_entry_13 : decode cX6_entry 13 = .ok (.bipush (-2), 2) := by decide +kernel
theorem dX6_entry_15 : decode cX6_entry 15 = .ok (.ireturn, 1) := by decide +kernel
theorem dX6_entry_16 : decode cX6_entry 16 = .ok (.aload_n 0, 1) := by decide +kernel
theorem dX6_entry_17 : decode cX6_entry 17 = .ok (.getfield 10, 3) := by decide +kernel
theorem dX6_entry_20 : decode cX6_entry 20 = .ok (.invokevirtual 149, 3) := by decide +kernel
theorem dX6_entry_23 : decode cX6_entry 23 = .ok (.ifCond .ne 6, 3) := by decide +kernel
theorem dX6_entry_26 : decode cX6_entry 26 = .ok (.bipush (-5), 2) := by decide +kernel
theorem dX6_entry_28 : decode cX6_entry 28 = .ok (.ireturn, 1) := by decide +kernel
theorem dX6_entry_29 : decode cX6_entry 29 = .ok (.aload_n 0, 1) := by decide +kernel
theorem dX6_entry_30 : decode cX6_entry 30 = .ok (.getfield 10, 3) := by decide +kernel
theorem dX6_entry_33 : decode cX6_entry 33 = .ok (.getfield 142, 3) := by decide +kernel
theorem dX6_entry_36 : decode cX6_entry 36 = .ok (.getfield 152, 3) := by decide +kernel
theorem dX6_entry_39 : decode cX6_entry 39 = .ok (.astore_n 3, 1) := by decide +kernel
theorem dX6_entry_40 : decode cX6_entry 40 = .ok (.iload_n 2, 1) := by decide +kernel
theorem dX6_entry_41 : decode cX6_entry 41 = .ok (.ifCond .ne 11, 3) := by decide +kernel
theorem dX6_entry_44 : decode cX6_entry 44 = .ok (.aload_n 3, 1) := by decide +kernel
theorem dX6_entry_45 : decode cX6_entry 45 = .ok (.iload_n 1, 1) := by decide +kernel
theorem dX6_entry_46 : decode cX6_entry 46 = .ok (.invokevirtual 156, 3) := by decide +kernel
theorem dX6_entry_49 : decode cX6_entry 49 = .ok (.goto 8, 3) := by decide +kernel
theorem dX6_entry_52 : decode cX6_entry 52 = .ok (.aload_n 3, 1) := by decide +kernel
theorem dX6_entry_53 : decode cX6_entry 53 = .ok (.iload_n 1, 1) := by decide +kernel
theorem dX6_entry_54 : decode cX6_entry 54 = .ok (.invokevirtual 161, 3) := by decide +kernel
theorem dX6_entry_57 : decode cX6_entry 57 = .ok (.ireturn, 1) := by decide +kernel
set_option maxRecDepth 20000 in
theorem ggX6_changed_X6_isKey : GoodIn wsX6_changed wsX6_isKey := goodIn_r _ [4, 5, 6, 3, 7] (by rfl) (by decide +kernel)
set_option maxRecDepth 20000 in
theorem gX6_changed_X6_isKey : GoodIn wsX6_changed (va_wsS RX6 122 yX6_isKey wsX6_isKey) := goodIn_app (goodIn_r _ [1, 2, 3] (by rfl) (by decide +kernel)) ggX6_changed_X6_isKey
set_option maxRecDepth 20000 in
theorem ggX6_changed_X6_isKind : GoodIn wsX6_changed wsX6_isKind := goodIn_r _ [10, 5, 6, 3, 7] (by rfl) (by decide +kernel)
set_option maxRecDepth 20000 in
theorem gX6_changed_X6_isKind : GoodIn wsX6_changed (va_wsS RX6 164 yX6_isKind wsX6_isKind) := goodIn_app (goodIn_r _ [8, 9, 3] (by rfl) (by decide +kernel)) ggX6_changed_X6_isKind
set_option maxRecDepth 20000 in
theorem ggX6_changed_X6_isValue : GoodIn wsX6_changed wsX6_isValue := goodIn_r _ [13, 5, 6, 3, 7] (by rfl) (by decide +kernel)
set_option maxRecDepth 20000 in
theorem gX6_changed_X6_isValue : GoodIn wsX6_changed (va_wsS RX6 167 yX6_isValue wsX6_isValue) := goodIn_app (goodIn_r _ [11, 12, 3] (by rfl) (by decide +kernel)) ggX6_changed_X6_isValue
set_option maxRecDepth 20000 in
theorem ggX6_changed_X6_changedValue : GoodIn wsX6_changed wsX6_changedValue := goodIn_r _ [16] (by rfl) (by decide +kernel)
set_option maxRecDepth 20000 in
theorem gX6_changed_X6_changedValue : GoodIn wsX6_changed (va_wsS RX6 170 yX6_changedValue wsX6_changedValue) := goodIn_app (goodIn_r _ [14, 15, 3] (by rfl) (by decide +kernel)) ggX6_changed_X6_changedValue
theorem dX6_changed_0 : decode cX6_changed 0 = .ok (.iload_n 2, 1) := by decide +kernel
theorem dX6_changed_1 : decode cX6_changed 1 = .ok (.invokestatic 122, 3) := by decide +kernel
theorem dX6_changed_4 : decode cX6_changed 4 = .ok (.ifCond .ne 5, 3) := by decide +kernel
theorem dX6_changed_7 : decode cX6_changed 7 = .ok (.iconst (-1), 1) := by decide +kernel
theorem dX6_changed_8 : decode cX6_changed 8 = .ok (.ireturn, 1) := by decide +kernel
theorem dX6_changed_9 : decode cX6_changed 9 = .ok (.iload_n 1, 1) := by decide +kernel
theorem dX6_changed_10 : decode cX6_changed 10 = .ok (.invokestatic 164, 3) := by decide +kernel
theorem dX6_changed_13 : decode cX6_changed 13 = .ok (.ifCond .eq 10, 3) := by decide +kernel
theorem dX6_changed_16 : decode cX6_changed 16 = .ok (.iload_n 3, 1) := by decide +kernel
theorem dX6_changed_17 : decode cX6_changed 17 = .ok (.invokestatic 167, 3) := by decide +kernel
theorem dX6_changed_20 : decode cX6_changed 20 = .ok (.ifCond .ne 6, 3) := by decide +kernel
theorem dX6_changed_23 : decode cX6_changed 23 = .ok (.bipush (-2), 2) := by decide +kernel
theorem dX6_changed_25 : decode cX6_changed 25 = .ok (.ireturn, 1) := by decide +kernel
theorem dX6_changed_26 : decode cX6_changed 26 = .ok (.iload_n 1, 1) := by decide +kernel
theorem dX6_changed_27 : decode cX6_changed 27 = .ok (.iload_n 2, 1) := by decide +kernel
theorem dX6_changed_28 : decode cX6_changed 28 = .ok (.iload_n 3, 1) := by decide +kernel
theorem dX6_changed_29 : decode cX6_changed 29 = .ok (.invokestatic 170, 3) := by decide +kernel
theorem dX6_changed_32 : decode cX6_changed 32 = .ok (.ireturn, 1) := by decide +kernel
set_option maxRecDepth 20000 in
theorem ggX6_differences_X5_hasCopy : GoodIn wsX6_differences wsX5_hasCopy := goodIn_r _ [6, 7, 28, 29, 30, 31, 32, 33, 34, 35, 36, 37, 38, 39, 40] (by rfl) (by decide +kernel)
set_option maxRecDepth 20000 in
theorem gX6_differences_X5_hasCopy : GoodIn wsX6_differences (wsV RX6 149 RX5 yX5_hasCopy wsX5_hasCopy) := goodIn_app (goodIn_r _ [2, 3, 4, 5] (by rfl) (by decide +kernel)) ggX6_differences_X5_hasCopy
set_option maxRecDepth 20000 in
theorem ggX6_differences_X5_differsAt : GoodIn wsX6_differences wsX5_differsAt := goodIn_r _ [11, 7, 12, 13, 14, 15, 16, 17, 18, 19, 20, 21, 28, 29, 30, 31, 32, 33, 34, 35, 36, 37, 38, 39, 40, 41] (by rfl) (by decide +kernel)
set_option maxRecDepth 20000 in
theorem gX6_differences_X5_differsAt : GoodIn wsX6_differences (wsV RX6 174 RX5 yX5_differsAt wsX5_differsAt) := goodIn_app (goodIn_r _ [8, 9, 10, 5] (by rfl) (by decide +kernel)) ggX6_differences_X5_differsAt
theorem dX6_differences_0 : decode cX6_differences 0 = .ok (.aload_n 0, 1) := by decide +kernel
theorem dX6_differences_1 : decode cX6_differences 1 = .ok (.getfield 10, 3) := by decide +kernel
theorem dX6_differences_4 : decode cX6_differences 4 = .ok (.invokevirtual 149, 3) := by decide +kernel
theorem dX6_differences_7 : decode cX6_differences 7 = .ok (.ifCond .ne 6, 3) := by decide +kernel
theorem dX6_differences_10 : decode cX6_differences 10 = .ok (.bipush (-5), 2) := by decide +kernel
theorem dX6_differences_12 : decode cX6_differences 12 = .ok (.ireturn, 1) := by decide +kernel
theorem dX6_differences_13 : decode cX6_differences 13 = .ok (.iconst 0, 1) := by decide +kernel
theorem dX6_differences_14 : decode cX6_differences 14 = .ok (.istore_n 1, 1) := by decide +kernel
theorem dX6_differences_15 : decode cX6_differences 15 = .ok (.iconst 0, 1) := by decide +kernel
theorem dX6_differences_16 : decode cX6_differences 16 = .ok (.istore_n 2, 1) := by decide +kernel
theorem dX6_differences_17 : decode cX6_differences 17 = .ok (.iload_n 2, 1) := by decide +kernel
theorem dX6_differences_18 : decode cX6_differences 18 = .ok (.bipush 32, 2) := by decide +kernel
theorem dX6_differences_20 : decode cX6_differences 20 = .ok (.if_icmp .ge 23, 3) := by decide +kernel
theorem dX6_differences_23 : decode cX6_differences 23 = .ok (.aload_n 0, 1) := by decide +kernel
theorem dX6_differences_24 : decode cX6_differences 24 = .ok (.getfield 10, 3) := by decide +kernel
theorem dX6_differences_27 : decode cX6_differences 27 = .ok (.iload_n 2, 1) := by decide +kernel
theorem dX6_differences_28 : decode cX6_differences 28 = .ok (.invokevirtual 174, 3) := by decide +kernel
theorem dX6_differences_31 : decode cX6_differences 31 = .ok (.ifCond .eq 6, 3) := by decide +kernel
theorem dX6_differences_34 : decode cX6_differences 34 = .ok (.iinc 1 1, 3) := by decide +kernel
theorem dX6_differences_37 : decode cX6_differences 37 = .ok (.iinc 2 1, 3) := by decide +kernel
theorem dX6_differences_40 : decode cX6_differences 40 = .ok (.goto (-23), 3) := by decide +kernel
theorem dX6_differences_43 : decode cX6_differences 43 = .ok (.iload_n 1, 1) := by decide +kernel
theorem dX6_differences_44 : decode cX6_differences 44 = .ok (.ireturn, 1) := by decide +kernel
set_option maxRecDepth 20000 in
theorem ggX6_firstDifference_X5_hasCopy : GoodIn wsX6_firstDifference wsX5_hasCopy := goodIn_r _ [6, 7, 28, 29, 30, 31, 32, 33, 34, 35, 36, 37, 38, 39, 40] (by rfl) (by decide +kernel)
set_option maxRecDepth 20000 in
theorem gX6_firstDifference_X5_hasCopy : GoodIn wsX6_firstDifference (wsV RX6 149 RX5 yX5_hasCopy wsX5_hasCopy) := goodIn_app (goodIn_r _ [2, 3, 4, 5] (by rfl) (by decide +kernel)) ggX6_firstDifference_X5_hasCopy
set_option maxRecDepth 20000 in
theorem ggX6_firstDifference_X5_differsAt : GoodIn wsX6_firstDifference wsX5_differsAt := goodIn_r _ [11, 7, 12, 13, 14, 15, 16, 17, 18, 19, 20, 21, 28, 29, 30, 31, 32, 33, 34, 35, 36, 37, 38, 39, 40, 41] (by rfl) (by decide +kernel)
set_option maxRecDepth 20000 in
theorem gX6_firstDifference_X5_differsAt : GoodIn wsX6_firstDifference (wsV RX6 174 RX5 yX5_differsAt wsX5_differsAt) := goodIn_app (goodIn_r _ [8, 9, 10, 5] (by rfl) (by decide +kernel)) ggX6_firstDifference_X5_differsAt
theorem dX6_firstDifference_0 : decode cX6_firstDifference 0 = .ok (.aload_n 0, 1) := by decide +kernel
theorem dX6_firstDifference_1 : decode cX6_firstDifference 1 = .ok (.getfield 10, 3) := by decide +kernel
theorem dX6_firstDifference_4 : decode cX6_firstDifference 4 = .ok (.invokevirtual 149, 3) := by decide +kernel
theorem dX6_firstDifference_7 : decode cX6_firstDifference 7 = .ok (.ifCond .ne 6, 3) := by decide +kernel
theorem dX6_firstDifference_10 : decode cX6_firstDifference 10 = .ok (.bipush (-5), 2) := by decide +kernel
theorem dX6_firstDifference_12 : decode cX6_firstDifference 12 = .ok (.ireturn, 1) := by decide +kernel
theorem dX6_firstDifference_13 : decode cX6_firstDifference 13 = .ok (.iconst 0, 1) := by decide +kernel
theorem dX6_firstDifference_14 : decode cX6_firstDifference 14 = .ok (.istore_n 1, 1) := by decide +kernel
theorem dX6_firstDifference_15 : decode cX6_firstDifference 15 = .ok (.iload_n 1, 1) := by decide +kernel
theorem dX6_firstDifference_16 : decode cX6_firstDifference 16 = .ok (.bipush 32, 2) := by decide +kernel
theorem dX6_firstDifference_18 : decode cX6_firstDifference 18 = .ok (.if_icmp .ge 22, 3) := by decide +kernel
theorem dX6_firstDifference_21 : decode cX6_firstDifference 21 = .ok (.aload_n 0, 1) := by decide +kernel
theorem dX6_firstDifference_22 : decode cX6_firstDifference 22 = .ok (.getfield 10, 3) := by decide +kernel
theorem dX6_firstDifference_25 : decode cX6_firstDifference 25 = .ok (.iload_n 1, 1) := by decide +kernel
theorem dX6_firstDifference_26 : decode cX6_firstDifference 26 = .ok (.invokevirtual 174, 3) := by decide +kernel
theorem dX6_firstDifference_29 : decode cX6_firstDifference 29 = .ok (.ifCond .eq 5, 3) := by decide +kernel
theorem dX6_firstDifference_32 : decode cX6_firstDifference 32 = .ok (.iload_n 1, 1) := by decide +kernel
theorem dX6_firstDifference_33 : decode cX6_firstDifference 33 = .ok (.ireturn, 1) := by decide +kernel
theorem dX6_firstDifference_34 : decode cX6_firstDifference 34 = .ok (.iinc 1 1, 3) := by decide +kernel
theorem dX6_firstDifference_37 : decode cX6_firstDifference 37 = .ok (.goto (-22), 3) := by decide +kernel
theorem dX6_firstDifference_40 : decode cX6_firstDifference 40 = .ok (.bipush (-5), 2) := by decide +kernel
theorem dX6_firstDifference_42 : decode cX6_firstDifference 42 = .ok (.ireturn, 1) := by decide +kernel
set_option maxRecDepth 20000 in
theorem ggX6_setting_X6_isSetting : GoodIn wsX6_setting wsX6_isSetting := goodIn_r _ [5, 6, 7, 4, 8] (by rfl) (by decide +kernel)
set_option maxRecDepth 20000 in
theorem gX6_setting_X6_isSetting : GoodIn wsX6_setting (va_wsS RX6 177 yX6_isSetting wsX6_isSetting) := goodIn_app (goodIn_r _ [2, 3, 4] (by rfl) (by decide +kernel)) ggX6_setting_X6_isSetting
theorem dX6_setting_0 : decode cX6_setting 0 = .ok (.iload_n 1, 1) := by decide +kernel
theorem dX6_setting_1 : decode cX6_setting 1 = .ok (.invokestatic 177, 3) := by decide +kernel
theorem dX6_setting_4 : decode cX6_setting 4 = .ok (.ifCond .eq 15, 3) := by decide +kernel
theorem dX6_setting_7 : decode cX6_setting 7 = .ok (.aload_n 0, 1) := by decide +kernel
theorem dX6_setting_8 : decode cX6_setting 8 = .ok (.getfield 10, 3) := by decide +kernel
theorem dX6_setting_11 : decode cX6_setting 11 = .ok (.getfield 180, 3) := by decide +kernel
theorem dX6_setting_14 : decode cX6_setting 14 = .ok (.iload_n 1, 1) := by decide +kernel
theorem dX6_setting_15 : decode cX6_setting 15 = .ok (.iaload, 1) := by decide +kernel
theorem dX6_setting_16 : decode cX6_setting 16 = .ok (.goto 4, 3) := by decide +kernel
theorem dX6_setting_19 : decode cX6_setting 19 = .ok (.iconst (-1), 1) := by decide +kernel
theorem dX6_setting_20 : decode cX6_setting 20 = .ok (.ireturn, 1) := by decide +kernel
set_option maxRecDepth 20000 in
theorem ggX6_total_X6_isIn : GoodIn wsX6_total wsX6_isIn := goodIn_r _ [5] (by rfl) (by decide +kernel)
set_option maxRecDepth 20000 in
theorem gX6_total_X6_isIn : GoodIn wsX6_total (va_wsS RX6 135 yX6_isIn wsX6_isIn) := goodIn_app (goodIn_r _ [2, 3, 4] (by rfl) (by decide +kernel)) ggX6_total_X6_isIn
theorem dX6_total_0 : decode cX6_total 0 = .ok (.iload_n 1, 1) := by decide +kernel
theorem dX6_total_1 : decode cX6_total 1 = .ok (.iconst 0, 1) := by decide +kernel
theorem dX6_total_2 : decode cX6_total 2 = .ok (.bipush 7, 2) := by decide +kernel
theorem dX6_total_4 : decode cX6_total 4 = .ok (.invokestatic 135, 3) := by decide +kernel
theorem dX6_total_7 : decode cX6_total 7 = .ok (.ifCond .eq 15, 3) := by decide +kernel
theorem dX6_total_10 : decode cX6_total 10 = .ok (.aload_n 0, 1) := by decide +kernel
theorem dX6_total_11 : decode cX6_total 11 = .ok (.getfield 10, 3) := by decide +kernel
theorem dX6_total_14 : decode cX6_total 14 = .ok (.getfield 184, 3) := by decide +kernel
theorem dX6_total_17 : decode cX6_total 17 = .ok (.iload_n 1, 1) := by decide +kernel
theorem dX6_total_18 : decode cX6_total 18 = .ok (.iaload, 1) := by decide +kernel
theorem dX6_total_19 : decode cX6_total 19 = .ok (.goto 4, 3) := by decide +kernel
theorem dX6_total_22 : decode cX6_total 22 = .ok (.iconst (-1), 1) := by decide +kernel
theorem dX6_total_23 : decode cX6_total 23 = .ok (.ireturn, 1) := by decide +kernel
set_option maxRecDepth 20000 in
theorem ggX6_readyIn_X5_canBecomeReady : GoodIn wsX6_readyIn wsX5_canBecomeReady := goodIn_r _ [7, 8, 115, 116, 117, 118, 119, 120, 121, 122, 123, 124, 125, 126, 127] (by rfl) (by decide +kernel)
set_option maxRecDepth 20000 in
theorem gX6_readyIn_X5_canBecomeReady : GoodIn wsX6_readyIn (wsV RX6 190 RX5 yX5_canBecomeReady wsX5_canBecomeReady) := goodIn_app (goodIn_r _ [3, 4, 5, 6] (by rfl) (by decide +kernel)) ggX6_readyIn_X5_canBecomeReady
set_option maxRecDepth 20000 in
theorem ggX6_readyIn_X5_take : GoodIn wsX6_readyIn wsX5_take := goodIn_r _ [12, 13, 14, 15, 8, 16, 17, 18, 19, 20, 21, 22, 23, 24, 25, 26, 27, 28, 29, 30, 31, 32, 33, 34, 35, 36, 37, 38, 39, 40, 41, 42, 43, 44, 45, 46, 47, 48, 49, 50, 51, 115, 116, 117, 118, 119, 120, 128, 121, 122, 123, 124, 125, 126, 127, 129, 130, 131, 132] (by rfl) (by decide +kernel)
set_option maxRecDepth 20000 in
theorem gX6_readyIn_X5_take : GoodIn wsX6_readyIn (wsV RX6 106 RX5 yX5_take wsX5_take) := goodIn_app (goodIn_r _ [9, 10, 11, 6] (by rfl) (by decide +kernel)) ggX6_readyIn_X5_take
set_option maxRecDepth 20000 in
theorem ggX6_readyIn_X5_ticksUntilReady : GoodIn wsX6_readyIn wsX5_ticksUntilReady := goodIn_r _ [55, 8, 56, 57, 58, 6, 59, 21, 60, 61, 62, 63, 64, 65, 66, 67, 16, 68, 69, 70, 71, 72, 73, 74, 45, 75, 51, 47, 76, 77, 78, 79, 50, 80, 81, 82, 83, 49, 84, 85, 86, 87, 88, 89, 25, 90, 27, 91, 92, 93, 94, 95, 96, 97, 98, 13, 99, 100, 101, 102, 103, 104, 105, 32, 106, 39, 37, 34, 107, 108, 115, 116, 117, 118, 119, 120, 121, 122, 123, 124, 125, 126, 127, 129, 130, 131, 132, 128] (by rfl) (by decide +kernel)
set_option maxRecDepth 20000 in
theorem gX6_readyIn_X5_ticksUntilReady : GoodIn wsX6_readyIn (wsV RX6 193 RX5 yX5_ticksUntilReady wsX5_ticksUntilReady) := goodIn_app (goodIn_r _ [52, 53, 54, 6] (by rfl) (by decide +kernel)) ggX6_readyIn_X5_ticksUntilReady
theorem dX6_readyIn_0 : decode cX6_readyIn 0 = .ok (.aload_n 0, 1) := by decide +kernel
theorem dX6_readyIn_1 : decode cX6_readyIn 1 = .ok (.getfield 10, 3) := by decide +kernel
theorem dX6_readyIn_4 : decode cX6_readyIn 4 = .ok (.invokevirtual 190, 3) := by decide +kernel
theorem dX6_readyIn_7 : decode cX6_readyIn 7 = .ok (.ifCond .ne 6, 3) := by decide +kernel
theorem dX6_readyIn_10 : decode cX6_readyIn 10 = .ok (.bipush (-4), 2) := by decide +kernel
theorem dX6_readyIn_12 : decode cX6_readyIn 12 = .ok (.ireturn, 1) := by decide +kernel
theorem dX6_readyIn_13 : decode cX6_readyIn 13 = .ok (.aload_n 0, 1) := by decide +kernel
theorem dX6_readyIn_14 : decode cX6_readyIn 14 = .ok (.getfield 19, 3) := by decide +kernel
theorem dX6_readyIn_17 : decode cX6_readyIn 17 = .ok (.aload_n 0, 1) := by decide +kernel
theorem dX6_readyIn_18 : decode cX6_readyIn 18 = .ok (.getfield 10, 3) := by decide +kernel
theorem dX6_readyIn_21 : decode cX6_readyIn 21 = .ok (.invokevirtual 106, 3) := by decide +kernel
theorem dX6_readyIn_24 : decode cX6_readyIn 24 = .ok (.aload_n 0, 1) := by decide +kernel
theorem dX6_readyIn_25 : decode cX6_readyIn 25 = .ok (.getfield 19, 3) := by decide +kernel
theorem dX6_readyIn_28 : decode cX6_readyIn 28 = .ok (.sipush 200, 3) := by decide +kernel
theorem dX6_readyIn_31 : decode cX6_readyIn 31 = .ok (.invokevirtual 193, 3) := by decide +kernel
theorem dX6_readyIn_34 : decode cX6_readyIn 34 = .ok (.ireturn, 1) := by decide +kernel
set_option maxRecDepth 20000 in
theorem ggX6_leastLot_X6_isTicks : GoodIn wsX6_leastLot wsX6_isTicks := goodIn_r _ [6, 7, 8, 5, 9] (by rfl) (by decide +kernel)
set_option maxRecDepth 20000 in
theorem gX6_leastLot_X6_isTicks : GoodIn wsX6_leastLot (va_wsS RX6 196 yX6_isTicks wsX6_isTicks) := goodIn_app (goodIn_r _ [3, 4, 5] (by rfl) (by decide +kernel)) ggX6_leastLot_X6_isTicks
set_option maxRecDepth 20000 in
theorem ggX6_leastLot_X5_canBecomeReady : GoodIn wsX6_leastLot wsX5_canBecomeReady := goodIn_r _ [14, 15, 121, 122, 123, 124, 125, 126, 127, 128, 129, 130, 131, 132, 133] (by rfl) (by decide +kernel)
set_option maxRecDepth 20000 in
theorem gX6_leastLot_X5_canBecomeReady : GoodIn wsX6_leastLot (wsV RX6 190 RX5 yX5_canBecomeReady wsX5_canBecomeReady) := goodIn_app (goodIn_r _ [10, 11, 12, 13] (by rfl) (by decide +kernel)) ggX6_leastLot_X5_canBecomeReady
set_option maxRecDepth 20000 in
theorem ggX6_leastLot_X5_take : GoodIn wsX6_leastLot wsX5_take := goodIn_r _ [19, 20, 21, 22, 15, 23, 24, 25, 26, 27, 28, 29, 30, 31, 32, 33, 34, 35, 36, 37, 38, 39, 40, 41, 42, 43, 44, 45, 46, 47, 48, 49, 50, 51, 52, 53, 54, 55, 56, 57, 58, 121, 122, 123, 124, 125, 126, 134, 127, 128, 129, 130, 131, 132, 133, 135, 136, 137, 138] (by rfl) (by decide +kernel)
set_option maxRecDepth 20000 in
theorem gX6_leastLot_X5_take : GoodIn wsX6_leastLot (wsV RX6 106 RX5 yX5_take wsX5_take) := goodIn_app (goodIn_r _ [16, 17, 18, 13] (by rfl) (by decide +kernel)) ggX6_leastLot_X5_take
set_option maxRecDepth 20000 in
theorem ggX6_leastLot_X5_ticksUntilReady : GoodIn wsX6_leastLot wsX5_ticksUntilReady := goodIn_r _ [62, 15, 63, 64, 65, 13, 66, 28, 67, 68, 69, 70, 71, 72, 73, 74, 23, 75, 76, 77, 78, 79, 80, 81, 52, 82, 58, 54, 83, 84, 85, 86, 57, 87, 88, 89, 90, 56, 91, 5, 92, 93, 94, 95, 32, 96, 34, 97, 98, 99, 100, 101, 102, 103, 104, 20, 105, 106, 107, 108, 109, 110, 111, 39, 112, 46, 44, 41, 113, 114, 121, 122, 123, 124, 125, 126, 127, 128, 129, 130, 131, 132, 133, 135, 136, 137, 138, 134] (by rfl) (by decide +kernel)
set_option maxRecDepth 20000 in
theorem gX6_leastLot_X5_ticksUntilReady : GoodIn wsX6_leastLot (wsV RX6 193 RX5 yX5_ticksUntilReady wsX5_ticksUntilReady) := goodIn_app (goodIn_r _ [59, 60, 61, 13] (by rfl) (by decide +kernel)) ggX6_leastLot_X5_ticksUntilReady
theorem dX6_leastLot_0 : decode cX6_leastLot 0 = .ok (.iload_n 1, 1) := by decide +kernel
theorem dX6_leastLot_1 : decode cX6_leastLot 1 = .ok (.invokestatic 196, 3) := by decide +kernel
theorem dX6_leastLot_4 : decode cX6_leastLot 4 = .ok (.ifCond .ne 6, 3) := by decide +kernel
theorem dX6_leastLot_7 : decode cX6_leastLot 7 = .ok (.bipush (-2), 2) := by decide +kernel
theorem dX6_leastLot_9 : decode cX6_leastLot 9 = .ok (.ireturn, 1) := by decide +kernel
theorem dX6_leastLot_10 : decode cX6_leastLot 10 = .ok (.aload_n 0, 1) := by decide +kernel
theorem dX6_leastLot_11 : decode cX6_leastLot 11 = .ok (.getfield 10, 3) := by decide +kernel
theorem dX6_leastLot_14 : decode cX6_leastLot 14 = .ok (.invokevirtual 190, 3) := by decide +kernel
theorem dX6_leastLot_17 : decode cX6_leastLot 17 = .ok (.ifCond .ne 6, 3) := by decide +kernel
theorem dX6_leastLot_20 : decode cX6_leastLot 20 = .ok (.bipush (-4), 2) := by decide +kernel
theorem dX6_leastLot_22 : decode cX6_leastLot 22 = .ok (.ireturn, 1) := by decide +kernel
theorem dX6_leastLot_23 : decode cX6_leastLot 23 = .ok (.iconst 1, 1) := by decide +kernel
theorem dX6_leastLot_24 : decode cX6_leastLot 24 = .ok (.istore_n 2, 1) := by decide +kernel
theorem dX6_leastLot_25 : decode cX6_leastLot 25 = .ok (.iload_n 2, 1) := by decide +kernel
theorem dX6_leastLot_26 : decode cX6_leastLot 26 = .ok (.bipush 8, 2) := by decide +kernel
theorem dX6_leastLot_28 : decode cX6_leastLot 28 = .ok (.if_icmp .gt 46, 3) := by decide +kernel
theorem dX6_leastLot_31 : decode cX6_leastLot 31 = .ok (.aload_n 0, 1) := by decide +kernel
theorem dX6_leastLot_32 : decode cX6_leastLot 32 = .ok (.getfield 19, 3) := by decide +kernel
theorem dX6_leastLot_35 : decode cX6_leastLot 35 = .ok (.aload_n 0, 1) := by decide +kernel
theorem dX6_leastLot_36 : decode cX6_leastLot 36 = .ok (.getfield 10, 3) := by decide +kernel
theorem dX6_leastLot_39 : decode cX6_leastLot 39 = .ok (.invokevirtual 106, 3) := by decide +kernel
theorem dX6_leastLot_42 : decode cX6_leastLot 42 = .ok (.aload_n 0, 1) := by decide +kernel
theorem dX6_leastLot_43 : decode cX6_leastLot 43 = .ok (.getfield 19, 3) := by decide +kernel
theorem dX6_leastLot_46 : decode cX6_leastLot 46 = .ok (.getfield 142, 3) := by decide +kernel
theorem dX6_leastLot_49 : decode cX6_leastLot 49 = .ok (.iload_n 2, 1) := by decide +kernel
theorem dX6_leastLot_50 : decode cX6_leastLot 50 = .ok (.putfield 199, 3) := by decide +kernel
theorem dX6_leastLot_53 : decode cX6_leastLot 53 = .ok (.aload_n 0, 1) := by decide +kernel
theorem dX6_leastLot_54 : decode cX6_leastLot 54 = .ok (.getfield 19, 3) := by decide +kernel
theorem dX6_leastLot_57 : decode cX6_leastLot 57 = .ok (.iload_n 1, 1) := by decide +kernel
theorem dX6_leastLot_58 : decode cX6_leastLot 58 = .ok (.invokevirtual 193, 3) := by decide +kernel
theorem dX6_leastLot_61 : decode cX6_leastLot 61 = .ok (.bipush (-5), 2) := by decide +kernel
theorem dX6_leastLot_63 : decode cX6_leastLot 63 = .ok (.if_icmp .eq 5, 3) := by decide +kernel
theorem dX6_leastLot_66 : decode cX6_leastLot 66 = .ok (.iload_n 2, 1) := by decide +kernel
theorem dX6_leastLot_67 : decode cX6_leastLot 67 = .ok (.ireturn, 1) := by decide +kernel
theorem dX6_leastLot_68 : decode cX6_leastLot 68 = .ok (.iinc 2 1, 3) := by decide +kernel
theorem dX6_leastLot_71 : decode cX6_leastLot 71 = .ok (.goto (-46), 3) := by decide +kernel
theorem dX6_leastLot_74 : decode cX6_leastLot 74 = .ok (.bipush (-5), 2) := by decide +kernel
theorem dX6_leastLot_76 : decode cX6_leastLot 76 = .ok (.ireturn, 1) := by decide +kernel
set_option maxRecDepth 20000 in
theorem ggX6_progress_X5_hasCopy : GoodIn wsX6_progress wsX5_hasCopy := goodIn_r _ [7, 8, 15, 16, 17, 18, 19, 20, 21, 22, 23, 24, 25, 26, 27] (by rfl) (by decide +kernel)
set_option maxRecDepth 20000 in
theorem gX6_progress_X5_hasCopy : GoodIn wsX6_progress (wsV RX6 149 RX5 yX5_hasCopy wsX5_hasCopy) := goodIn_app (goodIn_r _ [3, 4, 5, 6] (by rfl) (by decide +kernel)) ggX6_progress_X5_hasCopy
theorem dX6_progress_0 : decode cX6_progress 0 = .ok (.aload_n 0, 1) := by decide +kernel
theorem dX6_progress_1 : decode cX6_progress 1 = .ok (.getfield 10, 3) := by decide +kernel
theorem dX6_progress_4 : decode cX6_progress 4 = .ok (.invokevirtual 149, 3) := by decide +kernel
theorem dX6_progress_7 : decode cX6_progress 7 = .ok (.ifCond .eq 21, 3) := by decide +kernel
theorem dX6_progress_10 : decode cX6_progress 10 = .ok (.aload_n 0, 1) := by decide +kernel
theorem dX6_progress_11 : decode cX6_progress 11 = .ok (.getfield 10, 3) := by decide +kernel
theorem dX6_progress_14 : decode cX6_progress 14 = .ok (.getfield 142, 3) := by decide +kernel
theorem dX6_progress_17 : decode cX6_progress 17 = .ok (.getfield 202, 3) := by decide +kernel
theorem dX6_progress_20 : decode cX6_progress 20 = .ok (.i2d, 1) := by decide +kernel
theorem dX6_progress_21 : decode cX6_progress 21 = .ok (.ldc2_w 205, 3) := by decide +kernel
theorem dX6_progress_24 : decode cX6_progress 24 = .ok (.ddiv, 1) := by decide +kernel
theorem dX6_progress_25 : decode cX6_progress 25 = .ok (.goto 4, 3) := by decide +kernel
theorem dX6_progress_28 : decode cX6_progress 28 = .ok (.dconst 0, 1) := by decide +kernel
theorem dX6_progress_29 : decode cX6_progress 29 = .ok (.dreturn, 1) := by decide +kernel
set_option maxRecDepth 20000 in
theorem ggX6_recorded_X6_isError : GoodIn wsX6_recorded wsX6_isError := goodIn_r _ [5] (by rfl) (by decide +kernel)
set_option maxRecDepth 20000 in
theorem gX6_recorded_X6_isError : GoodIn wsX6_recorded (va_wsS RX6 95 yX6_isError wsX6_isError) := goodIn_app (goodIn_r _ [2, 3, 4] (by rfl) (by decide +kernel)) ggX6_recorded_X6_isError
set_option maxRecDepth 20000 in
theorem ggX6_recorded_X1_keepPrepared : GoodIn wsX6_recorded wsX1_keepPrepared := goodIn_r _ [10, 11, 12, 13, 14, 15, 9, 16, 23, 24, 25] (by rfl) (by decide +kernel)
set_option maxRecDepth 20000 in
theorem gX6_recorded_X1_keepPrepared : GoodIn wsX6_recorded (wsV RX6 82 RX1 yX1_keepPrepared wsX1_keepPrepared) := goodIn_app (goodIn_r _ [6, 7, 8, 9] (by rfl) (by decide +kernel)) ggX6_recorded_X1_keepPrepared
theorem dX6_recorded_0 : decode cX6_recorded 0 = .ok (.iload_n 1, 1) := by decide +kernel
theorem dX6_recorded_1 : decode cX6_recorded 1 = .ok (.invokestatic 95, 3) := by decide +kernel
theorem dX6_recorded_4 : decode cX6_recorded 4 = .ok (.ifCond .ne 10, 3) := by decide +kernel
theorem dX6_recorded_7 : decode cX6_recorded 7 = .ok (.aload_n 0, 1) := by decide +kernel
theorem dX6_recorded_8 : decode cX6_recorded 8 = .ok (.getfield 25, 3) := by decide +kernel
theorem dX6_recorded_11 : decode cX6_recorded 11 = .ok (.invokevirtual 82, 3) := by decide +kernel
theorem dX6_recorded_14 : decode cX6_recorded 14 = .ok (.iload_n 1, 1) := by decide +kernel
theorem dX6_recorded_15 : decode cX6_recorded 15 = .ok (.ireturn, 1) := by decide +kernel
theorem dX6_isError_0 : decode cX6_isError 0 = .ok (.iload_n 0, 1) := by decide +kernel
theorem dX6_isError_1 : decode cX6_isError 1 = .ok (.ifCond .ge 13, 3) := by decide +kernel
theorem dX6_isError_4 : decode cX6_isError 4 = .ok (.iload_n 0, 1) := by decide +kernel
theorem dX6_isError_5 : decode cX6_isError 5 = .ok (.bipush (-5), 2) := by decide +kernel
theorem dX6_isError_7 : decode cX6_isError 7 = .ok (.if_icmp .eq 7, 3) := by decide +kernel
theorem dX6_isError_10 : decode cX6_isError 10 = .ok (.iconst 1, 1) := by decide +kernel
theorem dX6_isError_11 : decode cX6_isError 11 = .ok (.goto 4, 3) := by decide +kernel
theorem dX6_isError_14 : decode cX6_isError 14 = .ok (.iconst 0, 1) := by decide +kernel
theorem dX6_isError_15 : decode cX6_isError 15 = .ok (.ireturn, 1) := by decide +kernel
theorem dX6_isIn_0 : decode cX6_isIn 0 = .ok (.iload_n 0, 1) := by decide +kernel
theorem dX6_isIn_1 : decode cX6_isIn 1 = .ok (.iload_n 1, 1) := by decide +kernel
theorem dX6_isIn_2 : decode cX6_isIn 2 = .ok (.if_icmp .lt 12, 3) := by decide +kernel
theorem dX6_isIn_5 : decode cX6_isIn 5 = .ok (.iload_n 0, 1) := by decide +kernel
theorem dX6_isIn_6 : decode cX6_isIn 6 = .ok (.iload_n 2, 1) := by decide +kernel
theorem dX6_isIn_7 : decode cX6_isIn 7 = .ok (.if_icmp .gt 7, 3) := by decide +kernel
theorem dX6_isIn_10 : decode cX6_isIn 10 = .ok (.iconst 1, 1) := by decide +kernel
theorem dX6_isIn_11 : decode cX6_isIn 11 = .ok (.goto 4, 3) := by decide +kernel
theorem dX6_isIn_14 : decode cX6_isIn 14 = .ok (.iconst 0, 1) := by decide +kernel
theorem dX6_isIn_15 : decode cX6_isIn 15 = .ok (.ireturn, 1) := by decide +kernel
set_option maxRecDepth 20000 in
theorem ggX6_isKey_X6_isIn : GoodIn wsX6_isKey wsX6_isIn := goodIn_r _ [4] (by rfl) (by decide +kernel)
set_option maxRecDepth 20000 in
theorem gX6_isKey_X6_isIn : GoodIn wsX6_isKey (va_wsS RX6 135 yX6_isIn wsX6_isIn) := goodIn_app (goodIn_r _ [1, 2, 3] (by rfl) (by decide +kernel)) ggX6_isKey_X6_isIn
theorem dX6_isKey_0 : decode cX6_isKey 0 = .ok (.iload_n 0, 1) := by decide +kernel
theorem dX6_isKey_1 : decode cX6_isKey 1 = .ok (.iconst 0, 1) := by decide +kernel
theorem dX6_isKey_2 : decode cX6_isKey 2 = .ok (.bipush 31, 2) := by decide +kernel
theorem dX6_isKey_4 : decode cX6_isKey 4 = .ok (.invokestatic 135, 3) := by decide +kernel
theorem dX6_isKey_7 : decode cX6_isKey 7 = .ok (.ireturn, 1) := by decide +kernel
set_option maxRecDepth 20000 in
theorem ggX6_isValue_X6_isIn : GoodIn wsX6_isValue wsX6_isIn := goodIn_r _ [4] (by rfl) (by decide +kernel)
set_option maxRecDepth 20000 in
theorem gX6_isValue_X6_isIn : GoodIn wsX6_isValue (va_wsS RX6 135 yX6_isIn wsX6_isIn) := goodIn_app (goodIn_r _ [1, 2, 3] (by rfl) (by decide +kernel)) ggX6_isValue_X6_isIn
theorem dX6_isValue_0 : decode cX6_isValue 0 = .ok (.iload_n 0, 1) := by decide +kernel
theorem dX6_isValue_1 : decode cX6_isValue 1 = .ok (.iconst 0, 1) := by decide +kernel
theorem dX6_isValue_2 : decode cX6_isValue 2 = .ok (.bipush 99, 2) := by decide +kernel
theorem dX6_isValue_4 : decode cX6_isValue 4 = .ok (.invokestatic 135, 3) := by decide +kernel
theorem dX6_isValue_7 : decode cX6_isValue 7 = .ok (.ireturn, 1) := by decide +kernel
set_option maxRecDepth 20000 in
theorem ggX6_isKind_X6_isIn : GoodIn wsX6_isKind wsX6_isIn := goodIn_r _ [4] (by rfl) (by decide +kernel)
set_option maxRecDepth 20000 in
theorem gX6_isKind_X6_isIn : GoodIn wsX6_isKind (va_wsS RX6 135 yX6_isIn wsX6_isIn) := goodIn_app (goodIn_r _ [1, 2, 3] (by rfl) (by decide +kernel)) ggX6_isKind_X6_isIn
theorem dX6_isKind_0 : decode cX6_isKind 0 = .ok (.iload_n 0, 1) := by decide +kernel
theorem dX6_isKind_1 : decode cX6_isKind 1 = .ok (.iconst 0, 1) := by decide +kernel
theorem dX6_isKind_2 : decode cX6_isKind 2 = .ok (.iconst 4, 1) := by decide +kernel
theorem dX6_isKind_3 : decode cX6_isKind 3 = .ok (.invokestatic 135, 3) := by decide +kernel
theorem dX6_isKind_6 : decode cX6_isKind 6 = .ok (.ireturn, 1) := by decide +kernel
set_option maxRecDepth 20000 in
theorem ggX6_isLot_X6_isIn : GoodIn wsX6_isLot wsX6_isIn := goodIn_r _ [4] (by rfl) (by decide +kernel)
set_option maxRecDepth 20000 in
theorem gX6_isLot_X6_isIn : GoodIn wsX6_isLot (va_wsS RX6 135 yX6_isIn wsX6_isIn) := goodIn_app (goodIn_r _ [1, 2, 3] (by rfl) (by decide +kernel)) ggX6_isLot_X6_isIn
theorem dX6_isLot_0 : decode cX6_isLot 0 = .ok (.iload_n 0, 1) := by decide +kernel
theorem dX6_isLot_1 : decode cX6_isLot 1 = .ok (.iconst 1, 1) := by decide +kernel
theorem dX6_isLot_2 : decode cX6_isLot 2 = .ok (.bipush 8, 2) := by decide +kernel
theorem dX6_isLot_4 : decode cX6_isLot 4 = .ok (.invokestatic 135, 3) := by decide +kernel
theorem dX6_isLot_7 : decode cX6_isLot 7 = .ok (.ireturn, 1) := by decide +kernel
set_option maxRecDepth 20000 in
theorem ggX6_isTicks_X6_isIn : GoodIn wsX6_isTicks wsX6_isIn := goodIn_r _ [4] (by rfl) (by decide +kernel)
set_option maxRecDepth 20000 in
theorem gX6_isTicks_X6_isIn : GoodIn wsX6_isTicks (va_wsS RX6 135 yX6_isIn wsX6_isIn) := goodIn_app (goodIn_r _ [1, 2, 3] (by rfl) (by decide +kernel)) ggX6_isTicks_X6_isIn
theorem dX6_isTicks_0 : decode cX6_isTicks 0 = .ok (.iload_n 0, 1) := by decide +kernel
theorem dX6_isTicks_1 : decode cX6_isTicks 1 = .ok (.iconst 1, 1) := by decide +kernel
theorem dX6_isTicks_2 : decode cX6_isTicks 2 = .ok (.bipush 99, 2) := by decide +kernel
theorem dX6_isTicks_4 : decode cX6_isTicks 4 = .ok (.invokestatic 135, 3) := by decide +kernel
theorem dX6_isTicks_7 : decode cX6_isTicks 7 = .ok (.ireturn, 1) := by decide +kernel
set_option maxRecDepth 20000 in
theorem ggX6_isTable_X6_isIn : GoodIn wsX6_isTable wsX6_isIn := goodIn_r _ [4] (by rfl) (by decide +kernel)
set_option maxRecDepth 20000 in
theorem gX6_isTable_X6_isIn : GoodIn wsX6_isTable (va_wsS RX6 135 yX6_isIn wsX6_isIn) := goodIn_app (goodIn_r _ [1, 2, 3] (by rfl) (by decide +kernel)) ggX6_isTable_X6_isIn
theorem dX6_isTable_0 : decode cX6_isTable 0 = .ok (.iload_n 0, 1) := by decide +kernel
theorem dX6_isTable_1 : decode cX6_isTable 1 = .ok (.iconst 0, 1) := by decide +kernel
theorem dX6_isTable_2 : decode cX6_isTable 2 = .ok (.iconst 2, 1) := by decide +kernel
theorem dX6_isTable_3 : decode cX6_isTable 3 = .ok (.invokestatic 135, 3) := by decide +kernel
theorem dX6_isTable_6 : decode cX6_isTable 6 = .ok (.ireturn, 1) := by decide +kernel
set_option maxRecDepth 20000 in
theorem ggX6_isSetting_X6_isIn : GoodIn wsX6_isSetting wsX6_isIn := goodIn_r _ [4] (by rfl) (by decide +kernel)
set_option maxRecDepth 20000 in
theorem gX6_isSetting_X6_isIn : GoodIn wsX6_isSetting (va_wsS RX6 135 yX6_isIn wsX6_isIn) := goodIn_app (goodIn_r _ [1, 2, 3] (by rfl) (by decide +kernel)) ggX6_isSetting_X6_isIn
theorem dX6_isSetting_0 : decode cX6_isSetting 0 = .ok (.iload_n 0, 1) := by decide +kernel
theorem dX6_isSetting_1 : decode cX6_isSetting 1 = .ok (.iconst 0, 1) := by decide +kernel
theorem dX6_isSetting_2 : decode cX6_isSetting 2 = .ok (.iconst 3, 1) := by decide +kernel
theorem dX6_isSetting_3 : decode cX6_isSetting 3 = .ok (.invokestatic 135, 3) := by decide +kernel
theorem dX6_isSetting_6 : decode cX6_isSetting 6 = .ok (.ireturn, 1) := by decide +kernel
theorem dX6_changedValue_0 : decode cX6_changedValue 0 = .ok (.iload_n 2, 1) := by decide +kernel
theorem dX6_changedValue_1 : decode cX6_changedValue 1 = .ok (.bipush (-5), 2) := by decide +kernel
theorem dX6_changedValue_3 : decode cX6_changedValue 3 = .ok (.if_icmp .ne 6, 3) := by decide +kernel
theorem dX6_changedValue_6 : decode cX6_changedValue 6 = .ok (.bipush (-5), 2) := by decide +kernel
theorem dX6_changedValue_8 : decode cX6_changedValue 8 = .ok (.ireturn, 1) := by decide +kernel
theorem dX6_changedValue_9 : decode cX6_changedValue 9 = .ok (.iload_n 0, 1) := by decide +kernel
theorem dX6_changedValue_10 : decode cX6_changedValue 10 = .ok (.tableswitch 70 1 4 #[30, 37, 50, 63], 30) := by decide +kernel
theorem dX6_changedValue_40 : decode cX6_changedValue 40 = .ok (.iconst 2, 1) := by decide +kernel
theorem dX6_changedValue_41 : decode cX6_changedValue 41 = .ok (.iload_n 2, 1) := by decide +kernel
theorem dX6_changedValue_42 : decode cX6_changedValue 42 = .ok (.imul, 1) := by decide +kernel
theorem dX6_changedValue_43 : decode cX6_changedValue 43 = .ok (.bipush 100, 2) := by decide +kernel
theorem dX6_changedValue_45 : decode cX6_changedValue 45 = .ok (.irem, 1) := by decide +kernel
theorem dX6_changedValue_46 : decode cX6_changedValue 46 = .ok (.ireturn, 1) := by decide +kernel
theorem dX6_changedValue_47 : decode cX6_changedValue 47 = .ok (.iload_n 2, 1) := by decide +kernel
theorem dX6_changedValue_48 : decode cX6_changedValue 48 = .ok (.bipush 10, 2) := by decide +kernel
theorem dX6_changedValue_50 : decode cX6_changedValue 50 = .ok (.irem, 1) := by decide +kernel
theorem dX6_changedValue_51 : decode cX6_changedValue 51 = .ok (.bipush 10, 2) := by decide +kernel
theorem dX6_changedValue_53 : decode cX6_changedValue 53 = .ok (.imul, 1) := by decide +kernel
theorem dX6_changedValue_54 : decode cX6_changedValue 54 = .ok (.iload_n 2, 1) := by decide +kernel
theorem dX6_changedValue_55 : decode cX6_changedValue 55 = .ok (.bipush 10, 2) := by decide +kernel
theorem dX6_changedValue_57 : decode cX6_changedValue 57 = .ok (.idiv, 1) := by decide +kernel
theorem dX6_changedValue_58 : decode cX6_changedValue 58 = .ok (.iadd, 1) := by decide +kernel
theorem dX6_changedValue_59 : decode cX6_changedValue 59 = .ok (.ireturn, 1) := by decide +kernel
theorem dX6_changedValue_60 : decode cX6_changedValue 60 = .ok (.iload_n 2, 1) := by decide +kernel
theorem dX6_changedValue_61 : decode cX6_changedValue 61 = .ok (.iconst 2, 1) := by decide +kernel
theorem dX6_changedValue_62 : decode cX6_changedValue 62 = .ok (.irem, 1) := by decide +kernel
theorem dX6_changedValue_63 : decode cX6_changedValue 63 = .ok (.ifCond .ne 7, 3) := by decide +kernel
theorem dX6_changedValue_66 : decode cX6_changedValue 66 = .ok (.iload_n 2, 1) := by decide +kernel
theorem dX6_changedValue_67 : decode cX6_changedValue 67 = .ok (.goto 5, 3) := by decide +kernel
theorem dX6_changedValue_70 : decode cX6_changedValue 70 = .ok (.bipush (-5), 2) := by decide +kernel
theorem dX6_changedValue_72 : decode cX6_changedValue 72 = .ok (.ireturn, 1) := by decide +kernel
theorem dX6_changedValue_73 : decode cX6_changedValue 73 = .ok (.iload_n 2, 1) := by decide +kernel
theorem dX6_changedValue_74 : decode cX6_changedValue 74 = .ok (.iload_n 1, 1) := by decide +kernel
theorem dX6_changedValue_75 : decode cX6_changedValue 75 = .ok (.iadd, 1) := by decide +kernel
theorem dX6_changedValue_76 : decode cX6_changedValue 76 = .ok (.bipush 100, 2) := by decide +kernel
theorem dX6_changedValue_78 : decode cX6_changedValue 78 = .ok (.irem, 1) := by decide +kernel
theorem dX6_changedValue_79 : decode cX6_changedValue 79 = .ok (.ireturn, 1) := by decide +kernel
theorem dX6_changedValue_80 : decode cX6_changedValue 80 = .ok (.iload_n 2, 1) := by decide +kernel
theorem dX6_changedValue_81 : decode cX6_changedValue 81 = .ok (.ireturn, 1) := by decide +kernel
theorem dJ7_fill_53178_0 : decode cJ7_fill_53178 0 = .ok (.iconst 0, 1) := by decide +kernel
theorem dJ7_fill_53178_1 : decode cJ7_fill_53178 1 = .ok (.istore_n 2, 1) := by decide +kernel
theorem dJ7_fill_53178_2 : decode cJ7_fill_53178 2 = .ok (.aload_n 0, 1) := by decide +kernel
theorem dJ7_fill_53178_3 : decode cJ7_fill_53178 3 = .ok (.arraylength, 1) := by decide +kernel
theorem dJ7_fill_53178_4 : decode cJ7_fill_53178 4 = .ok (.istore_n 3, 1) := by decide +kernel
theorem dJ7_fill_53178_5 : decode cJ7_fill_53178 5 = .ok (.iload_n 2, 1) := by decide +kernel
theorem dJ7_fill_53178_6 : decode cJ7_fill_53178 6 = .ok (.iload_n 3, 1) := by decide +kernel
theorem dJ7_fill_53178_7 : decode cJ7_fill_53178 7 = .ok (.if_icmp .ge 13, 3) := by decide +kernel
theorem dJ7_fill_53178_10 : decode cJ7_fill_53178 10 = .ok (.aload_n 0, 1) := by decide +kernel
theorem dJ7_fill_53178_11 : decode cJ7_fill_53178 11 = .ok (.iload_n 2, 1) := by decide +kernel
theorem dJ7_fill_53178_12 : decode cJ7_fill_53178 12 = .ok (.iload_n 1, 1) := by decide +kernel
theorem dJ7_fill_53178_13 : decode cJ7_fill_53178 13 = .ok (.iastore, 1) := by decide +kernel
theorem dJ7_fill_53178_14 : decode cJ7_fill_53178 14 = .ok (.iinc 2 1, 3) := by decide +kernel
theorem dJ7_fill_53178_17 : decode cJ7_fill_53178 17 = .ok (.goto (-12), 3) := by decide +kernel
theorem dJ7_fill_53178_20 : decode cJ7_fill_53178 20 = .ok (.return_, 1) := by decide +kernel
theorem dL_cell_0 : decode cL_cell 0 = .ok (.iload_n 1, 1) := by decide +kernel
theorem dL_cell_1 : decode cL_cell 1 = .ok (.aload_n 0, 1) := by decide +kernel
theorem dL_cell_2 : decode cL_cell 2 = .ok (.arraylength, 1) := by decide +kernel
theorem dL_cell_3 : decode cL_cell 3 = .ok (.if_icmp .ge 9, 3) := by decide +kernel
theorem dL_cell_6 : decode cL_cell 6 = .ok (.aload_n 0, 1) := by decide +kernel
theorem dL_cell_7 : decode cL_cell 7 = .ok (.iload_n 1, 1) := by decide +kernel
theorem dL_cell_8 : decode cL_cell 8 = .ok (.iaload, 1) := by decide +kernel
theorem dL_cell_9 : decode cL_cell 9 = .ok (.goto 12, 3) := by decide +kernel
theorem dL_cell_12 : decode cL_cell 12 = .ok (.ldc 7, 2) := by decide +kernel
theorem dL_cell_14 : decode cL_cell 14 = .ok (.iload_n 1, 1) := by decide +kernel
theorem dL_cell_15 : decode cL_cell 15 = .ok (.iconst 5, 1) := by decide +kernel
theorem dL_cell_16 : decode cL_cell 16 = .ok (.iadd, 1) := by decide +kernel
theorem dL_cell_17 : decode cL_cell 17 = .ok (.imul, 1) := by decide +kernel
theorem dL_cell_18 : decode cL_cell 18 = .ok (.ldc 8, 2) := by decide +kernel
theorem dL_cell_20 : decode cL_cell 20 = .ok (.iadd, 1) := by decide +kernel
theorem dL_cell_21 : decode cL_cell 21 = .ok (.ireturn, 1) := by decide +kernel
theorem dL_low_0 : decode cL_low 0 = .ok (.iload_n 0, 1) := by decide +kernel
theorem dL_low_1 : decode cL_low 1 = .ok (.ldc 9, 2) := by decide +kernel
theorem dL_low_3 : decode cL_low 3 = .ok (.iand, 1) := by decide +kernel
theorem dL_low_4 : decode cL_low 4 = .ok (.iload_n 1, 1) := by decide +kernel
theorem dL_low_5 : decode cL_low 5 = .ok (.irem, 1) := by decide +kernel
theorem dL_low_6 : decode cL_low 6 = .ok (.ireturn, 1) := by decide +kernel
set_option maxRecDepth 20000 in
theorem ggL_due_X6_value : GoodIn wsL_due wsX6_value := goodIn_r _ [5, 6, 7, 8, 4, 9, 10, 11, 12, 13, 14, 15, 16, 17, 18, 19, 20, 21, 22, 23, 24, 25, 26, 27, 28, 29, 30, 31, 32, 33, 34, 63, 64, 65, 66, 67, 68, 69, 70, 71, 72, 73, 74, 75, 76, 77, 78, 79, 80, 81, 82] (by rfl) (by decide +kernel)
set_option maxRecDepth 20000 in
theorem gL_due_X6_value : GoodIn wsL_due (wsV RL 10 RX6 yX6_value wsX6_value) := goodIn_app (goodIn_r _ [1, 2, 3, 4] (by rfl) (by decide +kernel)) ggL_due_X6_value
set_option maxRecDepth 20000 in
theorem ggL_due_X6_copy : GoodIn wsL_due wsX6_copy := goodIn_r _ [38, 6, 10, 11, 4, 12, 39, 40, 41, 42, 43, 44, 45, 46, 47, 48, 49, 63, 64, 65, 66, 67, 68, 69, 70, 71, 72, 73, 74, 75, 76, 77, 78, 79, 80, 81, 83, 84, 85, 86] (by rfl) (by decide +kernel)
set_option maxRecDepth 20000 in
theorem gL_due_X6_copy : GoodIn wsL_due (wsV RL 16 RX6 yX6_copy wsX6_copy) := goodIn_app (goodIn_r _ [35, 36, 37, 4] (by rfl) (by decide +kernel)) ggL_due_X6_copy
set_option maxRecDepth 20000 in
theorem ggL_due_X6_changed : GoodIn wsL_due wsX6_changed := goodIn_r _ [53, 7, 8, 4, 9, 10, 11, 12, 54, 55, 56, 57, 58, 59, 60, 61, 62] (by rfl) (by decide +kernel)
set_option maxRecDepth 20000 in
theorem gL_due_X6_changed : GoodIn wsL_due (wsV RL 20 RX6 yX6_changed wsX6_changed) := goodIn_app (goodIn_r _ [50, 51, 52, 4] (by rfl) (by decide +kernel)) ggL_due_X6_changed
theorem dL_due_0 : decode cL_due 0 = .ok (.aload_n 0, 1) := by decide +kernel
theorem dL_due_1 : decode cL_due 1 = .ok (.iconst 0, 1) := by decide +kernel
theorem dL_due_2 : decode cL_due 2 = .ok (.iload_n 1, 1) := by decide +kernel
theorem dL_due_3 : decode cL_due 3 = .ok (.invokevirtual 10, 3) := by decide +kernel
theorem dL_due_6 : decode cL_due 6 = .ok (.istore_n 2, 1) := by decide +kernel
theorem dL_due_7 : decode cL_due 7 = .ok (.iload_n 2, 1) := by decide +kernel
theorem dL_due_8 : decode cL_due 8 = .ok (.ifCond .ge 8, 3) := by decide +kernel
theorem dL_due_11 : decode cL_due 11 = .ok (.bipush (-5), 2) := by decide +kernel
theorem dL_due_13 : decode cL_due 13 = .ok (.goto 14, 3) := by decide +kernel
theorem dL_due_16 : decode cL_due 16 = .ok (.aload_n 0, 1) := by decide +kernel
theorem dL_due_17 : decode cL_due 17 = .ok (.aload_n 0, 1) := by decide +kernel
theorem dL_due_18 : decode cL_due 18 = .ok (.iconst 1, 1) := by decide +kernel
theorem dL_due_19 : decode cL_due 19 = .ok (.invokevirtual 16, 3) := by decide +kernel
theorem dL_due_22 : decode cL_due 22 = .ok (.iload_n 1, 1) := by decide +kernel
theorem dL_due_23 : decode cL_due 23 = .ok (.iload_n 2, 1) := by decide +kernel
theorem dL_due_24 : decode cL_due 24 = .ok (.invokevirtual 20, 3) := by decide +kernel
theorem dL_due_27 : decode cL_due 27 = .ok (.ireturn, 1) := by decide +kernel
set_option maxRecDepth 20000 in
theorem ggL_holds_X6_copy : GoodIn wsL_holds wsX6_copy := goodIn_r _ [5, 6, 7, 8, 4, 9, 10, 11, 12, 13, 14, 15, 16, 17, 18, 19, 20, 200, 201, 202, 203, 204, 205, 206, 207, 208, 209, 210, 211, 212, 213, 214, 215, 216, 217, 218, 219, 220, 221, 222] (by rfl) (by decide +kernel)
set_option maxRecDepth 20000 in
theorem gL_holds_X6_copy : GoodIn wsL_holds (wsV RL 16 RX6 yX6_copy wsX6_copy) := goodIn_app (goodIn_r _ [1, 2, 3, 4] (by rfl) (by decide +kernel)) ggL_holds_X6_copy
set_option maxRecDepth 20000 in
theorem ggL_holds_X6_value : GoodIn wsL_holds wsX6_value := goodIn_r _ [24, 6, 25, 26, 4, 27, 7, 8, 9, 28, 29, 30, 31, 32, 33, 34, 35, 36, 37, 38, 39, 40, 41, 42, 43, 44, 45, 46, 47, 48, 49, 200, 201, 202, 203, 204, 205, 206, 207, 208, 209, 210, 211, 212, 213, 214, 215, 216, 217, 218, 223] (by rfl) (by decide +kernel)
set_option maxRecDepth 20000 in
theorem gL_holds_X6_value : GoodIn wsL_holds (wsV RL 10 RX6 yX6_value wsX6_value) := goodIn_app (goodIn_r _ [21, 22, 23, 4] (by rfl) (by decide +kernel)) ggL_holds_X6_value
set_option maxRecDepth 20000 in
theorem ggL_holds_L_due : GoodIn wsL_holds wsL_due := goodIn_r _ [53, 21, 22, 23, 4, 24, 6, 25, 26, 27, 7, 8, 9, 28, 29, 30, 31, 32, 33, 34, 35, 36, 37, 38, 39, 40, 41, 42, 43, 44, 45, 46, 47, 48, 49, 1, 2, 3, 5, 10, 11, 12, 13, 14, 15, 16, 17, 18, 19, 20, 54, 55, 56, 57, 58, 59, 60, 61, 62, 63, 64, 65, 66, 200, 201, 202, 203, 204, 205, 206, 207, 208, 209, 210, 211, 212, 213, 214, 215, 216, 217, 218, 223, 219, 220, 221, 222] (by rfl) (by decide +kernel)
set_option maxRecDepth 20000 in
theorem gL_holds_L_due : GoodIn wsL_holds (va_wsS RL 24 yL_due wsL_due) := goodIn_app (goodIn_r _ [50, 51, 52] (by rfl) (by decide +kernel)) ggL_holds_L_due
set_option maxRecDepth 20000 in
theorem ggL_holds_X6_differences : GoodIn wsL_holds wsX6_differences := goodIn_r _ [70, 6, 71, 41, 42, 34, 43, 37, 72, 73, 74, 75, 36, 76, 45, 46, 47, 48, 49, 65, 4, 66, 200, 201, 202, 203, 204, 205, 206, 207, 208, 209, 210, 211, 212, 213, 214, 215, 216, 217, 218, 223] (by rfl) (by decide +kernel)
set_option maxRecDepth 20000 in
theorem gL_holds_X6_differences : GoodIn wsL_holds (wsV RL 30 RX6 yX6_differences wsX6_differences) := goodIn_app (goodIn_r _ [67, 68, 69, 4] (by rfl) (by decide +kernel)) ggL_holds_X6_differences
set_option maxRecDepth 20000 in
theorem ggL_holds_X6_firstDifference : GoodIn wsL_holds wsX6_firstDifference := goodIn_r _ [80, 6, 71, 41, 42, 34, 43, 37, 72, 73, 74, 75, 36, 76, 45, 46, 47, 48, 49, 65, 4, 66, 200, 201, 202, 203, 204, 205, 206, 207, 208, 209, 210, 211, 212, 213, 214, 215, 216, 217, 218, 223] (by rfl) (by decide +kernel)
set_option maxRecDepth 20000 in
theorem gL_holds_X6_firstDifference : GoodIn wsL_holds (wsV RL 34 RX6 yX6_firstDifference wsX6_firstDifference) := goodIn_app (goodIn_r _ [77, 78, 79, 4] (by rfl) (by decide +kernel)) ggL_holds_X6_firstDifference
set_option maxRecDepth 20000 in
theorem ggL_holds_X6_total : GoodIn wsL_holds wsX6_total := goodIn_r _ [84, 6, 7, 8, 4, 9, 200, 201, 202, 203, 204, 205, 206, 207, 208, 209, 210, 211] (by rfl) (by decide +kernel)
set_option maxRecDepth 20000 in
theorem gL_holds_X6_total : GoodIn wsL_holds (wsV RL 37 RX6 yX6_total wsX6_total) := goodIn_app (goodIn_r _ [81, 82, 83, 4] (by rfl) (by decide +kernel)) ggL_holds_X6_total
set_option maxRecDepth 20000 in
theorem ggL_holds_X6_progress : GoodIn wsL_holds wsX6_progress := goodIn_r _ [88, 6, 89, 71, 41, 42, 34, 43, 37, 200, 201, 202, 203, 204, 205, 206, 207, 208, 209, 210, 211, 212, 213, 214, 215, 216, 217, 218] (by rfl) (by decide +kernel)
set_option maxRecDepth 20000 in
theorem gL_holds_X6_progress : GoodIn wsL_holds (wsV RL 40 RX6 yX6_progress wsX6_progress) := goodIn_app (goodIn_r _ [85, 86, 87, 4] (by rfl) (by decide +kernel)) ggL_holds_X6_progress
set_option maxRecDepth 20000 in
theorem ggL_holds_X6_readyIn : GoodIn wsL_holds wsX6_readyIn := goodIn_r _ [93, 6, 94, 95, 96, 97, 34, 98, 37, 99, 100, 101, 102, 36, 39, 38, 103, 104, 105, 106, 107, 108, 109, 110, 111, 47, 112, 49, 113, 114, 115, 116, 13, 117, 118, 20, 15, 17, 18, 19, 16, 119, 120, 121, 122, 123, 124, 125, 126, 127, 128, 129, 130, 131, 132, 133, 134, 135, 136, 137, 40, 41, 42, 43, 138, 139, 140, 141, 142, 143, 144, 145, 146, 147, 148, 149, 150, 151, 152, 153, 154, 155, 156, 157, 65, 4, 66, 158, 159, 160, 161, 162, 163, 164, 165, 166, 167, 168, 169, 76, 45, 46, 48, 170, 171, 172, 173, 174, 175, 200, 201, 202, 203, 204, 205, 206, 207, 208, 209, 210, 211, 212, 213, 214, 215, 216, 217, 218, 223, 219, 220, 221, 222] (by rfl) (by decide +kernel)
set_option maxRecDepth 20000 in
theorem gL_holds_X6_readyIn : GoodIn wsL_holds (wsV RL 44 RX6 yX6_readyIn wsX6_readyIn) := goodIn_app (goodIn_r _ [90, 91, 92, 4] (by rfl) (by decide +kernel)) ggL_holds_X6_readyIn
set_option maxRecDepth 20000 in
theorem ggL_holds_X6_table : GoodIn wsL_holds wsX6_table := goodIn_r _ [179, 6, 28, 29, 4, 30, 7, 8, 9, 31, 32, 33, 34, 35, 36, 37, 38, 39, 40, 41, 42, 43, 180, 181, 182, 47, 183, 184, 185, 186, 187, 49, 188, 189, 190, 191, 192, 193, 194, 195, 196, 197, 198, 199, 200, 201, 202, 203, 204, 205, 206, 207, 208, 209, 210, 211, 212, 213, 214, 215, 216, 217, 218, 223] (by rfl) (by decide +kernel)
set_option maxRecDepth 20000 in
theorem gL_holds_X6_table : GoodIn wsL_holds (wsV RL 47 RX6 yX6_table wsX6_table) := goodIn_app (goodIn_r _ [176, 177, 178, 4] (by rfl) (by decide +kernel)) ggL_holds_X6_table
theorem dL_holds_0 : decode cL_holds 0 = .ok (.aload_n 0, 1) := by decide +kernel
theorem dL_holds_1 : decode cL_holds 1 = .ok (.iconst 0, 1) := by decide +kernel
theorem dL_holds_2 : decode cL_holds 2 = .ok (.invokevirtual 16, 3) := by decide +kernel
theorem dL_holds_5 : decode cL_holds 5 = .ok (.istore_n 1, 1) := by decide +kernel
theorem dL_holds_6 : decode cL_holds 6 = .ok (.iload_n 1, 1) := by decide +kernel
theorem dL_holds_7 : decode cL_holds 7 = .ok (.ifCond .le 7, 3) := by decide +kernel
theorem dL_holds_10 : decode cL_holds 10 = .ok (.iconst 1, 1) := by decide +kernel
theorem dL_holds_11 : decode cL_holds 11 = .ok (.goto 4, 3) := by decide +kernel
theorem dL_holds_14 : decode cL_holds 14 = .ok (.iconst 0, 1) := by decide +kernel
theorem dL_holds_15 : decode cL_holds 15 = .ok (.istore_n 2, 1) := by decide +kernel
theorem dL_holds_16 : decode cL_holds 16 = .ok (.iconst 0, 1) := by decide +kernel
theorem dL_holds_17 : decode cL_holds 17 = .ok (.istore_n 3, 1) := by decide +kernel
theorem dL_holds_18 : decode cL_holds 18 = .ok (.bipush (-5), 2) := by decide +kernel
theorem dL_holds_20 : decode cL_holds 20 = .ok (.istore 4, 2) := by decide +kernel
theorem dL_holds_22 : decode cL_holds 22 = .ok (.bipush 31, 2) := by decide +kernel
theorem dL_holds_24 : decode cL_holds 24 = .ok (.istore 5, 2) := by decide +kernel
theorem dL_holds_26 : decode cL_holds 26 = .ok (.iload 5, 2) := by decide +kernel
theorem dL_holds_28 : decode cL_holds 28 = .ok (.ifCond .lt 63, 3) := by decide +kernel
theorem dL_holds_31 : decode cL_holds 31 = .ok (.iload_n 2, 1) := by decide +kernel
theorem dL_holds_32 : decode cL_holds 32 = .ok (.ifCond .eq 59, 3) := by decide +kernel
theorem dL_holds_35 : decode cL_holds 35 = .ok (.aload_n 0, 1) := by decide +kernel
theorem dL_holds_36 : decode cL_holds 36 = .ok (.iconst 1, 1) := by decide +kernel
theorem dL_holds_37 : decode cL_holds 37 = .ok (.iload 5, 2) := by decide +kernel
theorem dL_holds_39 : decode cL_holds 39 = .ok (.invokevirtual 10, 3) := by decide +kernel
theorem dL_holds_42 : decode cL_holds 42 = .ok (.aload_n 0, 1) := by decide +kernel
theorem dL_holds_43 : decode cL_holds 43 = .ok (.iload 5, 2) := by decide +kernel
theorem dL_holds_45 : decode cL_holds 45 = .ok (.invokestatic 24, 3) := by decide +kernel
theorem dL_holds_48 : decode cL_holds 48 = .ok (.if_icmp .eq 7, 3) := by decide +kernel
theorem dL_holds_51 : decode cL_holds 51 = .ok (.iconst 1, 1) := by decide +kernel
theorem dL_holds_52 : decode cL_holds 52 = .ok (.goto 4, 3) := by decide +kernel
theorem dL_holds_55 : decode cL_holds 55 = .ok (.iconst 0, 1) := by decide +kernel
theorem dL_holds_56 : decode cL_holds 56 = .ok (.istore 6, 2) := by decide +kernel
theorem dL_holds_58 : decode cL_holds 58 = .ok (.iload_n 3, 1) := by decide +kernel
theorem dL_holds_59 : decode cL_holds 59 = .ok (.iload 6, 2) := by decide +kernel
theorem dL_holds_61 : decode cL_holds 61 = .ok (.ifCond .eq 7, 3) := by decide +kernel
theorem dL_holds_64 : decode cL_holds 64 = .ok (.iconst 1, 1) := by decide +kernel
theorem dL_holds_65 : decode cL_holds 65 = .ok (.goto 4, 3) := by decide +kernel
theorem dL_holds_68 : decode cL_holds 68 = .ok (.iconst 0, 1) := by decide +kernel
theorem dL_holds_69 : decode cL_holds 69 = .ok (.iadd, 1) := by decide +kernel
theorem dL_holds_70 : decode cL_holds 70 = .ok (.istore_n 3, 1) := by decide +kernel
theorem dL_holds_71 : decode cL_holds 71 = .ok (.iload 6, 2) := by decide +kernel
theorem dL_holds_73 : decode cL_holds 73 = .ok (.ifCond .eq 8, 3) := by decide +kernel
theorem dL_holds_76 : decode cL_holds 76 = .ok (.iload 5, 2) := by decide +kernel
theorem dL_holds_78 : decode cL_holds 78 = .ok (.goto 5, 3) := by decide +kernel
theorem dL_holds_81 : decode cL_holds 81 = .ok (.iload 4, 2) := by decide +kernel
theorem dL_holds_83 : decode cL_holds 83 = .ok (.istore 4, 2) := by decide +kernel
theorem dL_holds_85 : decode cL_holds 85 = .ok (.iinc 5 (-1), 3) := by decide +kernel
theorem dL_holds_88 : decode cL_holds 88 = .ok (.goto (-62), 3) := by decide +kernel
theorem dL_holds_91 : decode cL_holds 91 = .ok (.iload_n 1, 1) := by decide +kernel
theorem dL_holds_92 : decode cL_holds 92 = .ok (.ifCond .lt 88, 3) := by decide +kernel
theorem dL_holds_95 : decode cL_holds 95 = .ok (.iload_n 1, 1) := by decide +kernel
theorem dL_holds_96 : decode cL_holds 96 = .ok (.iconst 3, 1) := by decide +kernel
theorem dL_holds_97 : decode cL_holds 97 = .ok (.if_icmp .gt 83, 3) := by decide +kernel
theorem dL_holds_100 : decode cL_holds 100 = .ok (.aload_n 0, 1) := by decide +kernel
theorem dL_holds_101 : decode cL_holds 101 = .ok (.invokevirtual 30, 3) := by decide +kernel
theorem dL_holds_104 : decode cL_holds 104 = .ok (.iload_n 2, 1) := by decide +kernel
theorem dL_holds_105 : decode cL_holds 105 = .ok (.ifCond .eq 7, 3) := by decide +kernel
theorem dL_holds_108 : decode cL_holds 108 = .ok (.iload_n 3, 1) := by decide +kernel
theorem dL_holds_109 : decode cL_holds 109 = .ok (.goto 5, 3) := by decide +kernel
theorem dL_holds_112 : decode cL_holds 112 = .ok (.bipush (-5), 2) := by decide +kernel
theorem dL_holds_114 : decode cL_holds 114 = .ok (.if_icmp .ne 66, 3) := by decide +kernel
theorem dL_holds_117 : decode cL_holds 117 = .ok (.aload_n 0, 1) := by decide +kernel
theorem dL_holds_118 : decode cL_holds 118 = .ok (.invokevirtual 34, 3) := by decide +kernel
theorem dL_holds_121 : decode cL_holds 121 = .ok (.iload 4, 2) := by decide +kernel
theorem dL_holds_123 : decode cL_holds 123 = .ok (.if_icmp .ne 57, 3) := by decide +kernel
theorem dL_holds_126 : decode cL_holds 126 = .ok (.iload_n 2, 1) := by decide +kernel
theorem dL_holds_127 : decode cL_holds 127 = .ok (.ifCond .eq 31, 3) := by decide +kernel
theorem dL_holds_130 : decode cL_holds 130 = .ok (.iload_n 1, 1) := by decide +kernel
theorem dL_holds_131 : decode cL_holds 131 = .ok (.iconst 1, 1) := by decide +kernel
theorem dL_holds_132 : decode cL_holds 132 = .ok (.if_icmp .le 7, 3) := by decide +kernel
theorem dL_holds_135 : decode cL_holds 135 = .ok (.iconst 1, 1) := by decide +kernel
theorem dL_holds_136 : decode cL_holds 136 = .ok (.goto 4, 3) := by decide +kernel
theorem dL_holds_139 : decode cL_holds 139 = .ok (.iconst 0, 1) := by decide +kernel
theorem dL_holds_140 : decode cL_holds 140 = .ok (.aload_n 0, 1) := by decide +kernel
theorem dL_holds_141 : decode cL_holds 141 = .ok (.iconst 3, 1) := by decide +kernel
theorem dL_holds_142 : decode cL_holds 142 = .ok (.invokevirtual 16, 3) := by decide +kernel
theorem dL_holds_145 : decode cL_holds 145 = .ok (.bipush 32, 2) := by decide +kernel
theorem dL_holds_147 : decode cL_holds 147 = .ok (.if_icmp .ne 7, 3) := by decide +kernel
theorem dL_holds_150 : decode cL_holds 150 = .ok (.iconst 1, 1) := by decide +kernel
theorem dL_holds_151 : decode cL_holds 151 = .ok (.goto 4, 3) := by decide +kernel
theorem dL_holds_154 : decode cL_holds 154 = .ok (.iconst 0, 1) := by decide +kernel
theorem dL_holds_155 : decode cL_holds 155 = .ok (.if_icmp .ne 25, 3) := by decide +kernel
theorem dL_holds_158 : decode cL_holds 158 = .ok (.iload_n 2, 1) := by decide +kernel
theorem dL_holds_159 : decode cL_holds 159 = .ok (.ifCond .eq 23, 3) := by decide +kernel
theorem dL_holds_162 : decode cL_holds 162 = .ok (.aload_n 0, 1) := by decide +kernel
theorem dL_holds_163 : decode cL_holds 163 = .ok (.iconst 4, 1) := by decide +kernel
theorem dL_holds_164 : decode cL_holds 164 = .ok (.invokevirtual 16, 3) := by decide +kernel
theorem dL_holds_167 : decode cL_holds 167 = .ok (.ifCond .lt 13, 3) := by decide +kernel
theorem dL_holds_170 : decode cL_holds 170 = .ok (.aload_n 0, 1) := by decide +kernel
theorem dL_holds_171 : decode cL_holds 171 = .ok (.iconst 4, 1) := by decide +kernel
theorem dL_holds_172 : decode cL_holds 172 = .ok (.invokevirtual 16, 3) := by decide +kernel
theorem dL_holds_175 : decode cL_holds 175 = .ok (.bipush 24, 2) := by decide +kernel
theorem dL_holds_177 : decode cL_holds 177 = .ok (.if_icmp .le 5, 3) := by decide +kernel
theorem dL_holds_180 : decode cL_holds 180 = .ok (.iconst 0, 1) := by decide +kernel
theorem dL_holds_181 : decode cL_holds 181 = .ok (.ireturn, 1) := by decide +kernel
theorem dL_holds_182 : decode cL_holds 182 = .ok (.iconst 1, 1) := by decide +kernel
theorem dL_holds_183 : decode cL_holds 183 = .ok (.istore 5, 2) := by decide +kernel
theorem dL_holds_185 : decode cL_holds 185 = .ok (.iload 5, 2) := by decide +kernel
theorem dL_holds_187 : decode cL_holds 187 = .ok (.bipush 6, 2) := by decide +kernel
theorem dL_holds_189 : decode cL_holds 189 = .ok (.if_icmp .ge 58, 3) := by decide +kernel
theorem dL_holds_192 : decode cL_holds 192 = .ok (.aload_n 0, 1) := by decide +kernel
theorem dL_holds_193 : decode cL_holds 193 = .ok (.iload 5, 2) := by decide +kernel
theorem dL_holds_195 : decode cL_holds 195 = .ok (.invokevirtual 16, 3) := by decide +kernel
theorem dL_holds_198 : decode cL_holds 198 = .ok (.bipush (-5), 2) := by decide +kernel
theorem dL_holds_200 : decode cL_holds 200 = .ok (.if_icmp .ne 7, 3) := by decide +kernel
theorem dL_holds_203 : decode cL_holds 203 = .ok (.iconst 1, 1) := by decide +kernel
theorem dL_holds_204 : decode cL_holds 204 = .ok (.goto 4, 3) := by decide +kernel
theorem dL_holds_207 : decode cL_holds 207 = .ok (.iconst 0, 1) := by decide +kernel
theorem dL_holds_208 : decode cL_holds 208 = .ok (.iload 5, 2) := by decide +kernel
theorem dL_holds_210 : decode cL_holds 210 = .ok (.iconst 5, 1) := by decide +kernel
theorem dL_holds_211 : decode cL_holds 211 = .ok (.if_icmp .ge 15, 3) := by decide +kernel
theorem dL_holds_214 : decode cL_holds 214 = .ok (.iload_n 2, 1) := by decide +kernel
theorem dL_holds_215 : decode cL_holds 215 = .ok (.ifCond .ne 7, 3) := by decide +kernel
theorem dL_holds_218 : decode cL_holds 218 = .ok (.iconst 1, 1) := by decide +kernel
theorem dL_holds_219 : decode cL_holds 219 = .ok (.goto 17, 3) := by decide +kernel
theorem dL_holds_222 : decode cL_holds 222 = .ok (.iconst 0, 1) := by decide +kernel
theorem dL_holds_223 : decode cL_holds 223 = .ok (.goto 13, 3) := by decide +kernel
theorem dL_holds_226 : decode cL_holds 226 = .ok (.iload_n 1, 1) := by decide +kernel
theorem dL_holds_227 : decode cL_holds 227 = .ok (.iconst 3, 1) := by decide +kernel
theorem dL_holds_228 : decode cL_holds 228 = .ok (.if_icmp .eq 7, 3) := by decide +kernel
theorem dL_holds_231 : decode cL_holds 231 = .ok (.iconst 1, 1) := by decide +kernel
theorem dL_holds_232 : decode cL_holds 232 = .ok (.goto 4, 3) := by decide +kernel
theorem dL_holds_235 : decode cL_holds 235 = .ok (.iconst 0, 1) := by decide +kernel
theorem dL_holds_236 : decode cL_holds 236 = .ok (.if_icmp .eq 5, 3) := by decide +kernel
theorem dL_holds_239 : decode cL_holds 239 = .ok (.iconst 0, 1) := by decide +kernel
theorem dL_holds_240 : decode cL_holds 240 = .ok (.ireturn, 1) := by decide +kernel
theorem dL_holds_241 : decode cL_holds 241 = .ok (.iinc 5 1, 3) := by decide +kernel
theorem dL_holds_244 : decode cL_holds 244 = .ok (.goto (-59), 3) := by decide +kernel
theorem dL_holds_247 : decode cL_holds 247 = .ok (.iload_n 1, 1) := by decide +kernel
theorem dL_holds_248 : decode cL_holds 248 = .ok (.iconst 2, 1) := by decide +kernel
theorem dL_holds_249 : decode cL_holds 249 = .ok (.if_icmp .ne 15, 3) := by decide +kernel
theorem dL_holds_252 : decode cL_holds 252 = .ok (.aload_n 0, 1) := by decide +kernel
theorem dL_holds_253 : decode cL_holds 253 = .ok (.iconst 4, 1) := by decide +kernel
theorem dL_holds_254 : decode cL_holds 254 = .ok (.invokevirtual 16, 3) := by decide +kernel
theorem dL_holds_257 : decode cL_holds 257 = .ok (.ifCond .ne 7, 3) := by decide +kernel
theorem dL_holds_260 : decode cL_holds 260 = .ok (.iconst 1, 1) := by decide +kernel
theorem dL_holds_261 : decode cL_holds 261 = .ok (.goto 4, 3) := by decide +kernel
theorem dL_holds_264 : decode cL_holds 264 = .ok (.iconst 0, 1) := by decide +kernel
theorem dL_holds_265 : decode cL_holds 265 = .ok (.istore 5, 2) := by decide +kernel
theorem dL_holds_267 : decode cL_holds 267 = .ok (.iload_n 1, 1) := by decide +kernel
theorem dL_holds_268 : decode cL_holds 268 = .ok (.iconst 2, 1) := by decide +kernel
theorem dL_holds_269 : decode cL_holds 269 = .ok (.if_icmp .lt 15, 3) := by decide +kernel
theorem dL_holds_272 : decode cL_holds 272 = .ok (.aload_n 0, 1) := by decide +kernel
theorem dL_holds_273 : decode cL_holds 273 = .ok (.iconst 4, 1) := by decide +kernel
theorem dL_holds_274 : decode cL_holds 274 = .ok (.invokevirtual 16, 3) := by decide +kernel
theorem dL_holds_277 : decode cL_holds 277 = .ok (.ifCond .gt 7, 3) := by decide +kernel
theorem dL_holds_280 : decode cL_holds 280 = .ok (.iload_n 3, 1) := by decide +kernel
theorem dL_holds_281 : decode cL_holds 281 = .ok (.ifCond .ne 149, 3) := by decide +kernel
theorem dL_holds_284 : decode cL_holds 284 = .ok (.aload_n 0, 1) := by decide +kernel
theorem dL_holds_285 : decode cL_holds 285 = .ok (.iconst 0, 1) := by decide +kernel
theorem dL_holds_286 : decode cL_holds 286 = .ok (.invokevirtual 37, 3) := by decide +kernel
theorem dL_holds_289 : decode cL_holds 289 = .ok (.aload_n 0, 1) := by decide +kernel
theorem dL_holds_290 : decode cL_holds 290 = .ok (.iconst 1, 1) := by decide +kernel
theorem dL_holds_291 : decode cL_holds 291 = .ok (.invokevirtual 37, 3) := by decide +kernel
theorem dL_holds_294 : decode cL_holds 294 = .ok (.aload_n 0, 1) := by decide +kernel
theorem dL_holds_295 : decode cL_holds 295 = .ok (.iconst 2, 1) := by decide +kernel
theorem dL_holds_296 : decode cL_holds 296 = .ok (.invokevirtual 37, 3) := by decide +kernel
theorem dL_holds_299 : decode cL_holds 299 = .ok (.iadd, 1) := by decide +kernel
theorem dL_holds_300 : decode cL_holds 300 = .ok (.iload_n 2, 1) := by decide +kernel
theorem dL_holds_301 : decode cL_holds 301 = .ok (.ifCond .eq 7, 3) := by decide +kernel
theorem dL_holds_304 : decode cL_holds 304 = .ok (.iconst 1, 1) := by decide +kernel
theorem dL_holds_305 : decode cL_holds 305 = .ok (.goto 4, 3) := by decide +kernel
theorem dL_holds_308 : decode cL_holds 308 = .ok (.iconst 0, 1) := by decide +kernel
theorem dL_holds_309 : decode cL_holds 309 = .ok (.iadd, 1) := by decide +kernel
theorem dL_holds_310 : decode cL_holds 310 = .ok (.if_icmp .ne 120, 3) := by decide +kernel
theorem dL_holds_313 : decode cL_holds 313 = .ok (.aload_n 0, 1) := by decide +kernel
theorem dL_holds_314 : decode cL_holds 314 = .ok (.invokevirtual 40, 3) := by decide +kernel
theorem dL_holds_317 : decode cL_holds 317 = .ok (.dconst 0, 1) := by decide +kernel
theorem dL_holds_318 : decode cL_holds 318 = .ok (.dcmp .l, 1) := by decide +kernel
theorem dL_holds_319 : decode cL_holds 319 = .ok (.ifCond .lt 111, 3) := by decide +kernel
theorem dL_holds_322 : decode cL_holds 322 = .ok (.aload_n 0, 1) := by decide +kernel
theorem dL_holds_323 : decode cL_holds 323 = .ok (.invokevirtual 40, 3) := by decide +kernel
theorem dL_holds_326 : decode cL_holds 326 = .ok (.dconst 1, 1) := by decide +kernel
theorem dL_holds_327 : decode cL_holds 327 = .ok (.dcmp .g, 1) := by decide +kernel
theorem dL_holds_328 : decode cL_holds 328 = .ok (.ifCond .gt 102, 3) := by decide +kernel
theorem dL_holds_331 : decode cL_holds 331 = .ok (.aload_n 0, 1) := by decide +kernel
theorem dL_holds_332 : decode cL_holds 332 = .ok (.invokevirtual 44, 3) := by decide +kernel
theorem dL_holds_335 : decode cL_holds 335 = .ok (.ifCond .ne 7, 3) := by decide +kernel
theorem dL_holds_338 : decode cL_holds 338 = .ok (.iconst 1, 1) := by decide +kernel
theorem dL_holds_339 : decode cL_holds 339 = .ok (.goto 4, 3) := by decide +kernel
theorem dL_holds_342 : decode cL_holds 342 = .ok (.iconst 0, 1) := by decide +kernel
theorem dL_holds_343 : decode cL_holds 343 = .ok (.iload 5, 2) := by decide +kernel
theorem dL_holds_345 : decode cL_holds 345 = .ok (.if_icmp .ne 85, 3) := by decide +kernel
theorem dL_holds_348 : decode cL_holds 348 = .ok (.iload_n 1, 1) := by decide +kernel
theorem dL_holds_349 : decode cL_holds 349 = .ok (.iconst 1, 1) := by decide +kernel
theorem dL_holds_350 : decode cL_holds 350 = .ok (.if_icmp .eq 17, 3) := by decide +kernel
theorem dL_holds_353 : decode cL_holds 353 = .ok (.iload_n 1, 1) := by decide +kernel
theorem dL_holds_354 : decode cL_holds 354 = .ok (.iconst 2, 1) := by decide +kernel
theorem dL_holds_355 : decode cL_holds 355 = .ok (.if_icmp .eq 12, 3) := by decide +kernel
theorem dL_holds_358 : decode cL_holds 358 = .ok (.aload_n 0, 1) := by decide +kernel
theorem dL_holds_359 : decode cL_holds 359 = .ok (.invokevirtual 44, 3) := by decide +kernel
theorem dL_holds_362 : decode cL_holds 362 = .ok (.bipush (-4), 2) := by decide +kernel
theorem dL_holds_364 : decode cL_holds 364 = .ok (.if_icmp .ne 66, 3) := by decide +kernel
theorem dL_holds_367 : decode cL_holds 367 = .ok (.iload_n 2, 1) := by decide +kernel
theorem dL_holds_368 : decode cL_holds 368 = .ok (.ifCond .eq 15, 3) := by decide +kernel
theorem dL_holds_371 : decode cL_holds 371 = .ok (.aload_n 0, 1) := by decide +kernel
theorem dL_holds_372 : decode cL_holds 372 = .ok (.iconst 1, 1) := by decide +kernel
theorem dL_holds_373 : decode cL_holds 373 = .ok (.iconst 0, 1) := by decide +kernel
theorem dL_holds_374 : decode cL_holds 374 = .ok (.invokevirtual 47, 3) := by decide +kernel
theorem dL_holds_377 : decode cL_holds 377 = .ok (.ifCond .lt 53, 3) := by decide +kernel
theorem dL_holds_380 : decode cL_holds 380 = .ok (.goto 14, 3) := by decide +kernel
theorem dL_holds_383 : decode cL_holds 383 = .ok (.aload_n 0, 1) := by decide +kernel
theorem dL_holds_384 : decode cL_holds 384 = .ok (.iconst 1, 1) := by decide +kernel
theorem dL_holds_385 : decode cL_holds 385 = .ok (.iconst 0, 1) := by decide +kernel
theorem dL_holds_386 : decode cL_holds 386 = .ok (.invokevirtual 47, 3) := by decide +kernel
theorem dL_holds_389 : decode cL_holds 389 = .ok (.bipush (-5), 2) := by decide +kernel
theorem dL_holds_391 : decode cL_holds 391 = .ok (.if_icmp .ne 39, 3) := by decide +kernel
theorem dL_holds_394 : decode cL_holds 394 = .ok (.aload_n 0, 1) := by decide +kernel
theorem dL_holds_395 : decode cL_holds 395 = .ok (.iconst 2, 1) := by decide +kernel
theorem dL_holds_396 : decode cL_holds 396 = .ok (.iconst 0, 1) := by decide +kernel
theorem dL_holds_397 : decode cL_holds 397 = .ok (.invokevirtual 47, 3) := by decide +kernel
theorem dL_holds_400 : decode cL_holds 400 = .ok (.bipush (-5), 2) := by decide +kernel
theorem dL_holds_402 : decode cL_holds 402 = .ok (.if_icmp .ne 7, 3) := by decide +kernel
theorem dL_holds_405 : decode cL_holds 405 = .ok (.iconst 1, 1) := by decide +kernel
theorem dL_holds_406 : decode cL_holds 406 = .ok (.goto 4, 3) := by decide +kernel
theorem dL_holds_409 : decode cL_holds 409 = .ok (.iconst 0, 1) := by decide +kernel
theorem dL_holds_410 : decode cL_holds 410 = .ok (.aload_n 0, 1) := by decide +kernel
theorem dL_holds_411 : decode cL_holds 411 = .ok (.iconst 1, 1) := by decide +kernel
theorem dL_holds_412 : decode cL_holds 412 = .ok (.invokevirtual 37, 3) := by decide +kernel
theorem dL_holds_415 : decode cL_holds 415 = .ok (.ifCond .ne 7, 3) := by decide +kernel
theorem dL_holds_418 : decode cL_holds 418 = .ok (.iconst 1, 1) := by decide +kernel
theorem dL_holds_419 : decode cL_holds 419 = .ok (.goto 4, 3) := by decide +kernel
theorem dL_holds_422 : decode cL_holds 422 = .ok (.iconst 0, 1) := by decide +kernel
theorem dL_holds_423 : decode cL_holds 423 = .ok (.if_icmp .ne 7, 3) := by decide +kernel
theorem dL_holds_426 : decode cL_holds 426 = .ok (.iconst 1, 1) := by decide +kernel
theorem dL_holds_427 : decode cL_holds 427 = .ok (.goto 4, 3) := by decide +kernel
theorem dL_holds_430 : decode cL_holds 430 = .ok (.iconst 0, 1) := by decide +kernel
theorem dL_holds_431 : decode cL_holds 431 = .ok (.ireturn, 1) := by decide +kernel
set_option maxRecDepth 20000 in
theorem ggL_tale_X6_value : GoodIn wsL_tale wsX6_value := goodIn_r _ [7, 8, 9, 10, 6, 11, 12, 13, 14, 15, 16, 17, 18, 19, 20, 21, 22, 23, 24, 25, 26, 27, 28, 29, 30, 31, 32, 33, 34, 35, 36, 85, 86, 87, 88, 89, 90, 91, 92, 93, 94, 95, 96, 97, 98, 99, 100, 101, 102, 103, 104] (by rfl) (by decide +kernel)
set_option maxRecDepth 20000 in
theorem gL_tale_X6_value : GoodIn wsL_tale (wsV RL 10 RX6 yX6_value wsX6_value) := goodIn_app (goodIn_r _ [3, 4, 5, 6] (by rfl) (by decide +kernel)) ggL_tale_X6_value
set_option maxRecDepth 20000 in
theorem ggL_tale_X6_total : GoodIn wsL_tale wsX6_total := goodIn_r _ [40, 8, 12, 13, 6, 14, 85, 86, 87, 88, 89, 90, 91, 92, 93, 94, 95, 96] (by rfl) (by decide +kernel)
set_option maxRecDepth 20000 in
theorem gL_tale_X6_total : GoodIn wsL_tale (wsV RL 37 RX6 yX6_total wsX6_total) := goodIn_app (goodIn_r _ [37, 38, 39, 6] (by rfl) (by decide +kernel)) ggL_tale_X6_total
set_option maxRecDepth 20000 in
theorem ggL_tale_X6_copy : GoodIn wsL_tale wsX6_copy := goodIn_r _ [44, 8, 12, 13, 6, 14, 45, 46, 47, 48, 49, 50, 51, 52, 53, 54, 55, 85, 86, 87, 88, 89, 90, 91, 92, 93, 94, 95, 96, 97, 98, 99, 100, 101, 102, 103, 105, 106, 107, 108] (by rfl) (by decide +kernel)
set_option maxRecDepth 20000 in
theorem gL_tale_X6_copy : GoodIn wsL_tale (wsV RL 16 RX6 yX6_copy wsX6_copy) := goodIn_app (goodIn_r _ [41, 42, 43, 6] (by rfl) (by decide +kernel)) ggL_tale_X6_copy
set_option maxRecDepth 20000 in
theorem ggL_tale_X6_entry : GoodIn wsL_tale wsX6_entry := goodIn_r _ [59, 8, 12, 13, 6, 14, 60, 28, 29, 21, 30, 24, 61, 62, 63, 64, 65, 66, 67, 68, 69, 70, 71, 72, 73, 74, 75, 76, 77, 85, 86, 87, 88, 89, 90, 91, 92, 93, 94, 95, 96, 97, 98, 99, 100, 101, 102, 103, 105, 106, 107, 108] (by rfl) (by decide +kernel)
set_option maxRecDepth 20000 in
theorem gL_tale_X6_entry : GoodIn wsL_tale (wsV RL 54 RX6 yX6_entry wsX6_entry) := goodIn_app (goodIn_r _ [56, 57, 58, 6] (by rfl) (by decide +kernel)) ggL_tale_X6_entry
set_option maxRecDepth 20000 in
theorem ggL_tale_X6_setting : GoodIn wsL_tale wsX6_setting := goodIn_r _ [81, 8, 82, 83, 6, 84, 12, 13, 14, 85, 86, 87, 88, 89, 90, 91, 92, 93, 94, 95, 96] (by rfl) (by decide +kernel)
set_option maxRecDepth 20000 in
theorem gL_tale_X6_setting : GoodIn wsL_tale (wsV RL 57 RX6 yX6_setting wsX6_setting) := goodIn_app (goodIn_r _ [78, 79, 80, 6] (by rfl) (by decide +kernel)) ggL_tale_X6_setting
theorem dL_tale_0 : decode cL_tale 0 = .ok (.ldc2_w 50, 3) := by decide +kernel
theorem dL_tale_3 : decode cL_tale 3 = .ok (.lstore_n 1, 1) := by decide +kernel
theorem dL_tale_4 : decode cL_tale 4 = .ok (.iconst 0, 1) := by decide +kernel
theorem dL_tale_5 : decode cL_tale 5 = .ok (.istore_n 3, 1) := by decide +kernel
theorem dL_tale_6 : decode cL_tale 6 = .ok (.iload_n 3, 1) := by decide +kernel
theorem dL_tale_7 : decode cL_tale 7 = .ok (.bipush 96, 2) := by decide +kernel
theorem dL_tale_9 : decode cL_tale 9 = .ok (.if_icmp .ge 29, 3) := by decide +kernel
theorem dL_tale_12 : decode cL_tale 12 = .ok (.ldc2_w 52, 3) := by decide +kernel
theorem dL_tale_15 : decode cL_tale 15 = .ok (.lload_n 1, 1) := by decide +kernel
theorem dL_tale_16 : decode cL_tale 16 = .ok (.lmul, 1) := by decide +kernel
theorem dL_tale_17 : decode cL_tale 17 = .ok (.aload_n 0, 1) := by decide +kernel
theorem dL_tale_18 : decode cL_tale 18 = .ok (.iload_n 3, 1) := by decide +kernel
theorem dL_tale_19 : decode cL_tale 19 = .ok (.bipush 32, 2) := by decide +kernel
theorem dL_tale_21 : decode cL_tale 21 = .ok (.idiv, 1) := by decide +kernel
theorem dL_tale_22 : decode cL_tale 22 = .ok (.iload_n 3, 1) := by decide +kernel
theorem dL_tale_23 : decode cL_tale 23 = .ok (.bipush 32, 2) := by decide +kernel
theorem dL_tale_25 : decode cL_tale 25 = .ok (.irem, 1) := by decide +kernel
theorem dL_tale_26 : decode cL_tale 26 = .ok (.invokevirtual 10, 3) := by decide +kernel
theorem dL_tale_29 : decode cL_tale 29 = .ok (.i2l, 1) := by decide +kernel
theorem dL_tale_30 : decode cL_tale 30 = .ok (.ladd, 1) := by decide +kernel
theorem dL_tale_31 : decode cL_tale 31 = .ok (.lstore_n 1, 1) := by decide +kernel
theorem dL_tale_32 : decode cL_tale 32 = .ok (.iinc 3 1, 3) := by decide +kernel
theorem dL_tale_35 : decode cL_tale 35 = .ok (.goto (-29), 3) := by decide +kernel
theorem dL_tale_38 : decode cL_tale 38 = .ok (.iconst 0, 1) := by decide +kernel
theorem dL_tale_39 : decode cL_tale 39 = .ok (.istore_n 3, 1) := by decide +kernel
theorem dL_tale_40 : decode cL_tale 40 = .ok (.iload_n 3, 1) := by decide +kernel
theorem dL_tale_41 : decode cL_tale 41 = .ok (.bipush 8, 2) := by decide +kernel
theorem dL_tale_43 : decode cL_tale 43 = .ok (.if_icmp .ge 43, 3) := by decide +kernel
theorem dL_tale_46 : decode cL_tale 46 = .ok (.ldc2_w 52, 3) := by decide +kernel
theorem dL_tale_49 : decode cL_tale 49 = .ok (.ldc2_w 52, 3) := by decide +kernel
theorem dL_tale_52 : decode cL_tale 52 = .ok (.lload_n 1, 1) := by decide +kernel
theorem dL_tale_53 : decode cL_tale 53 = .ok (.lmul, 1) := by decide +kernel
theorem dL_tale_54 : decode cL_tale 54 = .ok (.aload_n 0, 1) := by decide +kernel
theorem dL_tale_55 : decode cL_tale 55 = .ok (.iload_n 3, 1) := by decide +kernel
theorem dL_tale_56 : decode cL_tale 56 = .ok (.invokevirtual 37, 3) := by decide +kernel
theorem dL_tale_59 : decode cL_tale 59 = .ok (.i2l, 1) := by decide +kernel
theorem dL_tale_60 : decode cL_tale 60 = .ok (.ladd, 1) := by decide +kernel
theorem dL_tale_61 : decode cL_tale 61 = .ok (.lmul, 1) := by decide +kernel
theorem dL_tale_62 : decode cL_tale 62 = .ok (.iload_n 3, 1) := by decide +kernel
theorem dL_tale_63 : decode cL_tale 63 = .ok (.bipush 6, 2) := by decide +kernel
theorem dL_tale_65 : decode cL_tale 65 = .ok (.if_icmp .ge 11, 3) := by decide +kernel
theorem dL_tale_68 : decode cL_tale 68 = .ok (.aload_n 0, 1) := by decide +kernel
theorem dL_tale_69 : decode cL_tale 69 = .ok (.iload_n 3, 1) := by decide +kernel
theorem dL_tale_70 : decode cL_tale 70 = .ok (.invokevirtual 16, 3) := by decide +kernel
theorem dL_tale_73 : decode cL_tale 73 = .ok (.goto 4, 3) := by decide +kernel
theorem dL_tale_76 : decode cL_tale 76 = .ok (.iconst 0, 1) := by decide +kernel
theorem dL_tale_77 : decode cL_tale 77 = .ok (.i2l, 1) := by decide +kernel
theorem dL_tale_78 : decode cL_tale 78 = .ok (.ladd, 1) := by decide +kernel
theorem dL_tale_79 : decode cL_tale 79 = .ok (.lstore_n 1, 1) := by decide +kernel
theorem dL_tale_80 : decode cL_tale 80 = .ok (.iinc 3 1, 3) := by decide +kernel
theorem dL_tale_83 : decode cL_tale 83 = .ok (.goto (-43), 3) := by decide +kernel
theorem dL_tale_86 : decode cL_tale 86 = .ok (.iconst 0, 1) := by decide +kernel
theorem dL_tale_87 : decode cL_tale 87 = .ok (.istore_n 3, 1) := by decide +kernel
theorem dL_tale_88 : decode cL_tale 88 = .ok (.iload_n 3, 1) := by decide +kernel
theorem dL_tale_89 : decode cL_tale 89 = .ok (.bipush 48, 2) := by decide +kernel
theorem dL_tale_91 : decode cL_tale 91 = .ok (.if_icmp .ge 27, 3) := by decide +kernel
theorem dL_tale_94 : decode cL_tale 94 = .ok (.ldc2_w 52, 3) := by decide +kernel
theorem dL_tale_97 : decode cL_tale 97 = .ok (.lload_n 1, 1) := by decide +kernel
theorem dL_tale_98 : decode cL_tale 98 = .ok (.lmul, 1) := by decide +kernel
theorem dL_tale_99 : decode cL_tale 99 = .ok (.aload_n 0, 1) := by decide +kernel
theorem dL_tale_100 : decode cL_tale 100 = .ok (.iload_n 3, 1) := by decide +kernel
theorem dL_tale_101 : decode cL_tale 101 = .ok (.iconst 2, 1) := by decide +kernel
theorem dL_tale_102 : decode cL_tale 102 = .ok (.idiv, 1) := by decide +kernel
theorem dL_tale_103 : decode cL_tale 103 = .ok (.iload_n 3, 1) := by decide +kernel
theorem dL_tale_104 : decode cL_tale 104 = .ok (.iconst 2, 1) := by decide +kernel
theorem dL_tale_105 : decode cL_tale 105 = .ok (.irem, 1) := by decide +kernel
theorem dL_tale_106 : decode cL_tale 106 = .ok (.invokevirtual 54, 3) := by decide +kernel
theorem dL_tale_109 : decode cL_tale 109 = .ok (.i2l, 1) := by decide +kernel
theorem dL_tale_110 : decode cL_tale 110 = .ok (.ladd, 1) := by decide +kernel
theorem dL_tale_111 : decode cL_tale 111 = .ok (.lstore_n 1, 1) := by decide +kernel
theorem dL_tale_112 : decode cL_tale 112 = .ok (.iinc 3 1, 3) := by decide +kernel
theorem dL_tale_115 : decode cL_tale 115 = .ok (.goto (-27), 3) := by decide +kernel
theorem dL_tale_118 : decode cL_tale 118 = .ok (.ldc2_w 52, 3) := by decide +kernel
theorem dL_tale_121 : decode cL_tale 121 = .ok (.ldc2_w 52, 3) := by decide +kernel
theorem dL_tale_124 : decode cL_tale 124 = .ok (.ldc2_w 52, 3) := by decide +kernel
theorem dL_tale_127 : decode cL_tale 127 = .ok (.ldc2_w 52, 3) := by decide +kernel
theorem dL_tale_130 : decode cL_tale 130 = .ok (.lload_n 1, 1) := by decide +kernel
theorem dL_tale_131 : decode cL_tale 131 = .ok (.lmul, 1) := by decide +kernel
theorem dL_tale_132 : decode cL_tale 132 = .ok (.aload_n 0, 1) := by decide +kernel
theorem dL_tale_133 : decode cL_tale 133 = .ok (.iconst 0, 1) := by decide +kernel
theorem dL_tale_134 : decode cL_tale 134 = .ok (.invokevirtual 57, 3) := by decide +kernel
theorem dL_tale_137 : decode cL_tale 137 = .ok (.i2l, 1) := by decide +kernel
theorem dL_tale_138 : decode cL_tale 138 = .ok (.ladd, 1) := by decide +kernel
theorem dL_tale_139 : decode cL_tale 139 = .ok (.lmul, 1) := by decide +kernel
theorem dL_tale_140 : decode cL_tale 140 = .ok (.aload_n 0, 1) := by decide +kernel
theorem dL_tale_141 : decode cL_tale 141 = .ok (.iconst 1, 1) := by decide +kernel
theorem dL_tale_142 : decode cL_tale 142 = .ok (.invokevirtual 57, 3) := by decide +kernel
theorem dL_tale_145 : decode cL_tale 145 = .ok (.i2l, 1) := by decide +kernel
theorem dL_tale_146 : decode cL_tale 146 = .ok (.ladd, 1) := by decide +kernel
theorem dL_tale_147 : decode cL_tale 147 = .ok (.lmul, 1) := by decide +kernel
theorem dL_tale_148 : decode cL_tale 148 = .ok (.aload_n 0, 1) := by decide +kernel
theorem dL_tale_149 : decode cL_tale 149 = .ok (.iconst 2, 1) := by decide +kernel
theorem dL_tale_150 : decode cL_tale 150 = .ok (.invokevirtual 57, 3) := by decide +kernel
theorem dL_tale_153 : decode cL_tale 153 = .ok (.i2l, 1) := by decide +kernel
theorem dL_tale_154 : decode cL_tale 154 = .ok (.ladd, 1) := by decide +kernel
theorem dL_tale_155 : decode cL_tale 155 = .ok (.lmul, 1) := by decide +kernel
theorem dL_tale_156 : decode cL_tale 156 = .ok (.aload_n 0, 1) := by decide +kernel
theorem dL_tale_157 : decode cL_tale 157 = .ok (.iconst 3, 1) := by decide +kernel
theorem dL_tale_158 : decode cL_tale 158 = .ok (.invokevirtual 57, 3) := by decide +kernel
theorem dL_tale_161 : decode cL_tale 161 = .ok (.i2l, 1) := by decide +kernel
theorem dL_tale_162 : decode cL_tale 162 = .ok (.ladd, 1) := by decide +kernel
theorem dL_tale_163 : decode cL_tale 163 = .ok (.lreturn, 1) := by decide +kernel
set_option maxRecDepth 20000 in
theorem ggL_ticks_X6_total : GoodIn wsL_ticks wsX6_total := goodIn_r _ [5, 6, 7, 8, 4, 9, 156, 157, 158, 159, 160, 161, 162, 163, 164, 165, 166, 167] (by rfl) (by decide +kernel)
set_option maxRecDepth 20000 in
theorem gL_ticks_X6_total : GoodIn wsL_ticks (wsV RL 37 RX6 yX6_total wsX6_total) := goodIn_app (goodIn_r _ [1, 2, 3, 4] (by rfl) (by decide +kernel)) ggL_ticks_X6_total
set_option maxRecDepth 20000 in
theorem ggL_ticks_X6_copy : GoodIn wsL_ticks wsX6_copy := goodIn_r _ [13, 6, 7, 8, 4, 9, 14, 15, 16, 17, 18, 19, 20, 21, 22, 23, 24, 156, 157, 158, 159, 160, 161, 162, 163, 164, 165, 166, 167, 168, 169, 170, 171, 172, 173, 174, 175, 176, 177, 178] (by rfl) (by decide +kernel)
set_option maxRecDepth 20000 in
theorem gL_ticks_X6_copy : GoodIn wsL_ticks (wsV RL 16 RX6 yX6_copy wsX6_copy) := goodIn_app (goodIn_r _ [10, 11, 12, 4] (by rfl) (by decide +kernel)) ggL_ticks_X6_copy
set_option maxRecDepth 20000 in
theorem ggL_ticks_X6_tick : GoodIn wsL_ticks wsX6_tick := goodIn_r _ [28, 29, 6, 30, 31, 32, 33, 34, 35, 36, 37, 38, 39, 40, 41, 42, 43, 44, 45, 46, 47, 48, 49, 50, 51, 52, 53, 54, 55, 56, 57, 58, 59, 60, 61, 62, 63, 64, 65, 66, 17, 67, 68, 24, 19, 21, 22, 23, 20, 69, 70, 71, 72, 73, 74, 75, 76, 77, 78, 79, 80, 81, 82, 83, 84, 4, 85, 7, 8, 9, 86, 87, 88, 89, 90, 91, 92, 93, 94, 95, 96, 97, 98, 99, 100, 101, 102, 103, 104, 105, 106, 107, 108, 109, 110, 111, 112, 113, 114, 115, 116, 117, 118, 119, 120, 121, 122, 123, 124, 125, 126, 127, 128, 129, 130, 131, 132, 133, 134, 135, 136, 137, 138, 139, 140, 141, 142, 143, 144, 145, 146, 147, 148, 156, 157, 158, 159, 160, 161, 179, 180, 181, 162, 163, 164, 165, 166, 167, 182, 168, 169, 170, 171, 172, 173, 174, 175, 176, 177, 178] (by rfl) (by decide +kernel)
set_option maxRecDepth 20000 in
theorem gL_ticks_X6_tick : GoodIn wsL_ticks (wsV RL 60 RX6 yX6_tick wsX6_tick) := goodIn_app (goodIn_r _ [25, 26, 27, 4] (by rfl) (by decide +kernel)) ggL_ticks_X6_tick
set_option maxRecDepth 20000 in
theorem ggL_ticks_X6_setting : GoodIn wsL_ticks wsX6_setting := goodIn_r _ [152, 6, 153, 154, 4, 155, 7, 8, 9, 156, 157, 158, 159, 160, 161, 162, 163, 164, 165, 166, 167] (by rfl) (by decide +kernel)
set_option maxRecDepth 20000 in
theorem gL_ticks_X6_setting : GoodIn wsL_ticks (wsV RL 57 RX6 yX6_setting wsX6_setting) := goodIn_app (goodIn_r _ [149, 150, 151, 4] (by rfl) (by decide +kernel)) ggL_ticks_X6_setting
theorem dL_ticks_0 : decode cL_ticks 0 = .ok (.aload_n 0, 1) := by decide +kernel
theorem dL_ticks_1 : decode cL_ticks 1 = .ok (.bipush 7, 2) := by decide +kernel
theorem dL_ticks_3 : decode cL_ticks 3 = .ok (.invokevirtual 37, 3) := by decide +kernel
theorem dL_ticks_6 : decode cL_ticks 6 = .ok (.istore_n 2, 1) := by decide +kernel
theorem dL_ticks_7 : decode cL_ticks 7 = .ok (.iconst 0, 1) := by decide +kernel
theorem dL_ticks_8 : decode cL_ticks 8 = .ok (.istore_n 3, 1) := by decide +kernel
theorem dL_ticks_9 : decode cL_ticks 9 = .ok (.iload_n 3, 1) := by decide +kernel
theorem dL_ticks_10 : decode cL_ticks 10 = .ok (.iload_n 1, 1) := by decide +kernel
theorem dL_ticks_11 : decode cL_ticks 11 = .ok (.if_icmp .ge 210, 3) := by decide +kernel
theorem dL_ticks_14 : decode cL_ticks 14 = .ok (.aload_n 0, 1) := by decide +kernel
theorem dL_ticks_15 : decode cL_ticks 15 = .ok (.iconst 0, 1) := by decide +kernel
theorem dL_ticks_16 : decode cL_ticks 16 = .ok (.invokevirtual 16, 3) := by decide +kernel
theorem dL_ticks_19 : decode cL_ticks 19 = .ok (.istore 4, 2) := by decide +kernel
theorem dL_ticks_21 : decode cL_ticks 21 = .ok (.aload_n 0, 1) := by decide +kernel
theorem dL_ticks_22 : decode cL_ticks 22 = .ok (.iconst 4, 1) := by decide +kernel
theorem dL_ticks_23 : decode cL_ticks 23 = .ok (.invokevirtual 16, 3) := by decide +kernel
theorem dL_ticks_26 : decode cL_ticks 26 = .ok (.istore 5, 2) := by decide +kernel
theorem dL_ticks_28 : decode cL_ticks 28 = .ok (.aload_n 0, 1) := by decide +kernel
theorem dL_ticks_29 : decode cL_ticks 29 = .ok (.iconst 3, 1) := by decide +kernel
theorem dL_ticks_30 : decode cL_ticks 30 = .ok (.invokevirtual 16, 3) := by decide +kernel
theorem dL_ticks_33 : decode cL_ticks 33 = .ok (.istore 6, 2) := by decide +kernel
theorem dL_ticks_35 : decode cL_ticks 35 = .ok (.aload_n 0, 1) := by decide +kernel
theorem dL_ticks_36 : decode cL_ticks 36 = .ok (.iconst 3, 1) := by decide +kernel
theorem dL_ticks_37 : decode cL_ticks 37 = .ok (.invokevirtual 37, 3) := by decide +kernel
theorem dL_ticks_40 : decode cL_ticks 40 = .ok (.istore 7, 2) := by decide +kernel
theorem dL_ticks_42 : decode cL_ticks 42 = .ok (.aload_n 0, 1) := by decide +kernel
theorem dL_ticks_43 : decode cL_ticks 43 = .ok (.iconst 5, 1) := by decide +kernel
theorem dL_ticks_44 : decode cL_ticks 44 = .ok (.invokevirtual 37, 3) := by decide +kernel
theorem dL_ticks_47 : decode cL_ticks 47 = .ok (.istore 8, 2) := by decide +kernel
theorem dL_ticks_49 : decode cL_ticks 49 = .ok (.aload_n 0, 1) := by decide +kernel
theorem dL_ticks_50 : decode cL_ticks 50 = .ok (.iconst 1, 1) := by decide +kernel
theorem dL_ticks_51 : decode cL_ticks 51 = .ok (.invokevirtual 60, 3) := by decide +kernel
theorem dL_ticks_54 : decode cL_ticks 54 = .ok (.istore 9, 2) := by decide +kernel
theorem dL_ticks_56 : decode cL_ticks 56 = .ok (.iload 9, 2) := by decide +kernel
theorem dL_ticks_58 : decode cL_ticks 58 = .ok (.aload_n 0, 1) := by decide +kernel
theorem dL_ticks_59 : decode cL_ticks 59 = .ok (.iconst 0, 1) := by decide +kernel
theorem dL_ticks_60 : decode cL_ticks 60 = .ok (.invokevirtual 16, 3) := by decide +kernel
theorem dL_ticks_63 : decode cL_ticks 63 = .ok (.if_icmp .eq 5, 3) := by decide +kernel
theorem dL_ticks_66 : decode cL_ticks 66 = .ok (.iconst 0, 1) := by decide +kernel
theorem dL_ticks_67 : decode cL_ticks 67 = .ok (.ireturn, 1) := by decide +kernel
theorem dL_ticks_68 : decode cL_ticks 68 = .ok (.iload 4, 2) := by decide +kernel
theorem dL_ticks_70 : decode cL_ticks 70 = .ok (.ifCond .ne 11, 3) := by decide +kernel
theorem dL_ticks_73 : decode cL_ticks 73 = .ok (.iload 9, 2) := by decide +kernel
theorem dL_ticks_75 : decode cL_ticks 75 = .ok (.ifCond .eq 18, 3) := by decide +kernel
theorem dL_ticks_78 : decode cL_ticks 78 = .ok (.goto 13, 3) := by decide +kernel
theorem dL_ticks_81 : decode cL_ticks 81 = .ok (.aload_n 0, 1) := by decide +kernel
theorem dL_ticks_82 : decode cL_ticks 82 = .ok (.iconst 3, 1) := by decide +kernel
theorem dL_ticks_83 : decode cL_ticks 83 = .ok (.invokevirtual 16, 3) := by decide +kernel
theorem dL_ticks_86 : decode cL_ticks 86 = .ok (.iload 6, 2) := by decide +kernel
theorem dL_ticks_88 : decode cL_ticks 88 = .ok (.if_icmp .ge 5, 3) := by decide +kernel
theorem dL_ticks_91 : decode cL_ticks 91 = .ok (.iconst 0, 1) := by decide +kernel
theorem dL_ticks_92 : decode cL_ticks 92 = .ok (.ireturn, 1) := by decide +kernel
theorem dL_ticks_93 : decode cL_ticks 93 = .ok (.aload_n 0, 1) := by decide +kernel
theorem dL_ticks_94 : decode cL_ticks 94 = .ok (.iconst 3, 1) := by decide +kernel
theorem dL_ticks_95 : decode cL_ticks 95 = .ok (.invokevirtual 37, 3) := by decide +kernel
theorem dL_ticks_98 : decode cL_ticks 98 = .ok (.iload 7, 2) := by decide +kernel
theorem dL_ticks_100 : decode cL_ticks 100 = .ok (.if_icmp .le 7, 3) := by decide +kernel
theorem dL_ticks_103 : decode cL_ticks 103 = .ok (.iconst 1, 1) := by decide +kernel
theorem dL_ticks_104 : decode cL_ticks 104 = .ok (.goto 4, 3) := by decide +kernel
theorem dL_ticks_107 : decode cL_ticks 107 = .ok (.iconst 0, 1) := by decide +kernel
theorem dL_ticks_108 : decode cL_ticks 108 = .ok (.istore 10, 2) := by decide +kernel
theorem dL_ticks_110 : decode cL_ticks 110 = .ok (.iload 4, 2) := by decide +kernel
theorem dL_ticks_112 : decode cL_ticks 112 = .ok (.ifCond .eq 8, 3) := by decide +kernel
theorem dL_ticks_115 : decode cL_ticks 115 = .ok (.iload 10, 2) := by decide +kernel
theorem dL_ticks_117 : decode cL_ticks 117 = .ok (.ifCond .eq 7, 3) := by decide +kernel
theorem dL_ticks_120 : decode cL_ticks 120 = .ok (.iconst 0, 1) := by decide +kernel
theorem dL_ticks_121 : decode cL_ticks 121 = .ok (.goto 23, 3) := by decide +kernel
theorem dL_ticks_124 : decode cL_ticks 124 = .ok (.iload 5, 2) := by decide +kernel
theorem dL_ticks_126 : decode cL_ticks 126 = .ok (.aload_n 0, 1) := by decide +kernel
theorem dL_ticks_127 : decode cL_ticks 127 = .ok (.iconst 0, 1) := by decide +kernel
theorem dL_ticks_128 : decode cL_ticks 128 = .ok (.invokevirtual 57, 3) := by decide +kernel
theorem dL_ticks_131 : decode cL_ticks 131 = .ok (.if_icmp .ge 8, 3) := by decide +kernel
theorem dL_ticks_134 : decode cL_ticks 134 = .ok (.iload 5, 2) := by decide +kernel
theorem dL_ticks_136 : decode cL_ticks 136 = .ok (.goto 8, 3) := by decide +kernel
theorem dL_ticks_139 : decode cL_ticks 139 = .ok (.aload_n 0, 1) := by decide +kernel
theorem dL_ticks_140 : decode cL_ticks 140 = .ok (.iconst 0, 1) := by decide +kernel
theorem dL_ticks_141 : decode cL_ticks 141 = .ok (.invokevirtual 57, 3) := by decide +kernel
theorem dL_ticks_144 : decode cL_ticks 144 = .ok (.istore 11, 2) := by decide +kernel
theorem dL_ticks_146 : decode cL_ticks 146 = .ok (.iload 10, 2) := by decide +kernel
theorem dL_ticks_148 : decode cL_ticks 148 = .ok (.ifCond .eq 15, 3) := by decide +kernel
theorem dL_ticks_151 : decode cL_ticks 151 = .ok (.iload 4, 2) := by decide +kernel
theorem dL_ticks_153 : decode cL_ticks 153 = .ok (.iconst 3, 1) := by decide +kernel
theorem dL_ticks_154 : decode cL_ticks 154 = .ok (.if_icmp .ne 59, 3) := by decide +kernel
theorem dL_ticks_157 : decode cL_ticks 157 = .ok (.iload 9, 2) := by decide +kernel
theorem dL_ticks_159 : decode cL_ticks 159 = .ok (.iconst 2, 1) := by decide +kernel
theorem dL_ticks_160 : decode cL_ticks 160 = .ok (.if_icmp .ne 53, 3) := by decide +kernel
theorem dL_ticks_163 : decode cL_ticks 163 = .ok (.aload_n 0, 1) := by decide +kernel
theorem dL_ticks_164 : decode cL_ticks 164 = .ok (.iconst 5, 1) := by decide +kernel
theorem dL_ticks_165 : decode cL_ticks 165 = .ok (.invokevirtual 37, 3) := by decide +kernel
theorem dL_ticks_168 : decode cL_ticks 168 = .ok (.iload 8, 2) := by decide +kernel
theorem dL_ticks_170 : decode cL_ticks 170 = .ok (.iload 11, 2) := by decide +kernel
theorem dL_ticks_172 : decode cL_ticks 172 = .ok (.iadd, 1) := by decide +kernel
theorem dL_ticks_173 : decode cL_ticks 173 = .ok (.if_icmp .ne 40, 3) := by decide +kernel
theorem dL_ticks_176 : decode cL_ticks 176 = .ok (.iload 4, 2) := by decide +kernel
theorem dL_ticks_178 : decode cL_ticks 178 = .ok (.ifCond .le 16, 3) := by decide +kernel
theorem dL_ticks_181 : decode cL_ticks 181 = .ok (.aload_n 0, 1) := by decide +kernel
theorem dL_ticks_182 : decode cL_ticks 182 = .ok (.iconst 4, 1) := by decide +kernel
theorem dL_ticks_183 : decode cL_ticks 183 = .ok (.invokevirtual 16, 3) := by decide +kernel
theorem dL_ticks_186 : decode cL_ticks 186 = .ok (.iload 5, 2) := by decide +kernel
theorem dL_ticks_188 : decode cL_ticks 188 = .ok (.iload 11, 2) := by decide +kernel
theorem dL_ticks_190 : decode cL_ticks 190 = .ok (.isub, 1) := by decide +kernel
theorem dL_ticks_191 : decode cL_ticks 191 = .ok (.if_icmp .ne 22, 3) := by decide +kernel
theorem dL_ticks_194 : decode cL_ticks 194 = .ok (.iload 9, 2) := by decide +kernel
theorem dL_ticks_196 : decode cL_ticks 196 = .ok (.iconst 3, 1) := by decide +kernel
theorem dL_ticks_197 : decode cL_ticks 197 = .ok (.if_icmp .ne 18, 3) := by decide +kernel
theorem dL_ticks_200 : decode cL_ticks 200 = .ok (.aload_n 0, 1) := by decide +kernel
theorem dL_ticks_201 : decode cL_ticks 201 = .ok (.iconst 5, 1) := by decide +kernel
theorem dL_ticks_202 : decode cL_ticks 202 = .ok (.invokevirtual 16, 3) := by decide +kernel
theorem dL_ticks_205 : decode cL_ticks 205 = .ok (.aload_n 0, 1) := by decide +kernel
theorem dL_ticks_206 : decode cL_ticks 206 = .ok (.iconst 2, 1) := by decide +kernel
theorem dL_ticks_207 : decode cL_ticks 207 = .ok (.invokevirtual 57, 3) := by decide +kernel
theorem dL_ticks_210 : decode cL_ticks 210 = .ok (.if_icmp .le 5, 3) := by decide +kernel
theorem dL_ticks_213 : decode cL_ticks 213 = .ok (.iconst 0, 1) := by decide +kernel
theorem dL_ticks_214 : decode cL_ticks 214 = .ok (.ireturn, 1) := by decide +kernel
theorem dL_ticks_215 : decode cL_ticks 215 = .ok (.iinc 3 1, 3) := by decide +kernel
theorem dL_ticks_218 : decode cL_ticks 218 = .ok (.goto (-209), 3) := by decide +kernel
theorem dL_ticks_221 : decode cL_ticks 221 = .ok (.aload_n 0, 1) := by decide +kernel
theorem dL_ticks_222 : decode cL_ticks 222 = .ok (.bipush 7, 2) := by decide +kernel
theorem dL_ticks_224 : decode cL_ticks 224 = .ok (.invokevirtual 37, 3) := by decide +kernel
theorem dL_ticks_227 : decode cL_ticks 227 = .ok (.iload_n 2, 1) := by decide +kernel
theorem dL_ticks_228 : decode cL_ticks 228 = .ok (.iload_n 1, 1) := by decide +kernel
theorem dL_ticks_229 : decode cL_ticks 229 = .ok (.iadd, 1) := by decide +kernel
theorem dL_ticks_230 : decode cL_ticks 230 = .ok (.if_icmp .ne 7, 3) := by decide +kernel
theorem dL_ticks_233 : decode cL_ticks 233 = .ok (.iconst 1, 1) := by decide +kernel
theorem dL_ticks_234 : decode cL_ticks 234 = .ok (.goto 4, 3) := by decide +kernel
theorem dL_ticks_237 : decode cL_ticks 237 = .ok (.iconst 0, 1) := by decide +kernel
theorem dL_ticks_238 : decode cL_ticks 238 = .ok (.ireturn, 1) := by decide +kernel
set_option maxRecDepth 20000 in
theorem ggL_readySo_L_tale : GoodIn wsL_readySo wsL_tale := goodIn_r _ [4, 5, 6, 7, 8, 9, 10, 11, 12, 13, 14, 15, 16, 17, 18, 19, 20, 21, 22, 23, 24, 25, 26, 27, 28, 29, 30, 31, 32, 33, 34, 35, 36, 37, 38, 39, 40, 41, 42, 43, 44, 45, 46, 47, 48, 49, 50, 51, 52, 53, 54, 55, 56, 57, 58, 59, 60, 61, 62, 63, 64, 65, 66, 67, 68, 69, 70, 71, 72, 73, 74, 75, 76, 77, 78, 79, 80, 81, 82, 83, 84, 85, 86, 87, 88, 211, 212, 213, 214, 215, 216, 217, 218, 219, 220, 221, 222, 223, 224, 225, 226, 227, 228, 229, 230, 231, 232, 233, 234] (by rfl) (by decide +kernel)
set_option maxRecDepth 20000 in
theorem gL_readySo_L_tale : GoodIn wsL_readySo (va_wsS RL 63 yL_tale wsL_tale) := goodIn_app (goodIn_r _ [1, 2, 3] (by rfl) (by decide +kernel)) ggL_readySo_L_tale
set_option maxRecDepth 20000 in
theorem ggL_readySo_X6_readyIn : GoodIn wsL_readySo wsX6_readyIn := goodIn_r _ [92, 12, 93, 94, 95, 96, 25, 97, 28, 98, 99, 100, 101, 27, 30, 29, 102, 103, 104, 105, 106, 107, 108, 109, 110, 38, 111, 40, 112, 113, 114, 115, 52, 116, 117, 59, 54, 56, 57, 58, 55, 118, 119, 120, 121, 68, 122, 71, 123, 81, 76, 70, 124, 125, 126, 127, 128, 129, 130, 131, 31, 32, 33, 34, 132, 133, 134, 135, 136, 137, 138, 139, 140, 66, 67, 69, 72, 73, 74, 75, 141, 78, 79, 80, 142, 10, 143, 144, 145, 146, 147, 148, 149, 150, 151, 152, 153, 154, 155, 156, 36, 37, 39, 157, 158, 159, 160, 161, 162, 211, 212, 213, 214, 215, 216, 217, 218, 219, 220, 221, 222, 223, 224, 225, 226, 227, 228, 229, 230, 231, 232, 233, 234] (by rfl) (by decide +kernel)
set_option maxRecDepth 20000 in
theorem gL_readySo_X6_readyIn : GoodIn wsL_readySo (wsV RL 44 RX6 yX6_readyIn wsX6_readyIn) := goodIn_app (goodIn_r _ [89, 90, 91, 10] (by rfl) (by decide +kernel)) ggL_readySo_X6_readyIn
set_option maxRecDepth 20000 in
theorem ggL_readySo_X6_leastLot : GoodIn wsL_readySo wsX6_leastLot := goodIn_r _ [166, 12, 93, 167, 168, 10, 169, 16, 17, 18, 94, 95, 96, 25, 97, 28, 98, 99, 100, 101, 27, 30, 29, 102, 103, 104, 105, 106, 107, 108, 109, 110, 38, 111, 40, 112, 113, 114, 115, 52, 116, 117, 59, 54, 56, 57, 58, 55, 118, 119, 120, 121, 68, 122, 71, 123, 81, 76, 70, 124, 125, 126, 127, 128, 129, 130, 131, 31, 32, 33, 34, 132, 133, 134, 135, 136, 137, 138, 139, 140, 66, 67, 69, 72, 73, 74, 75, 141, 78, 79, 80, 142, 143, 144, 145, 146, 147, 148, 149, 150, 151, 152, 153, 154, 155, 156, 36, 37, 39, 157, 158, 159, 160, 161, 162, 211, 212, 213, 214, 215, 216, 217, 218, 219, 220, 221, 222, 223, 224, 225, 226, 227, 228, 229, 230, 231, 232, 233, 234] (by rfl) (by decide +kernel)
set_option maxRecDepth 20000 in
theorem gL_readySo_X6_leastLot : GoodIn wsL_readySo (wsV RL 67 RX6 yX6_leastLot wsX6_leastLot) := goodIn_app (goodIn_r _ [163, 164, 165, 10] (by rfl) (by decide +kernel)) ggL_readySo_X6_leastLot
set_option maxRecDepth 20000 in
theorem ggL_readySo_X6_copy : GoodIn wsL_readySo wsX6_copy := goodIn_r _ [48, 12, 16, 17, 10, 18, 49, 50, 51, 52, 53, 54, 55, 56, 57, 58, 59, 211, 212, 213, 214, 215, 216, 217, 218, 219, 220, 221, 222, 223, 224, 225, 226, 227, 228, 229, 231, 232, 233, 234] (by rfl) (by decide +kernel)
set_option maxRecDepth 20000 in
theorem gL_readySo_X6_copy : GoodIn wsL_readySo (wsV RL 16 RX6 yX6_copy wsX6_copy) := goodIn_app (goodIn_r _ [45, 46, 47, 10] (by rfl) (by decide +kernel)) ggL_readySo_X6_copy
set_option maxRecDepth 20000 in
theorem ggL_readySo_X6_tick : GoodIn wsL_readySo wsX6_tick := goodIn_r _ [173, 174, 12, 175, 176, 177, 178, 179, 180, 181, 182, 183, 184, 185, 186, 187, 99, 100, 25, 101, 27, 30, 29, 28, 102, 103, 104, 105, 106, 107, 108, 109, 110, 38, 111, 40, 112, 113, 114, 115, 52, 116, 117, 59, 54, 56, 57, 58, 55, 118, 119, 120, 121, 68, 122, 71, 123, 81, 76, 70, 188, 189, 190, 191, 168, 10, 169, 16, 17, 18, 128, 129, 130, 131, 31, 32, 33, 34, 132, 133, 134, 135, 136, 137, 138, 139, 140, 66, 67, 69, 72, 73, 74, 75, 141, 78, 79, 80, 142, 143, 144, 145, 146, 147, 148, 149, 150, 151, 152, 153, 154, 155, 156, 36, 37, 39, 157, 158, 159, 160, 161, 162, 192, 193, 194, 195, 196, 197, 198, 199, 200, 201, 202, 211, 212, 213, 214, 215, 216, 235, 236, 237, 217, 218, 219, 220, 221, 222, 230, 223, 224, 225, 226, 227, 228, 229, 231, 232, 233, 234] (by rfl) (by decide +kernel)
set_option maxRecDepth 20000 in
theorem gL_readySo_X6_tick : GoodIn wsL_readySo (wsV RL 60 RX6 yX6_tick wsX6_tick) := goodIn_app (goodIn_r _ [170, 171, 172, 10] (by rfl) (by decide +kernel)) ggL_readySo_X6_tick
set_option maxRecDepth 20000 in
theorem ggL_readySo_X6_undo : GoodIn wsL_readySo wsX6_undo := goodIn_r _ [206, 174, 12, 207, 208, 209, 178, 210, 181, 180, 182, 183, 184, 185, 186, 187, 99, 100, 25, 101, 27, 30, 29, 28, 102, 103, 104, 105, 106, 107, 108, 109, 110, 38, 111, 40, 112, 113, 114, 115, 52, 116, 117, 59, 54, 56, 57, 58, 55, 118, 119, 120, 121, 68, 122, 71, 123, 81, 76, 70, 211, 212, 213, 214, 215, 216, 235, 236, 237, 217, 218, 219, 220, 221, 222, 230, 223, 224, 225, 226, 227, 228, 229, 231, 232, 233, 234] (by rfl) (by decide +kernel)
set_option maxRecDepth 20000 in
theorem gL_readySo_X6_undo : GoodIn wsL_readySo (wsV RL 70 RX6 yX6_undo wsX6_undo) := goodIn_app (goodIn_r _ [203, 204, 205, 10] (by rfl) (by decide +kernel)) ggL_readySo_X6_undo
theorem dL_readySo_0 : decode cL_readySo 0 = .ok (.aload_n 0, 1) := by decide +kernel
theorem dL_readySo_1 : decode cL_readySo 1 = .ok (.invokestatic 63, 3) := by decide +kernel
theorem dL_readySo_4 : decode cL_readySo 4 = .ok (.lstore_n 2, 1) := by decide +kernel
theorem dL_readySo_5 : decode cL_readySo 5 = .ok (.aload_n 0, 1) := by decide +kernel
theorem dL_readySo_6 : decode cL_readySo 6 = .ok (.invokevirtual 44, 3) := by decide +kernel
theorem dL_readySo_9 : decode cL_readySo 9 = .ok (.istore 4, 2) := by decide +kernel
theorem dL_readySo_11 : decode cL_readySo 11 = .ok (.aload_n 0, 1) := by decide +kernel
theorem dL_readySo_12 : decode cL_readySo 12 = .ok (.iload_n 1, 1) := by decide +kernel
theorem dL_readySo_13 : decode cL_readySo 13 = .ok (.invokevirtual 67, 3) := by decide +kernel
theorem dL_readySo_16 : decode cL_readySo 16 = .ok (.istore 5, 2) := by decide +kernel
theorem dL_readySo_18 : decode cL_readySo 18 = .ok (.iload 4, 2) := by decide +kernel
theorem dL_readySo_20 : decode cL_readySo 20 = .ok (.bipush (-4), 2) := by decide +kernel
theorem dL_readySo_22 : decode cL_readySo 22 = .ok (.if_icmp .ne 33, 3) := by decide +kernel
theorem dL_readySo_25 : decode cL_readySo 25 = .ok (.iload 5, 2) := by decide +kernel
theorem dL_readySo_27 : decode cL_readySo 27 = .ok (.bipush (-4), 2) := by decide +kernel
theorem dL_readySo_29 : decode cL_readySo 29 = .ok (.if_icmp .ne 24, 3) := by decide +kernel
theorem dL_readySo_32 : decode cL_readySo 32 = .ok (.aload_n 0, 1) := by decide +kernel
theorem dL_readySo_33 : decode cL_readySo 33 = .ok (.iconst 0, 1) := by decide +kernel
theorem dL_readySo_34 : decode cL_readySo 34 = .ok (.invokevirtual 16, 3) := by decide +kernel
theorem dL_readySo_37 : decode cL_readySo 37 = .ok (.ifCond .eq 12, 3) := by decide +kernel
theorem dL_readySo_40 : decode cL_readySo 40 = .ok (.aload_n 0, 1) := by decide +kernel
theorem dL_readySo_41 : decode cL_readySo 41 = .ok (.iconst 0, 1) := by decide +kernel
theorem dL_readySo_42 : decode cL_readySo 42 = .ok (.invokevirtual 16, 3) := by decide +kernel
theorem dL_readySo_45 : decode cL_readySo 45 = .ok (.iconst 3, 1) := by decide +kernel
theorem dL_readySo_46 : decode cL_readySo 46 = .ok (.if_icmp .ne 7, 3) := by decide +kernel
theorem dL_readySo_49 : decode cL_readySo 49 = .ok (.iconst 1, 1) := by decide +kernel
theorem dL_readySo_50 : decode cL_readySo 50 = .ok (.goto 4, 3) := by decide +kernel
theorem dL_readySo_53 : decode cL_readySo 53 = .ok (.iconst 0, 1) := by decide +kernel
theorem dL_readySo_54 : decode cL_readySo 54 = .ok (.ireturn, 1) := by decide +kernel
theorem dL_readySo_55 : decode cL_readySo 55 = .ok (.iload 4, 2) := by decide +kernel
theorem dL_readySo_57 : decode cL_readySo 57 = .ok (.iconst 1, 1) := by decide +kernel
theorem dL_readySo_58 : decode cL_readySo 58 = .ok (.if_icmp .lt 10, 3) := by decide +kernel
theorem dL_readySo_61 : decode cL_readySo 61 = .ok (.iload 4, 2) := by decide +kernel
theorem dL_readySo_63 : decode cL_readySo 63 = .ok (.bipush 99, 2) := by decide +kernel
theorem dL_readySo_65 : decode cL_readySo 65 = .ok (.if_icmp .le 43, 3) := by decide +kernel
theorem dL_readySo_68 : decode cL_readySo 68 = .ok (.iload 4, 2) := by decide +kernel
theorem dL_readySo_70 : decode cL_readySo 70 = .ok (.ifCond .ne 17, 3) := by decide +kernel
theorem dL_readySo_73 : decode cL_readySo 73 = .ok (.iload 5, 2) := by decide +kernel
theorem dL_readySo_75 : decode cL_readySo 75 = .ok (.iconst 1, 1) := by decide +kernel
theorem dL_readySo_76 : decode cL_readySo 76 = .ok (.if_icmp .ne 7, 3) := by decide +kernel
theorem dL_readySo_79 : decode cL_readySo 79 = .ok (.iconst 1, 1) := by decide +kernel
theorem dL_readySo_80 : decode cL_readySo 80 = .ok (.goto 27, 3) := by decide +kernel
theorem dL_readySo_83 : decode cL_readySo 83 = .ok (.iconst 0, 1) := by decide +kernel
theorem dL_readySo_84 : decode cL_readySo 84 = .ok (.goto 23, 3) := by decide +kernel
theorem dL_readySo_87 : decode cL_readySo 87 = .ok (.iload 4, 2) := by decide +kernel
theorem dL_readySo_89 : decode cL_readySo 89 = .ok (.bipush (-5), 2) := by decide +kernel
theorem dL_readySo_91 : decode cL_readySo 91 = .ok (.if_icmp .eq 11, 3) := by decide +kernel
theorem dL_readySo_94 : decode cL_readySo 94 = .ok (.iload 4, 2) := by decide +kernel
theorem dL_readySo_96 : decode cL_readySo 96 = .ok (.sipush 200, 3) := by decide +kernel
theorem dL_readySo_99 : decode cL_readySo 99 = .ok (.if_icmp .gt 7, 3) := by decide +kernel
theorem dL_readySo_102 : decode cL_readySo 102 = .ok (.iconst 1, 1) := by decide +kernel
theorem dL_readySo_103 : decode cL_readySo 103 = .ok (.goto 4, 3) := by decide +kernel
theorem dL_readySo_106 : decode cL_readySo 106 = .ok (.iconst 0, 1) := by decide +kernel
theorem dL_readySo_107 : decode cL_readySo 107 = .ok (.ireturn, 1) := by decide +kernel
theorem dL_readySo_108 : decode cL_readySo 108 = .ok (.iload 5, 2) := by decide +kernel
theorem dL_readySo_110 : decode cL_readySo 110 = .ok (.bipush (-5), 2) := by decide +kernel
theorem dL_readySo_112 : decode cL_readySo 112 = .ok (.if_icmp .eq 16, 3) := by decide +kernel
theorem dL_readySo_115 : decode cL_readySo 115 = .ok (.iload 5, 2) := by decide +kernel
theorem dL_readySo_117 : decode cL_readySo 117 = .ok (.iconst 1, 1) := by decide +kernel
theorem dL_readySo_118 : decode cL_readySo 118 = .ok (.if_icmp .lt 60, 3) := by decide +kernel
theorem dL_readySo_121 : decode cL_readySo 121 = .ok (.iload 5, 2) := by decide +kernel
theorem dL_readySo_123 : decode cL_readySo 123 = .ok (.bipush 8, 2) := by decide +kernel
theorem dL_readySo_125 : decode cL_readySo 125 = .ok (.if_icmp .gt 53, 3) := by decide +kernel
theorem dL_readySo_128 : decode cL_readySo 128 = .ok (.iload 4, 2) := by decide +kernel
theorem dL_readySo_130 : decode cL_readySo 130 = .ok (.iload_n 1, 1) := by decide +kernel
theorem dL_readySo_131 : decode cL_readySo 131 = .ok (.if_icmp .gt 18, 3) := by decide +kernel
theorem dL_readySo_134 : decode cL_readySo 134 = .ok (.iload 5, 2) := by decide +kernel
theorem dL_readySo_136 : decode cL_readySo 136 = .ok (.ifCond .le 42, 3) := by decide +kernel
theorem dL_readySo_139 : decode cL_readySo 139 = .ok (.iload 5, 2) := by decide +kernel
theorem dL_readySo_141 : decode cL_readySo 141 = .ok (.aload_n 0, 1) := by decide +kernel
theorem dL_readySo_142 : decode cL_readySo 142 = .ok (.iconst 2, 1) := by decide +kernel
theorem dL_readySo_143 : decode cL_readySo 143 = .ok (.invokevirtual 16, 3) := by decide +kernel
theorem dL_readySo_146 : decode cL_readySo 146 = .ok (.if_icmp .gt 32, 3) := by decide +kernel
theorem dL_readySo_149 : decode cL_readySo 149 = .ok (.aload_n 0, 1) := by decide +kernel
theorem dL_readySo_150 : decode cL_readySo 150 = .ok (.iload 4, 2) := by decide +kernel
theorem dL_readySo_152 : decode cL_readySo 152 = .ok (.invokevirtual 60, 3) := by decide +kernel
theorem dL_readySo_155 : decode cL_readySo 155 = .ok (.iconst 2, 1) := by decide +kernel
theorem dL_readySo_156 : decode cL_readySo 156 = .ok (.if_icmp .ne 22, 3) := by decide +kernel
theorem dL_readySo_159 : decode cL_readySo 159 = .ok (.aload_n 0, 1) := by decide +kernel
theorem dL_readySo_160 : decode cL_readySo 160 = .ok (.iconst 4, 1) := by decide +kernel
theorem dL_readySo_161 : decode cL_readySo 161 = .ok (.invokevirtual 16, 3) := by decide +kernel
theorem dL_readySo_164 : decode cL_readySo 164 = .ok (.ifCond .ne 14, 3) := by decide +kernel
theorem dL_readySo_167 : decode cL_readySo 167 = .ok (.aload_n 0, 1) := by decide +kernel
theorem dL_readySo_168 : decode cL_readySo 168 = .ok (.invokevirtual 70, 3) := by decide +kernel
theorem dL_readySo_171 : decode cL_readySo 171 = .ok (.ifCond .lt 7, 3) := by decide +kernel
theorem dL_readySo_174 : decode cL_readySo 174 = .ok (.iconst 1, 1) := by decide +kernel
theorem dL_readySo_175 : decode cL_readySo 175 = .ok (.goto 4, 3) := by decide +kernel
theorem dL_readySo_178 : decode cL_readySo 178 = .ok (.iconst 0, 1) := by decide +kernel
theorem dL_readySo_179 : decode cL_readySo 179 = .ok (.istore 6, 2) := by decide +kernel
theorem dL_readySo_181 : decode cL_readySo 181 = .ok (.iload 6, 2) := by decide +kernel
theorem dL_readySo_183 : decode cL_readySo 183 = .ok (.ifCond .eq 49, 3) := by decide +kernel
theorem dL_readySo_186 : decode cL_readySo 186 = .ok (.iload 4, 2) := by decide +kernel
theorem dL_readySo_188 : decode cL_readySo 188 = .ok (.iconst 1, 1) := by decide +kernel
theorem dL_readySo_189 : decode cL_readySo 189 = .ok (.if_icmp .eq 30, 3) := by decide +kernel
theorem dL_readySo_192 : decode cL_readySo 192 = .ok (.aload_n 0, 1) := by decide +kernel
theorem dL_readySo_193 : decode cL_readySo 193 = .ok (.iload 4, 2) := by decide +kernel
theorem dL_readySo_195 : decode cL_readySo 195 = .ok (.iconst 1, 1) := by decide +kernel
theorem dL_readySo_196 : decode cL_readySo 196 = .ok (.isub, 1) := by decide +kernel
theorem dL_readySo_197 : decode cL_readySo 197 = .ok (.invokevirtual 60, 3) := by decide +kernel
theorem dL_readySo_200 : decode cL_readySo 200 = .ok (.iconst 2, 1) := by decide +kernel
theorem dL_readySo_201 : decode cL_readySo 201 = .ok (.if_icmp .ne 11, 3) := by decide +kernel
theorem dL_readySo_204 : decode cL_readySo 204 = .ok (.aload_n 0, 1) := by decide +kernel
theorem dL_readySo_205 : decode cL_readySo 205 = .ok (.iconst 4, 1) := by decide +kernel
theorem dL_readySo_206 : decode cL_readySo 206 = .ok (.invokevirtual 16, 3) := by decide +kernel
theorem dL_readySo_209 : decode cL_readySo 209 = .ok (.ifCond .le 23, 3) := by decide +kernel
theorem dL_readySo_212 : decode cL_readySo 212 = .ok (.aload_n 0, 1) := by decide +kernel
theorem dL_readySo_213 : decode cL_readySo 213 = .ok (.invokevirtual 70, 3) := by decide +kernel
theorem dL_readySo_216 : decode cL_readySo 216 = .ok (.ifCond .lt 16, 3) := by decide +kernel
theorem dL_readySo_219 : decode cL_readySo 219 = .ok (.aload_n 0, 1) := by decide +kernel
theorem dL_readySo_220 : decode cL_readySo 220 = .ok (.invokestatic 63, 3) := by decide +kernel
theorem dL_readySo_223 : decode cL_readySo 223 = .ok (.lload_n 2, 1) := by decide +kernel
theorem dL_readySo_224 : decode cL_readySo 224 = .ok (.lcmp, 1) := by decide +kernel
theorem dL_readySo_225 : decode cL_readySo 225 = .ok (.ifCond .ne 7, 3) := by decide +kernel
theorem dL_readySo_228 : decode cL_readySo 228 = .ok (.iconst 1, 1) := by decide +kernel
theorem dL_readySo_229 : decode cL_readySo 229 = .ok (.goto 4, 3) := by decide +kernel
theorem dL_readySo_232 : decode cL_readySo 232 = .ok (.iconst 0, 1) := by decide +kernel
theorem dL_readySo_233 : decode cL_readySo 233 = .ok (.ireturn, 1) := by decide +kernel
set_option maxRecDepth 20000 in
theorem ggL_swaps_X6_copy : GoodIn wsL_swaps wsX6_copy := goodIn_r _ [6, 7, 8, 9, 5, 10, 11, 12, 13, 14, 15, 16, 17, 18, 19, 20, 21, 152, 153, 154, 155, 156, 157, 158, 159, 160, 161, 162, 163, 164, 165, 166, 167, 168, 169, 170, 171, 172, 173, 174] (by rfl) (by decide +kernel)
set_option maxRecDepth 20000 in
theorem gL_swaps_X6_copy : GoodIn wsL_swaps (wsV RL 16 RX6 yX6_copy wsX6_copy) := goodIn_app (goodIn_r _ [2, 3, 4, 5] (by rfl) (by decide +kernel)) ggL_swaps_X6_copy
set_option maxRecDepth 20000 in
theorem ggL_swaps_X6_table : GoodIn wsL_swaps wsX6_table := goodIn_r _ [25, 7, 26, 27, 5, 28, 8, 9, 10, 29, 30, 31, 32, 33, 34, 35, 36, 37, 38, 39, 40, 41, 42, 43, 44, 45, 46, 47, 48, 49, 50, 51, 52, 53, 54, 55, 56, 57, 58, 59, 60, 61, 62, 63, 152, 153, 154, 155, 156, 157, 158, 159, 160, 161, 162, 163, 164, 165, 166, 167, 168, 169, 170, 175] (by rfl) (by decide +kernel)
set_option maxRecDepth 20000 in
theorem gL_swaps_X6_table : GoodIn wsL_swaps (wsV RL 47 RX6 yX6_table wsX6_table) := goodIn_app (goodIn_r _ [22, 23, 24, 5] (by rfl) (by decide +kernel)) ggL_swaps_X6_table
set_option maxRecDepth 20000 in
theorem ggL_swaps_X6_value : GoodIn wsL_swaps wsX6_value := goodIn_r _ [67, 7, 68, 69, 5, 70, 8, 9, 10, 26, 27, 28, 29, 30, 31, 32, 33, 34, 35, 36, 37, 38, 39, 40, 41, 71, 72, 73, 45, 74, 51, 152, 153, 154, 155, 156, 157, 158, 159, 160, 161, 162, 163, 164, 165, 166, 167, 168, 169, 170, 175] (by rfl) (by decide +kernel)
set_option maxRecDepth 20000 in
theorem gL_swaps_X6_value : GoodIn wsL_swaps (wsV RL 10 RX6 yX6_value wsX6_value) := goodIn_app (goodIn_r _ [64, 65, 66, 5] (by rfl) (by decide +kernel)) ggL_swaps_X6_value
set_option maxRecDepth 20000 in
theorem ggL_swaps_X6_swap : GoodIn wsL_swaps wsX6_swap := goodIn_r _ [78, 79, 7, 80, 81, 82, 83, 84, 85, 86, 87, 88, 89, 90, 91, 92, 93, 94, 32, 95, 34, 37, 36, 35, 96, 97, 98, 99, 100, 101, 102, 103, 104, 45, 105, 51, 106, 107, 108, 109, 14, 110, 111, 21, 16, 18, 19, 20, 17, 112, 113, 114, 115, 116, 117, 118, 119, 120, 121, 122, 123, 124, 125, 126, 127, 48, 49, 50, 128, 129, 130, 5, 131, 132, 133, 134, 135, 136, 137, 138, 152, 153, 154, 155, 156, 157, 176, 177, 178, 158, 159, 160, 161, 162, 163, 175, 164, 165, 166, 167, 168, 169, 170, 171, 172, 173, 174] (by rfl) (by decide +kernel)
set_option maxRecDepth 20000 in
theorem gL_swaps_X6_swap : GoodIn wsL_swaps (wsV RL 73 RX6 yX6_swap wsX6_swap) := goodIn_app (goodIn_r _ [75, 76, 77, 5] (by rfl) (by decide +kernel)) ggL_swaps_X6_swap
set_option maxRecDepth 20000 in
theorem ggL_swaps_X6_changed : GoodIn wsL_swaps wsX6_changed := goodIn_r _ [142, 68, 69, 5, 70, 8, 9, 10, 143, 144, 145, 146, 147, 148, 149, 150, 151] (by rfl) (by decide +kernel)
set_option maxRecDepth 20000 in
theorem gL_swaps_X6_changed : GoodIn wsL_swaps (wsV RL 20 RX6 yX6_changed wsX6_changed) := goodIn_app (goodIn_r _ [139, 140, 141, 5] (by rfl) (by decide +kernel)) ggL_swaps_X6_changed
theorem dL_swaps_0 : decode cL_swaps 0 = .ok (.bipush 32, 2) := by decide +kernel
theorem dL_swaps_2 : decode cL_swaps 2 = .ok (.newarray .int, 2) := by decide +kernel
theorem dL_swaps_4 : decode cL_swaps 4 = .ok (.astore_n 1, 1) := by decide +kernel
theorem dL_swaps_5 : decode cL_swaps 5 = .ok (.bipush 32, 2) := by decide +kernel
theorem dL_swaps_7 : decode cL_swaps 7 = .ok (.newarray .int, 2) := by decide +kernel
theorem dL_swaps_9 : decode cL_swaps 9 = .ok (.astore_n 2, 1) := by decide +kernel
theorem dL_swaps_10 : decode cL_swaps 10 = .ok (.aload_n 0, 1) := by decide +kernel
theorem dL_swaps_11 : decode cL_swaps 11 = .ok (.iconst 1, 1) := by decide +kernel
theorem dL_swaps_12 : decode cL_swaps 12 = .ok (.invokevirtual 16, 3) := by decide +kernel
theorem dL_swaps_15 : decode cL_swaps 15 = .ok (.istore_n 3, 1) := by decide +kernel
theorem dL_swaps_16 : decode cL_swaps 16 = .ok (.aload_n 0, 1) := by decide +kernel
theorem dL_swaps_17 : decode cL_swaps 17 = .ok (.iconst 0, 1) := by decide +kernel
theorem dL_swaps_18 : decode cL_swaps 18 = .ok (.invokevirtual 16, 3) := by decide +kernel
theorem dL_swaps_21 : decode cL_swaps 21 = .ok (.iconst 3, 1) := by decide +kernel
theorem dL_swaps_22 : decode cL_swaps 22 = .ok (.if_icmp .ne 20, 3) := by decide +kernel
theorem dL_swaps_25 : decode cL_swaps 25 = .ok (.aload_n 0, 1) := by decide +kernel
theorem dL_swaps_26 : decode cL_swaps 26 = .ok (.iconst 4, 1) := by decide +kernel
theorem dL_swaps_27 : decode cL_swaps 27 = .ok (.invokevirtual 16, 3) := by decide +kernel
theorem dL_swaps_30 : decode cL_swaps 30 = .ok (.ifCond .ne 12, 3) := by decide +kernel
theorem dL_swaps_33 : decode cL_swaps 33 = .ok (.aload_n 0, 1) := by decide +kernel
theorem dL_swaps_34 : decode cL_swaps 34 = .ok (.iconst 1, 1) := by decide +kernel
theorem dL_swaps_35 : decode cL_swaps 35 = .ok (.iconst 0, 1) := by decide +kernel
theorem dL_swaps_36 : decode cL_swaps 36 = .ok (.invokevirtual 47, 3) := by decide +kernel
theorem dL_swaps_39 : decode cL_swaps 39 = .ok (.goto 5, 3) := by decide +kernel
theorem dL_swaps_42 : decode cL_swaps 42 = .ok (.bipush (-4), 2) := by decide +kernel
theorem dL_swaps_44 : decode cL_swaps 44 = .ok (.istore 4, 2) := by decide +kernel
theorem dL_swaps_46 : decode cL_swaps 46 = .ok (.iconst 0, 1) := by decide +kernel
theorem dL_swaps_47 : decode cL_swaps 47 = .ok (.istore 5, 2) := by decide +kernel
theorem dL_swaps_49 : decode cL_swaps 49 = .ok (.iload 5, 2) := by decide +kernel
theorem dL_swaps_51 : decode cL_swaps 51 = .ok (.bipush 32, 2) := by decide +kernel
theorem dL_swaps_53 : decode cL_swaps 53 = .ok (.if_icmp .ge 31, 3) := by decide +kernel
theorem dL_swaps_56 : decode cL_swaps 56 = .ok (.aload_n 1, 1) := by decide +kernel
theorem dL_swaps_57 : decode cL_swaps 57 = .ok (.iload 5, 2) := by decide +kernel
theorem dL_swaps_59 : decode cL_swaps 59 = .ok (.aload_n 0, 1) := by decide +kernel
theorem dL_swaps_60 : decode cL_swaps 60 = .ok (.iconst 0, 1) := by decide +kernel
theorem dL_swaps_61 : decode cL_swaps 61 = .ok (.iload 5, 2) := by decide +kernel
theorem dL_swaps_63 : decode cL_swaps 63 = .ok (.invokevirtual 10, 3) := by decide +kernel
theorem dL_swaps_66 : decode cL_swaps 66 = .ok (.iastore, 1) := by decide +kernel
theorem dL_swaps_67 : decode cL_swaps 67 = .ok (.aload_n 2, 1) := by decide +kernel
theorem dL_swaps_68 : decode cL_swaps 68 = .ok (.iload 5, 2) := by decide +kernel
theorem dL_swaps_70 : decode cL_swaps 70 = .ok (.aload_n 0, 1) := by decide +kernel
theorem dL_swaps_71 : decode cL_swaps 71 = .ok (.iconst 1, 1) := by decide +kernel
theorem dL_swaps_72 : decode cL_swaps 72 = .ok (.iload 5, 2) := by decide +kernel
theorem dL_swaps_74 : decode cL_swaps 74 = .ok (.invokevirtual 10, 3) := by decide +kernel
theorem dL_swaps_77 : decode cL_swaps 77 = .ok (.iastore, 1) := by decide +kernel
theorem dL_swaps_78 : decode cL_swaps 78 = .ok (.iinc 5 1, 3) := by decide +kernel
theorem dL_swaps_81 : decode cL_swaps 81 = .ok (.goto (-32), 3) := by decide +kernel
theorem dL_swaps_84 : decode cL_swaps 84 = .ok (.aload_n 0, 1) := by decide +kernel
theorem dL_swaps_85 : decode cL_swaps 85 = .ok (.invokevirtual 73, 3) := by decide +kernel
theorem dL_swaps_88 : decode cL_swaps 88 = .ok (.iload 4, 2) := by decide +kernel
theorem dL_swaps_90 : decode cL_swaps 90 = .ok (.if_icmp .eq 5, 3) := by decide +kernel
theorem dL_swaps_93 : decode cL_swaps 93 = .ok (.iconst 0, 1) := by decide +kernel
theorem dL_swaps_94 : decode cL_swaps 94 = .ok (.ireturn, 1) := by decide +kernel
theorem dL_swaps_95 : decode cL_swaps 95 = .ok (.iconst 0, 1) := by decide +kernel
theorem dL_swaps_96 : decode cL_swaps 96 = .ok (.istore 5, 2) := by decide +kernel
theorem dL_swaps_98 : decode cL_swaps 98 = .ok (.iload 5, 2) := by decide +kernel
theorem dL_swaps_100 : decode cL_swaps 100 = .ok (.bipush 32, 2) := by decide +kernel
theorem dL_swaps_102 : decode cL_swaps 102 = .ok (.if_icmp .ge 89, 3) := by decide +kernel
theorem dL_swaps_105 : decode cL_swaps 105 = .ok (.iload 4, 2) := by decide +kernel
theorem dL_swaps_107 : decode cL_swaps 107 = .ok (.ifCond .lt 84, 3) := by decide +kernel
theorem dL_swaps_110 : decode cL_swaps 110 = .ok (.aload_n 0, 1) := by decide +kernel
theorem dL_swaps_111 : decode cL_swaps 111 = .ok (.iconst 2, 1) := by decide +kernel
theorem dL_swaps_112 : decode cL_swaps 112 = .ok (.iload 5, 2) := by decide +kernel
theorem dL_swaps_114 : decode cL_swaps 114 = .ok (.invokevirtual 10, 3) := by decide +kernel
theorem dL_swaps_117 : decode cL_swaps 117 = .ok (.aload_n 1, 1) := by decide +kernel
theorem dL_swaps_118 : decode cL_swaps 118 = .ok (.iload 5, 2) := by decide +kernel
theorem dL_swaps_120 : decode cL_swaps 120 = .ok (.iaload, 1) := by decide +kernel
theorem dL_swaps_121 : decode cL_swaps 121 = .ok (.if_icmp .ne 62, 3) := by decide +kernel
theorem dL_swaps_124 : decode cL_swaps 124 = .ok (.aload_n 0, 1) := by decide +kernel
theorem dL_swaps_125 : decode cL_swaps 125 = .ok (.iconst 0, 1) := by decide +kernel
theorem dL_swaps_126 : decode cL_swaps 126 = .ok (.iload 5, 2) := by decide +kernel
theorem dL_swaps_128 : decode cL_swaps 128 = .ok (.invokevirtual 10, 3) := by decide +kernel
theorem dL_swaps_131 : decode cL_swaps 131 = .ok (.aload_n 2, 1) := by decide +kernel
theorem dL_swaps_132 : decode cL_swaps 132 = .ok (.iload 5, 2) := by decide +kernel
theorem dL_swaps_134 : decode cL_swaps 134 = .ok (.iaload, 1) := by decide +kernel
theorem dL_swaps_135 : decode cL_swaps 135 = .ok (.if_icmp .ne 48, 3) := by decide +kernel
theorem dL_swaps_138 : decode cL_swaps 138 = .ok (.aload_n 0, 1) := by decide +kernel
theorem dL_swaps_139 : decode cL_swaps 139 = .ok (.iconst 0, 1) := by decide +kernel
theorem dL_swaps_140 : decode cL_swaps 140 = .ok (.iload 5, 2) := by decide +kernel
theorem dL_swaps_142 : decode cL_swaps 142 = .ok (.invokevirtual 10, 3) := by decide +kernel
theorem dL_swaps_145 : decode cL_swaps 145 = .ok (.aload_n 1, 1) := by decide +kernel
theorem dL_swaps_146 : decode cL_swaps 146 = .ok (.iload 5, 2) := by decide +kernel
theorem dL_swaps_148 : decode cL_swaps 148 = .ok (.iaload, 1) := by decide +kernel
theorem dL_swaps_149 : decode cL_swaps 149 = .ok (.ifCond .ge 8, 3) := by decide +kernel
theorem dL_swaps_152 : decode cL_swaps 152 = .ok (.bipush (-5), 2) := by decide +kernel
theorem dL_swaps_154 : decode cL_swaps 154 = .ok (.goto 14, 3) := by decide +kernel
theorem dL_swaps_157 : decode cL_swaps 157 = .ok (.aload_n 0, 1) := by decide +kernel
theorem dL_swaps_158 : decode cL_swaps 158 = .ok (.iload_n 3, 1) := by decide +kernel
theorem dL_swaps_159 : decode cL_swaps 159 = .ok (.iload 5, 2) := by decide +kernel
theorem dL_swaps_161 : decode cL_swaps 161 = .ok (.aload_n 1, 1) := by decide +kernel
theorem dL_swaps_162 : decode cL_swaps 162 = .ok (.iload 5, 2) := by decide +kernel
theorem dL_swaps_164 : decode cL_swaps 164 = .ok (.iaload, 1) := by decide +kernel
theorem dL_swaps_165 : decode cL_swaps 165 = .ok (.invokevirtual 20, 3) := by decide +kernel
theorem dL_swaps_168 : decode cL_swaps 168 = .ok (.if_icmp .ne 15, 3) := by decide +kernel
theorem dL_swaps_171 : decode cL_swaps 171 = .ok (.aload_n 0, 1) := by decide +kernel
theorem dL_swaps_172 : decode cL_swaps 172 = .ok (.iconst 1, 1) := by decide +kernel
theorem dL_swaps_173 : decode cL_swaps 173 = .ok (.iload 5, 2) := by decide +kernel
theorem dL_swaps_175 : decode cL_swaps 175 = .ok (.invokevirtual 10, 3) := by decide +kernel
theorem dL_swaps_178 : decode cL_swaps 178 = .ok (.bipush (-5), 2) := by decide +kernel
theorem dL_swaps_180 : decode cL_swaps 180 = .ok (.if_icmp .eq 5, 3) := by decide +kernel
theorem dL_swaps_183 : decode cL_swaps 183 = .ok (.iconst 0, 1) := by decide +kernel
theorem dL_swaps_184 : decode cL_swaps 184 = .ok (.ireturn, 1) := by decide +kernel
theorem dL_swaps_185 : decode cL_swaps 185 = .ok (.iinc 5 1, 3) := by decide +kernel
theorem dL_swaps_188 : decode cL_swaps 188 = .ok (.goto (-90), 3) := by decide +kernel
theorem dL_swaps_191 : decode cL_swaps 191 = .ok (.iload 4, 2) := by decide +kernel
theorem dL_swaps_193 : decode cL_swaps 193 = .ok (.ifCond .lt 11, 3) := by decide +kernel
theorem dL_swaps_196 : decode cL_swaps 196 = .ok (.aload_n 0, 1) := by decide +kernel
theorem dL_swaps_197 : decode cL_swaps 197 = .ok (.iconst 0, 1) := by decide +kernel
theorem dL_swaps_198 : decode cL_swaps 198 = .ok (.invokevirtual 16, 3) := by decide +kernel
theorem dL_swaps_201 : decode cL_swaps 201 = .ok (.ifCond .ne 7, 3) := by decide +kernel
theorem dL_swaps_204 : decode cL_swaps 204 = .ok (.iconst 1, 1) := by decide +kernel
theorem dL_swaps_205 : decode cL_swaps 205 = .ok (.goto 4, 3) := by decide +kernel
theorem dL_swaps_208 : decode cL_swaps 208 = .ok (.iconst 0, 1) := by decide +kernel
theorem dL_swaps_209 : decode cL_swaps 209 = .ok (.ireturn, 1) := by decide +kernel
set_option maxRecDepth 20000 in
theorem ggL_changes_X6_value : GoodIn wsL_changes wsX6_value := goodIn_r _ [5, 6, 7, 8, 4, 9, 10, 11, 12, 13, 14, 15, 16, 17, 18, 19, 20, 21, 22, 23, 24, 25, 26, 27, 28, 29, 30, 31, 32, 33, 34, 155, 156, 157, 158, 159, 160, 161, 162, 163, 164, 165, 166, 167, 168, 169, 170, 171, 172, 173, 174] (by rfl) (by decide +kernel)
set_option maxRecDepth 20000 in
theorem gL_changes_X6_value : GoodIn wsL_changes (wsV RL 10 RX6 yX6_value wsX6_value) := goodIn_app (goodIn_r _ [1, 2, 3, 4] (by rfl) (by decide +kernel)) ggL_changes_X6_value
set_option maxRecDepth 20000 in
theorem ggL_changes_X6_copy : GoodIn wsL_changes wsX6_copy := goodIn_r _ [38, 6, 10, 11, 4, 12, 39, 40, 41, 42, 43, 44, 45, 46, 47, 48, 49, 155, 156, 157, 158, 159, 160, 161, 162, 163, 164, 165, 166, 167, 168, 169, 170, 171, 172, 173, 175, 176, 177, 178] (by rfl) (by decide +kernel)
set_option maxRecDepth 20000 in
theorem gL_changes_X6_copy : GoodIn wsL_changes (wsV RL 16 RX6 yX6_copy wsX6_copy) := goodIn_app (goodIn_r _ [35, 36, 37, 4] (by rfl) (by decide +kernel)) ggL_changes_X6_copy
set_option maxRecDepth 20000 in
theorem ggL_changes_X6_total : GoodIn wsL_changes wsX6_total := goodIn_r _ [53, 6, 10, 11, 4, 12, 155, 156, 157, 158, 159, 160, 161, 162, 163, 164, 165, 166] (by rfl) (by decide +kernel)
set_option maxRecDepth 20000 in
theorem gL_changes_X6_total : GoodIn wsL_changes (wsV RL 37 RX6 yX6_total wsX6_total) := goodIn_app (goodIn_r _ [50, 51, 52, 4] (by rfl) (by decide +kernel)) ggL_changes_X6_total
set_option maxRecDepth 20000 in
theorem ggL_changes_X6_setting : GoodIn wsL_changes wsX6_setting := goodIn_r _ [57, 6, 58, 59, 4, 60, 10, 11, 12, 155, 156, 157, 158, 159, 160, 161, 162, 163, 164, 165, 166] (by rfl) (by decide +kernel)
set_option maxRecDepth 20000 in
theorem gL_changes_X6_setting : GoodIn wsL_changes (wsV RL 57 RX6 yX6_setting wsX6_setting) := goodIn_app (goodIn_r _ [54, 55, 56, 4] (by rfl) (by decide +kernel)) ggL_changes_X6_setting
set_option maxRecDepth 20000 in
theorem ggL_changes_X6_erase : GoodIn wsL_changes wsX6_erase := goodIn_r _ [64, 65, 6, 66, 67, 68, 69, 70, 71, 72, 73, 74, 75, 76, 77, 78, 79, 80, 19, 81, 21, 24, 23, 22, 82, 83, 84, 85, 86, 87, 88, 89, 90, 32, 91, 34, 92, 93, 94, 95, 42, 96, 97, 49, 44, 46, 47, 48, 45, 98, 99, 100, 101, 102, 103, 104, 105, 106, 107, 108, 109, 110, 111, 112, 8, 4, 9, 10, 11, 12, 113, 30, 31, 33, 114, 115, 116, 117, 25, 26, 27, 28, 118, 119, 120, 121, 122, 123, 124, 125, 126, 127, 128, 129, 130, 131, 132, 133, 134, 135, 136, 137, 138, 139, 140, 141, 142, 143, 144, 155, 156, 157, 158, 159, 160, 179, 180, 181, 161, 162, 163, 164, 165, 166, 174, 167, 168, 169, 170, 171, 172, 173, 175, 176, 177, 178] (by rfl) (by decide +kernel)
set_option maxRecDepth 20000 in
theorem gL_changes_X6_erase : GoodIn wsL_changes (wsV RL 76 RX6 yX6_erase wsX6_erase) := goodIn_app (goodIn_r _ [61, 62, 63, 4] (by rfl) (by decide +kernel)) ggL_changes_X6_erase
set_option maxRecDepth 20000 in
theorem ggL_changes_X6_put : GoodIn wsL_changes wsX6_put := goodIn_r _ [148, 65, 6, 66, 67, 68, 69, 70, 71, 72, 73, 74, 75, 76, 77, 78, 79, 80, 19, 81, 21, 24, 23, 22, 82, 83, 84, 85, 86, 87, 88, 89, 90, 32, 91, 34, 92, 93, 94, 95, 42, 96, 97, 49, 44, 46, 47, 48, 45, 98, 99, 100, 101, 102, 103, 104, 105, 106, 107, 108, 149, 150, 151, 152, 8, 4, 9, 10, 11, 12, 153, 154, 114, 115, 116, 117, 25, 26, 27, 28, 118, 119, 120, 121, 122, 123, 124, 125, 126, 127, 128, 129, 113, 30, 31, 33, 130, 131, 132, 133, 134, 135, 136, 137, 138, 139, 140, 141, 142, 143, 144, 155, 156, 157, 158, 159, 160, 179, 180, 181, 161, 162, 163, 164, 165, 166, 174, 167, 168, 169, 170, 171, 172, 173, 175, 176, 177, 178] (by rfl) (by decide +kernel)
set_option maxRecDepth 20000 in
theorem gL_changes_X6_put : GoodIn wsL_changes (wsV RL 79 RX6 yX6_put wsX6_put) := goodIn_app (goodIn_r _ [145, 146, 147, 4] (by rfl) (by decide +kernel)) ggL_changes_X6_put
theorem dL_changes_0 : decode cL_changes 0 = .ok (.aload_n 0, 1) := by decide +kernel
theorem dL_changes_1 : decode cL_changes 1 = .ok (.iconst 0, 1) := by decide +kernel
theorem dL_changes_2 : decode cL_changes 2 = .ok (.iload_n 1, 1) := by decide +kernel
theorem dL_changes_3 : decode cL_changes 3 = .ok (.invokevirtual 10, 3) := by decide +kernel
theorem dL_changes_6 : decode cL_changes 6 = .ok (.istore_n 3, 1) := by decide +kernel
theorem dL_changes_7 : decode cL_changes 7 = .ok (.aload_n 0, 1) := by decide +kernel
theorem dL_changes_8 : decode cL_changes 8 = .ok (.iconst 0, 1) := by decide +kernel
theorem dL_changes_9 : decode cL_changes 9 = .ok (.invokevirtual 16, 3) := by decide +kernel
theorem dL_changes_12 : decode cL_changes 12 = .ok (.istore 4, 2) := by decide +kernel
theorem dL_changes_14 : decode cL_changes 14 = .ok (.aload_n 0, 1) := by decide +kernel
theorem dL_changes_15 : decode cL_changes 15 = .ok (.iconst 4, 1) := by decide +kernel
theorem dL_changes_16 : decode cL_changes 16 = .ok (.invokevirtual 16, 3) := by decide +kernel
theorem dL_changes_19 : decode cL_changes 19 = .ok (.istore 5, 2) := by decide +kernel
theorem dL_changes_21 : decode cL_changes 21 = .ok (.aload_n 0, 1) := by decide +kernel
theorem dL_changes_22 : decode cL_changes 22 = .ok (.iconst 2, 1) := by decide +kernel
theorem dL_changes_23 : decode cL_changes 23 = .ok (.invokevirtual 37, 3) := by decide +kernel
theorem dL_changes_26 : decode cL_changes 26 = .ok (.istore 6, 2) := by decide +kernel
theorem dL_changes_28 : decode cL_changes 28 = .ok (.iload 5, 2) := by decide +kernel
theorem dL_changes_30 : decode cL_changes 30 = .ok (.bipush 24, 2) := by decide +kernel
theorem dL_changes_32 : decode cL_changes 32 = .ok (.if_icmp .ne 15, 3) := by decide +kernel
theorem dL_changes_35 : decode cL_changes 35 = .ok (.iload_n 2, 1) := by decide +kernel
theorem dL_changes_36 : decode cL_changes 36 = .ok (.ifCond .ge 7, 3) := by decide +kernel
theorem dL_changes_39 : decode cL_changes 39 = .ok (.iload_n 3, 1) := by decide +kernel
theorem dL_changes_40 : decode cL_changes 40 = .ok (.ifCond .lt 7, 3) := by decide +kernel
theorem dL_changes_43 : decode cL_changes 43 = .ok (.iconst 1, 1) := by decide +kernel
theorem dL_changes_44 : decode cL_changes 44 = .ok (.goto 4, 3) := by decide +kernel
theorem dL_changes_47 : decode cL_changes 47 = .ok (.iconst 0, 1) := by decide +kernel
theorem dL_changes_48 : decode cL_changes 48 = .ok (.istore 7, 2) := by decide +kernel
theorem dL_changes_50 : decode cL_changes 50 = .ok (.aload_n 0, 1) := by decide +kernel
theorem dL_changes_51 : decode cL_changes 51 = .ok (.iconst 3, 1) := by decide +kernel
theorem dL_changes_52 : decode cL_changes 52 = .ok (.invokevirtual 57, 3) := by decide +kernel
theorem dL_changes_55 : decode cL_changes 55 = .ok (.iconst 1, 1) := by decide +kernel
theorem dL_changes_56 : decode cL_changes 56 = .ok (.if_icmp .ne 7, 3) := by decide +kernel
theorem dL_changes_59 : decode cL_changes 59 = .ok (.iconst 1, 1) := by decide +kernel
theorem dL_changes_60 : decode cL_changes 60 = .ok (.goto 4, 3) := by decide +kernel
theorem dL_changes_63 : decode cL_changes 63 = .ok (.iconst 0, 1) := by decide +kernel
theorem dL_changes_64 : decode cL_changes 64 = .ok (.istore 8, 2) := by decide +kernel
theorem dL_changes_66 : decode cL_changes 66 = .ok (.iload_n 2, 1) := by decide +kernel
theorem dL_changes_67 : decode cL_changes 67 = .ok (.ifCond .ge 11, 3) := by decide +kernel
theorem dL_changes_70 : decode cL_changes 70 = .ok (.aload_n 0, 1) := by decide +kernel
theorem dL_changes_71 : decode cL_changes 71 = .ok (.iload_n 1, 1) := by decide +kernel
theorem dL_changes_72 : decode cL_changes 72 = .ok (.invokevirtual 76, 3) := by decide +kernel
theorem dL_changes_75 : decode cL_changes 75 = .ok (.goto 9, 3) := by decide +kernel
theorem dL_changes_78 : decode cL_changes 78 = .ok (.aload_n 0, 1) := by decide +kernel
theorem dL_changes_79 : decode cL_changes 79 = .ok (.iload_n 1, 1) := by decide +kernel
theorem dL_changes_80 : decode cL_changes 80 = .ok (.iload_n 2, 1) := by decide +kernel
theorem dL_changes_81 : decode cL_changes 81 = .ok (.invokevirtual 79, 3) := by decide +kernel
theorem dL_changes_84 : decode cL_changes 84 = .ok (.istore 9, 2) := by decide +kernel
theorem dL_changes_86 : decode cL_changes 86 = .ok (.iload 4, 2) := by decide +kernel
theorem dL_changes_88 : decode cL_changes 88 = .ok (.iconst 3, 1) := by decide +kernel
theorem dL_changes_89 : decode cL_changes 89 = .ok (.if_icmp .ne 26, 3) := by decide +kernel
theorem dL_changes_92 : decode cL_changes 92 = .ok (.iload 9, 2) := by decide +kernel
theorem dL_changes_94 : decode cL_changes 94 = .ok (.bipush (-4), 2) := by decide +kernel
theorem dL_changes_96 : decode cL_changes 96 = .ok (.if_icmp .ne 17, 3) := by decide +kernel
theorem dL_changes_99 : decode cL_changes 99 = .ok (.aload_n 0, 1) := by decide +kernel
theorem dL_changes_100 : decode cL_changes 100 = .ok (.iconst 0, 1) := by decide +kernel
theorem dL_changes_101 : decode cL_changes 101 = .ok (.iload_n 1, 1) := by decide +kernel
theorem dL_changes_102 : decode cL_changes 102 = .ok (.invokevirtual 10, 3) := by decide +kernel
theorem dL_changes_105 : decode cL_changes 105 = .ok (.iload_n 3, 1) := by decide +kernel
theorem dL_changes_106 : decode cL_changes 106 = .ok (.if_icmp .ne 7, 3) := by decide +kernel
theorem dL_changes_109 : decode cL_changes 109 = .ok (.iconst 1, 1) := by decide +kernel
theorem dL_changes_110 : decode cL_changes 110 = .ok (.goto 4, 3) := by decide +kernel
theorem dL_changes_113 : decode cL_changes 113 = .ok (.iconst 0, 1) := by decide +kernel
theorem dL_changes_114 : decode cL_changes 114 = .ok (.ireturn, 1) := by decide +kernel
theorem dL_changes_115 : decode cL_changes 115 = .ok (.iload 7, 2) := by decide +kernel
theorem dL_changes_117 : decode cL_changes 117 = .ok (.ifCond .eq 41, 3) := by decide +kernel
theorem dL_changes_120 : decode cL_changes 120 = .ok (.iload 8, 2) := by decide +kernel
theorem dL_changes_122 : decode cL_changes 122 = .ok (.ifCond .eq 36, 3) := by decide +kernel
theorem dL_changes_125 : decode cL_changes 125 = .ok (.iload 9, 2) := by decide +kernel
theorem dL_changes_127 : decode cL_changes 127 = .ok (.bipush (-3), 2) := by decide +kernel
theorem dL_changes_129 : decode cL_changes 129 = .ok (.if_icmp .ne 27, 3) := by decide +kernel
theorem dL_changes_132 : decode cL_changes 132 = .ok (.aload_n 0, 1) := by decide +kernel
theorem dL_changes_133 : decode cL_changes 133 = .ok (.iconst 0, 1) := by decide +kernel
theorem dL_changes_134 : decode cL_changes 134 = .ok (.iload_n 1, 1) := by decide +kernel
theorem dL_changes_135 : decode cL_changes 135 = .ok (.invokevirtual 10, 3) := by decide +kernel
theorem dL_changes_138 : decode cL_changes 138 = .ok (.iload_n 3, 1) := by decide +kernel
theorem dL_changes_139 : decode cL_changes 139 = .ok (.if_icmp .ne 17, 3) := by decide +kernel
theorem dL_changes_142 : decode cL_changes 142 = .ok (.aload_n 0, 1) := by decide +kernel
theorem dL_changes_143 : decode cL_changes 143 = .ok (.iconst 4, 1) := by decide +kernel
theorem dL_changes_144 : decode cL_changes 144 = .ok (.invokevirtual 16, 3) := by decide +kernel
theorem dL_changes_147 : decode cL_changes 147 = .ok (.bipush 24, 2) := by decide +kernel
theorem dL_changes_149 : decode cL_changes 149 = .ok (.if_icmp .ne 7, 3) := by decide +kernel
theorem dL_changes_152 : decode cL_changes 152 = .ok (.iconst 1, 1) := by decide +kernel
theorem dL_changes_153 : decode cL_changes 153 = .ok (.goto 4, 3) := by decide +kernel
theorem dL_changes_156 : decode cL_changes 156 = .ok (.iconst 0, 1) := by decide +kernel
theorem dL_changes_157 : decode cL_changes 157 = .ok (.ireturn, 1) := by decide +kernel
theorem dL_changes_158 : decode cL_changes 158 = .ok (.iload 9, 2) := by decide +kernel
theorem dL_changes_160 : decode cL_changes 160 = .ok (.iload_n 3, 1) := by decide +kernel
theorem dL_changes_161 : decode cL_changes 161 = .ok (.if_icmp .ne 38, 3) := by decide +kernel
theorem dL_changes_164 : decode cL_changes 164 = .ok (.aload_n 0, 1) := by decide +kernel
theorem dL_changes_165 : decode cL_changes 165 = .ok (.iconst 0, 1) := by decide +kernel
theorem dL_changes_166 : decode cL_changes 166 = .ok (.iload_n 1, 1) := by decide +kernel
theorem dL_changes_167 : decode cL_changes 167 = .ok (.invokevirtual 10, 3) := by decide +kernel
theorem dL_changes_170 : decode cL_changes 170 = .ok (.iload_n 2, 1) := by decide +kernel
theorem dL_changes_171 : decode cL_changes 171 = .ok (.if_icmp .ne 28, 3) := by decide +kernel
theorem dL_changes_174 : decode cL_changes 174 = .ok (.aload_n 0, 1) := by decide +kernel
theorem dL_changes_175 : decode cL_changes 175 = .ok (.iconst 2, 1) := by decide +kernel
theorem dL_changes_176 : decode cL_changes 176 = .ok (.invokevirtual 37, 3) := by decide +kernel
theorem dL_changes_179 : decode cL_changes 179 = .ok (.iload 6, 2) := by decide +kernel
theorem dL_changes_181 : decode cL_changes 181 = .ok (.iload 7, 2) := by decide +kernel
theorem dL_changes_183 : decode cL_changes 183 = .ok (.ifCond .eq 7, 3) := by decide +kernel
theorem dL_changes_186 : decode cL_changes 186 = .ok (.iconst 1, 1) := by decide +kernel
theorem dL_changes_187 : decode cL_changes 187 = .ok (.goto 4, 3) := by decide +kernel
theorem dL_changes_190 : decode cL_changes 190 = .ok (.iconst 0, 1) := by decide +kernel
theorem dL_changes_191 : decode cL_changes 191 = .ok (.iadd, 1) := by decide +kernel
theorem dL_changes_192 : decode cL_changes 192 = .ok (.if_icmp .ne 7, 3) := by decide +kernel
theorem dL_changes_195 : decode cL_changes 195 = .ok (.iconst 1, 1) := by decide +kernel
theorem dL_changes_196 : decode cL_changes 196 = .ok (.goto 4, 3) := by decide +kernel
theorem dL_changes_199 : decode cL_changes 199 = .ok (.iconst 0, 1) := by decide +kernel
theorem dL_changes_200 : decode cL_changes 200 = .ok (.istore 10, 2) := by decide +kernel
theorem dL_changes_202 : decode cL_changes 202 = .ok (.iload 10, 2) := by decide +kernel
theorem dL_changes_204 : decode cL_changes 204 = .ok (.ifCond .eq 52, 3) := by decide +kernel
theorem dL_changes_207 : decode cL_changes 207 = .ok (.iload 4, 2) := by decide +kernel
theorem dL_changes_209 : decode cL_changes 209 = .ok (.ifCond .eq 43, 3) := by decide +kernel
theorem dL_changes_212 : decode cL_changes 212 = .ok (.iload 7, 2) := by decide +kernel
theorem dL_changes_214 : decode cL_changes 214 = .ok (.ifCond .eq 14, 3) := by decide +kernel
theorem dL_changes_217 : decode cL_changes 217 = .ok (.aload_n 0, 1) := by decide +kernel
theorem dL_changes_218 : decode cL_changes 218 = .ok (.iconst 0, 1) := by decide +kernel
theorem dL_changes_219 : decode cL_changes 219 = .ok (.invokevirtual 16, 3) := by decide +kernel
theorem dL_changes_222 : decode cL_changes 222 = .ok (.ifCond .ne 34, 3) := by decide +kernel
theorem dL_changes_225 : decode cL_changes 225 = .ok (.goto 27, 3) := by decide +kernel
theorem dL_changes_228 : decode cL_changes 228 = .ok (.aload_n 0, 1) := by decide +kernel
theorem dL_changes_229 : decode cL_changes 229 = .ok (.iconst 4, 1) := by decide +kernel
theorem dL_changes_230 : decode cL_changes 230 = .ok (.invokevirtual 16, 3) := by decide +kernel
theorem dL_changes_233 : decode cL_changes 233 = .ok (.iload 5, 2) := by decide +kernel
theorem dL_changes_235 : decode cL_changes 235 = .ok (.iload_n 2, 1) := by decide +kernel
theorem dL_changes_236 : decode cL_changes 236 = .ok (.ifCond .ge 7, 3) := by decide +kernel
theorem dL_changes_239 : decode cL_changes 239 = .ok (.iload_n 3, 1) := by decide +kernel
theorem dL_changes_240 : decode cL_changes 240 = .ok (.ifCond .lt 7, 3) := by decide +kernel
theorem dL_changes_243 : decode cL_changes 243 = .ok (.iconst 1, 1) := by decide +kernel
theorem dL_changes_244 : decode cL_changes 244 = .ok (.goto 4, 3) := by decide +kernel
theorem dL_changes_247 : decode cL_changes 247 = .ok (.iconst 0, 1) := by decide +kernel
theorem dL_changes_248 : decode cL_changes 248 = .ok (.iadd, 1) := by decide +kernel
theorem dL_changes_249 : decode cL_changes 249 = .ok (.if_icmp .ne 7, 3) := by decide +kernel
theorem dL_changes_252 : decode cL_changes 252 = .ok (.iconst 1, 1) := by decide +kernel
theorem dL_changes_253 : decode cL_changes 253 = .ok (.goto 4, 3) := by decide +kernel
theorem dL_changes_256 : decode cL_changes 256 = .ok (.iconst 0, 1) := by decide +kernel
theorem dL_changes_257 : decode cL_changes 257 = .ok (.ireturn, 1) := by decide +kernel
set_option maxRecDepth 20000 in
theorem ggL_act_L_low : GoodIn wsL_act wsL_low := goodIn_r _ [4, 5] (by rfl) (by decide +kernel)
set_option maxRecDepth 20000 in
theorem gL_act_L_low : GoodIn wsL_act (va_wsS RL 82 yL_low wsL_low) := goodIn_app (goodIn_r _ [1, 2, 3] (by rfl) (by decide +kernel)) ggL_act_L_low
set_option maxRecDepth 20000 in
theorem ggL_act_L_changes : GoodIn wsL_act wsL_changes := goodIn_r _ [8, 9, 10, 11, 12, 13, 14, 15, 16, 17, 18, 19, 20, 21, 22, 23, 24, 25, 26, 27, 28, 29, 30, 31, 32, 33, 34, 35, 36, 37, 38, 39, 40, 41, 42, 43, 44, 45, 46, 47, 48, 49, 50, 51, 52, 53, 54, 55, 56, 57, 58, 59, 60, 61, 62, 63, 64, 65, 66, 67, 68, 69, 70, 71, 72, 73, 74, 75, 76, 77, 78, 79, 80, 81, 82, 83, 84, 85, 86, 87, 88, 89, 90, 91, 92, 93, 94, 95, 96, 97, 98, 99, 100, 101, 102, 103, 104, 105, 106, 107, 108, 109, 110, 111, 112, 113, 114, 115, 116, 117, 118, 119, 120, 121, 122, 123, 124, 125, 126, 127, 128, 129, 130, 131, 132, 133, 134, 135, 136, 137, 138, 139, 140, 141, 142, 143, 144, 145, 146, 147, 148, 149, 150, 151, 152, 153, 154, 155, 156, 157, 158, 159, 160, 161, 162, 358, 359, 360, 361, 362, 363, 364, 365, 366, 367, 368, 369, 370, 371, 372, 373, 374, 375, 376, 377, 378, 379, 380, 381, 382, 383, 384] (by rfl) (by decide +kernel)
set_option maxRecDepth 20000 in
theorem gL_act_L_changes : GoodIn wsL_act (va_wsS RL 85 yL_changes wsL_changes) := goodIn_app (goodIn_r _ [6, 7, 3] (by rfl) (by decide +kernel)) ggL_act_L_changes
set_option maxRecDepth 20000 in
theorem ggL_act_X6_copy : GoodIn wsL_act wsX6_copy := goodIn_r _ [46, 14, 18, 19, 12, 20, 47, 48, 49, 50, 51, 52, 53, 54, 55, 56, 57, 358, 359, 360, 361, 362, 363, 364, 365, 366, 367, 368, 369, 370, 371, 372, 373, 374, 375, 376, 378, 379, 380, 381] (by rfl) (by decide +kernel)
set_option maxRecDepth 20000 in
theorem gL_act_X6_copy : GoodIn wsL_act (wsV RL 16 RX6 yX6_copy wsX6_copy) := goodIn_app (goodIn_r _ [43, 44, 45, 12] (by rfl) (by decide +kernel)) ggL_act_X6_copy
set_option maxRecDepth 20000 in
theorem ggL_act_X6_table : GoodIn wsL_act wsX6_table := goodIn_r _ [166, 14, 21, 22, 12, 23, 18, 19, 20, 24, 25, 26, 27, 28, 29, 30, 31, 32, 33, 34, 35, 36, 167, 168, 169, 40, 170, 171, 172, 173, 174, 42, 175, 176, 177, 178, 179, 180, 181, 182, 183, 184, 185, 186, 358, 359, 360, 361, 362, 363, 364, 365, 366, 367, 368, 369, 370, 371, 372, 373, 374, 375, 376, 377] (by rfl) (by decide +kernel)
set_option maxRecDepth 20000 in
theorem gL_act_X6_table : GoodIn wsL_act (wsV RL 47 RX6 yX6_table wsX6_table) := goodIn_app (goodIn_r _ [163, 164, 165, 12] (by rfl) (by decide +kernel)) ggL_act_X6_table
set_option maxRecDepth 20000 in
theorem ggL_act_X6_begin : GoodIn wsL_act wsX6_begin := goodIn_r _ [190, 73, 14, 74, 75, 76, 77, 78, 79, 80, 81, 82, 83, 84, 85, 86, 87, 88, 27, 89, 29, 32, 31, 30, 90, 91, 92, 93, 94, 95, 96, 97, 98, 40, 99, 42, 100, 101, 102, 103, 50, 104, 105, 57, 52, 54, 55, 56, 53, 106, 107, 108, 109, 110, 111, 112, 113, 114, 115, 116, 191, 192, 193, 194, 195, 12, 196, 18, 19, 20, 197, 198, 33, 34, 35, 36, 199, 200, 201, 202, 203, 204, 205, 206, 207, 208, 209, 210, 211, 212, 213, 214, 215, 172, 173, 174, 142, 143, 144, 145, 146, 147, 148, 149, 150, 151, 152, 358, 359, 360, 361, 362, 363, 382, 383, 384, 364, 365, 366, 367, 368, 369, 377, 370, 371, 372, 373, 374, 375, 376, 378, 379, 380, 381] (by rfl) (by decide +kernel)
set_option maxRecDepth 20000 in
theorem gL_act_X6_begin : GoodIn wsL_act (wsV RL 89 RX6 yX6_begin wsX6_begin) := goodIn_app (goodIn_r _ [187, 188, 189, 12] (by rfl) (by decide +kernel)) ggL_act_X6_begin
set_option maxRecDepth 20000 in
theorem ggL_act_L_ticks : GoodIn wsL_act wsL_ticks := goodIn_r _ [218, 58, 59, 60, 12, 61, 14, 18, 19, 20, 43, 44, 45, 46, 47, 48, 49, 50, 51, 52, 53, 54, 55, 56, 57, 219, 220, 221, 222, 73, 74, 75, 76, 77, 78, 79, 80, 81, 82, 83, 84, 85, 86, 87, 88, 27, 89, 29, 32, 31, 30, 90, 91, 92, 93, 94, 95, 96, 97, 98, 40, 99, 42, 100, 101, 102, 103, 104, 105, 106, 107, 108, 109, 110, 111, 112, 113, 114, 115, 116, 223, 224, 225, 226, 227, 228, 229, 230, 231, 232, 33, 34, 35, 36, 233, 234, 235, 236, 237, 238, 239, 240, 241, 242, 243, 244, 130, 131, 132, 133, 245, 246, 247, 248, 249, 250, 138, 139, 140, 141, 251, 252, 253, 254, 255, 256, 257, 258, 121, 38, 39, 41, 259, 260, 261, 262, 263, 264, 142, 143, 144, 145, 146, 147, 148, 149, 150, 151, 152, 62, 63, 64, 65, 66, 67, 68, 358, 359, 360, 361, 362, 363, 364, 365, 366, 367, 368, 369, 370, 371, 372, 373, 374, 375, 376, 378, 379, 380, 381, 382, 383, 384, 377] (by rfl) (by decide +kernel)
set_option maxRecDepth 20000 in
theorem gL_act_L_ticks : GoodIn wsL_act (va_wsS RL 92 yL_ticks wsL_ticks) := goodIn_app (goodIn_r _ [216, 217, 3] (by rfl) (by decide +kernel)) ggL_act_L_ticks
set_option maxRecDepth 20000 in
theorem ggL_act_L_readySo : GoodIn wsL_act wsL_readySo := goodIn_r _ [267, 268, 269, 3, 270, 271, 272, 9, 10, 11, 12, 13, 14, 15, 16, 17, 18, 19, 20, 21, 22, 23, 24, 25, 26, 27, 28, 29, 30, 31, 32, 33, 34, 35, 36, 37, 38, 39, 40, 41, 42, 58, 59, 60, 61, 43, 44, 45, 46, 47, 48, 49, 50, 51, 52, 53, 54, 55, 56, 57, 273, 274, 275, 276, 277, 278, 242, 243, 110, 244, 116, 112, 130, 131, 132, 133, 115, 279, 246, 247, 248, 114, 62, 63, 64, 65, 66, 67, 68, 280, 281, 282, 283, 284, 285, 286, 287, 288, 289, 87, 88, 89, 90, 91, 92, 93, 94, 95, 96, 97, 98, 99, 100, 101, 102, 103, 104, 105, 106, 107, 108, 109, 111, 113, 290, 291, 292, 293, 229, 230, 231, 232, 233, 234, 235, 236, 237, 238, 239, 240, 241, 245, 249, 250, 138, 139, 140, 141, 251, 252, 253, 254, 255, 256, 257, 258, 121, 259, 260, 261, 262, 263, 264, 294, 295, 296, 297, 298, 227, 228, 219, 220, 221, 222, 73, 74, 75, 76, 77, 78, 79, 80, 81, 82, 83, 84, 85, 86, 223, 224, 225, 226, 142, 143, 144, 145, 146, 147, 148, 149, 150, 151, 152, 299, 300, 301, 302, 303, 304, 305, 306, 358, 359, 360, 361, 362, 363, 364, 365, 366, 367, 368, 369, 370, 371, 372, 373, 374, 375, 376, 377, 378, 379, 380, 381, 382, 383, 384] (by rfl) (by decide +kernel)
set_option maxRecDepth 20000 in
theorem gL_act_L_readySo : GoodIn wsL_act (va_wsS RL 96 yL_readySo wsL_readySo) := goodIn_app (goodIn_r _ [265, 266, 3] (by rfl) (by decide +kernel)) ggL_act_L_readySo
set_option maxRecDepth 20000 in
theorem ggL_act_X6_lock : GoodIn wsL_act wsX6_lock := goodIn_r _ [310, 73, 14, 74, 75, 76, 77, 78, 79, 80, 81, 82, 83, 84, 85, 86, 87, 88, 27, 89, 29, 32, 31, 30, 90, 91, 92, 93, 94, 95, 96, 97, 98, 40, 99, 42, 100, 101, 102, 103, 50, 104, 105, 57, 52, 54, 55, 56, 53, 106, 107, 108, 109, 110, 111, 112, 113, 114, 115, 116, 311, 312, 313, 314, 142, 143, 144, 12, 145, 146, 147, 148, 149, 150, 151, 152, 358, 359, 360, 361, 362, 363, 382, 383, 384, 364, 365, 366, 367, 368, 369, 377, 370, 371, 372, 373, 374, 375, 376, 378, 379, 380, 381] (by rfl) (by decide +kernel)
set_option maxRecDepth 20000 in
theorem gL_act_X6_lock : GoodIn wsL_act (wsV RL 99 RX6 yX6_lock wsX6_lock) := goodIn_app (goodIn_r _ [307, 308, 309, 12] (by rfl) (by decide +kernel)) ggL_act_X6_lock
set_option maxRecDepth 20000 in
theorem ggL_act_X6_unlock : GoodIn wsL_act wsX6_unlock := goodIn_r _ [318, 73, 14, 74, 75, 76, 77, 78, 79, 80, 81, 82, 83, 84, 85, 86, 87, 88, 27, 89, 29, 32, 31, 30, 90, 91, 92, 93, 94, 95, 96, 97, 98, 40, 99, 42, 100, 101, 102, 103, 50, 104, 105, 57, 52, 54, 55, 56, 53, 106, 107, 108, 109, 110, 111, 112, 113, 114, 115, 116, 319, 320, 321, 322, 142, 143, 144, 12, 145, 146, 147, 148, 149, 150, 151, 152, 358, 359, 360, 361, 362, 363, 382, 383, 384, 364, 365, 366, 367, 368, 369, 377, 370, 371, 372, 373, 374, 375, 376, 378, 379, 380, 381] (by rfl) (by decide +kernel)
set_option maxRecDepth 20000 in
theorem gL_act_X6_unlock : GoodIn wsL_act (wsV RL 102 RX6 yX6_unlock wsX6_unlock) := goodIn_app (goodIn_r _ [315, 316, 317, 12] (by rfl) (by decide +kernel)) ggL_act_X6_unlock
set_option maxRecDepth 20000 in
theorem ggL_act_L_swaps : GoodIn wsL_act wsL_swaps := goodIn_r _ [325, 326, 43, 44, 45, 12, 46, 14, 18, 19, 20, 47, 48, 49, 50, 51, 52, 53, 54, 55, 56, 57, 163, 164, 165, 166, 21, 22, 23, 24, 25, 26, 27, 28, 29, 30, 31, 32, 33, 34, 35, 36, 167, 168, 169, 40, 170, 171, 172, 173, 174, 42, 175, 176, 177, 178, 179, 180, 181, 182, 183, 184, 185, 186, 9, 10, 11, 13, 15, 16, 17, 37, 38, 39, 41, 327, 328, 329, 330, 73, 74, 75, 76, 77, 78, 79, 80, 81, 82, 83, 84, 85, 86, 87, 88, 89, 90, 91, 92, 93, 94, 95, 96, 97, 98, 99, 100, 101, 102, 103, 104, 105, 106, 107, 108, 109, 110, 111, 112, 113, 114, 115, 116, 331, 332, 333, 334, 215, 142, 143, 144, 145, 146, 147, 148, 149, 150, 151, 152, 335, 336, 337, 338, 339, 195, 196, 340, 161, 162, 341, 249, 250, 358, 359, 360, 361, 362, 363, 364, 365, 366, 367, 368, 369, 370, 371, 372, 373, 374, 375, 376, 378, 379, 380, 381, 377, 382, 383, 384] (by rfl) (by decide +kernel)
set_option maxRecDepth 20000 in
theorem gL_act_L_swaps : GoodIn wsL_act (va_wsS RL 105 yL_swaps wsL_swaps) := goodIn_app (goodIn_r _ [323, 324, 3] (by rfl) (by decide +kernel)) ggL_act_L_swaps
set_option maxRecDepth 20000 in
theorem ggL_act_X6_setting : GoodIn wsL_act wsX6_setting := goodIn_r _ [65, 14, 66, 67, 12, 68, 18, 19, 20, 358, 359, 360, 361, 362, 363, 364, 365, 366, 367, 368, 369] (by rfl) (by decide +kernel)
set_option maxRecDepth 20000 in
theorem gL_act_X6_setting : GoodIn wsL_act (wsV RL 57 RX6 yX6_setting wsX6_setting) := goodIn_app (goodIn_r _ [62, 63, 64, 12] (by rfl) (by decide +kernel)) ggL_act_X6_setting
set_option maxRecDepth 20000 in
theorem ggL_act_X6_set : GoodIn wsL_act wsX6_set := goodIn_r _ [345, 73, 14, 74, 75, 76, 77, 78, 79, 80, 81, 82, 83, 84, 85, 86, 87, 88, 27, 89, 29, 32, 31, 30, 90, 91, 92, 93, 94, 95, 96, 97, 98, 40, 99, 42, 100, 101, 102, 103, 50, 104, 105, 57, 52, 54, 55, 56, 53, 106, 107, 108, 109, 110, 111, 112, 113, 114, 115, 116, 346, 347, 348, 349, 67, 12, 68, 18, 19, 20, 142, 143, 144, 145, 146, 147, 148, 149, 150, 151, 152, 358, 359, 360, 361, 362, 363, 382, 383, 384, 364, 365, 366, 367, 368, 369, 377, 370, 371, 372, 373, 374, 375, 376, 378, 379, 380, 381] (by rfl) (by decide +kernel)
set_option maxRecDepth 20000 in
theorem gL_act_X6_set : GoodIn wsL_act (wsV RL 109 RX6 yX6_set wsX6_set) := goodIn_app (goodIn_r _ [342, 343, 344, 12] (by rfl) (by decide +kernel)) ggL_act_X6_set
set_option maxRecDepth 20000 in
theorem ggL_act_X6_giveUp : GoodIn wsL_act wsX6_giveUp := goodIn_r _ [353, 73, 14, 74, 75, 76, 77, 78, 79, 80, 81, 82, 83, 84, 85, 86, 87, 88, 27, 89, 29, 32, 31, 30, 90, 91, 92, 93, 94, 95, 96, 97, 98, 40, 99, 42, 100, 101, 102, 103, 50, 104, 105, 57, 52, 54, 55, 56, 53, 106, 107, 108, 109, 110, 111, 112, 113, 114, 115, 116, 354, 355, 356, 357, 33, 34, 35, 36, 134, 135, 136, 137, 215, 172, 173, 174, 142, 143, 144, 12, 145, 146, 147, 148, 149, 150, 151, 152, 358, 359, 360, 361, 362, 363, 382, 383, 384, 364, 365, 366, 367, 368, 369, 377, 370, 371, 372, 373, 374, 375, 376, 378, 379, 380, 381] (by rfl) (by decide +kernel)
set_option maxRecDepth 20000 in
theorem gL_act_X6_giveUp : GoodIn wsL_act (wsV RL 112 RX6 yX6_giveUp wsX6_giveUp) := goodIn_app (goodIn_r _ [350, 351, 352, 12] (by rfl) (by decide +kernel)) ggL_act_X6_giveUp
theorem dL_act_0 : decode cL_act 0 = .ok (.iload_n 1, 1) := by decide +kernel
theorem dL_act_1 : decode cL_act 1 = .ok (.bipush 18, 2) := by decide +kernel
theorem dL_act_3 : decode cL_act 3 = .ok (.invokestatic 82, 3) := by decide +kernel
theorem dL_act_6 : decode cL_act 6 = .ok (.tableswitch 548 0 16 #[82, 82, 82, 82, 82, 82, 152, 152, 292, 292, 292, 305, 318, 318, 373, 428, 433], 82) := by decide +kernel
theorem dL_act_88 : decode cL_act 88 = .ok (.iconst 0, 1) := by decide +kernel
theorem dL_act_89 : decode cL_act 89 = .ok (.istore_n 3, 1) := by decide +kernel
theorem dL_act_90 : decode cL_act 90 = .ok (.iload_n 3, 1) := by decide +kernel
theorem dL_act_91 : decode cL_act 91 = .ok (.iload_n 2, 1) := by decide +kernel
theorem dL_act_92 : decode cL_act 92 = .ok (.bipush 11, 2) := by decide +kernel
theorem dL_act_94 : decode cL_act 94 = .ok (.ishr, 1) := by decide +kernel
theorem dL_act_95 : decode cL_act 95 = .ok (.iconst 5, 1) := by decide +kernel
theorem dL_act_96 : decode cL_act 96 = .ok (.invokestatic 82, 3) := by decide +kernel
theorem dL_act_99 : decode cL_act 99 = .ok (.if_icmp .gt 57, 3) := by decide +kernel
theorem dL_act_102 : decode cL_act 102 = .ok (.aload_n 0, 1) := by decide +kernel
theorem dL_act_103 : decode cL_act 103 = .ok (.iload_n 2, 1) := by decide +kernel
theorem dL_act_104 : decode cL_act 104 = .ok (.iconst 3, 1) := by decide +kernel
theorem dL_act_105 : decode cL_act 105 = .ok (.iload_n 3, 1) := by decide +kernel
theorem dL_act_106 : decode cL_act 106 = .ok (.imul, 1) := by decide +kernel
theorem dL_act_107 : decode cL_act 107 = .ok (.ishr, 1) := by decide +kernel
theorem dL_act_108 : decode cL_act 108 = .ok (.bipush 32, 2) := by decide +kernel
theorem dL_act_110 : decode cL_act 110 = .ok (.invokestatic 82, 3) := by decide +kernel
theorem dL_act_113 : decode cL_act 113 = .ok (.iload_n 2, 1) := by decide +kernel
theorem dL_act_114 : decode cL_act 114 = .ok (.iconst 2, 1) := by decide +kernel
theorem dL_act_115 : decode cL_act 115 = .ok (.iload_n 3, 1) := by decide +kernel
theorem dL_act_116 : decode cL_act 116 = .ok (.iadd, 1) := by decide +kernel
theorem dL_act_117 : decode cL_act 117 = .ok (.ishr, 1) := by decide +kernel
theorem dL_act_118 : decode cL_act 118 = .ok (.iconst 5, 1) := by decide +kernel
theorem dL_act_119 : decode cL_act 119 = .ok (.invokestatic 82, 3) := by decide +kernel
theorem dL_act_122 : decode cL_act 122 = .ok (.ifCond .ne 8, 3) := by decide +kernel
theorem dL_act_125 : decode cL_act 125 = .ok (.bipush (-5), 2) := by decide +kernel
theorem dL_act_127 : decode cL_act 127 = .ok (.goto 15, 3) := by decide +kernel
theorem dL_act_130 : decode cL_act 130 = .ok (.iload_n 2, 1) := by decide +kernel
theorem dL_act_131 : decode cL_act 131 = .ok (.iconst 4, 1) := by decide +kernel
theorem dL_act_132 : decode cL_act 132 = .ok (.iconst 2, 1) := by decide +kernel
theorem dL_act_133 : decode cL_act 133 = .ok (.iload_n 3, 1) := by decide +kernel
theorem dL_act_134 : decode cL_act 134 = .ok (.imul, 1) := by decide +kernel
theorem dL_act_135 : decode cL_act 135 = .ok (.iadd, 1) := by decide +kernel
theorem dL_act_136 : decode cL_act 136 = .ok (.ishr, 1) := by decide +kernel
theorem dL_act_137 : decode cL_act 137 = .ok (.bipush 100, 2) := by decide +kernel
theorem dL_act_139 : decode cL_act 139 = .ok (.invokestatic 82, 3) := by decide +kernel
theorem dL_act_142 : decode cL_act 142 = .ok (.invokestatic 85, 3) := by decide +kernel
theorem dL_act_145 : decode cL_act 145 = .ok (.ifCond .ne 5, 3) := by decide +kernel
theorem dL_act_148 : decode cL_act 148 = .ok (.iconst 0, 1) := by decide +kernel
theorem dL_act_149 : decode cL_act 149 = .ok (.ireturn, 1) := by decide +kernel
theorem dL_act_150 : decode cL_act 150 = .ok (.iinc 3 1, 3) := by decide +kernel
theorem dL_act_153 : decode cL_act 153 = .ok (.goto (-63), 3) := by decide +kernel
theorem dL_act_156 : decode cL_act 156 = .ok (.iconst 1, 1) := by decide +kernel
theorem dL_act_157 : decode cL_act 157 = .ok (.ireturn, 1) := by decide +kernel
theorem dL_act_158 : decode cL_act 158 = .ok (.aload_n 0, 1) := by decide +kernel
theorem dL_act_159 : decode cL_act 159 = .ok (.iconst 0, 1) := by decide +kernel
theorem dL_act_160 : decode cL_act 160 = .ok (.invokevirtual 16, 3) := by decide +kernel
theorem dL_act_163 : decode cL_act 163 = .ok (.ifCond .ne 7, 3) := by decide +kernel
theorem dL_act_166 : decode cL_act 166 = .ok (.iconst 1, 1) := by decide +kernel
theorem dL_act_167 : decode cL_act 167 = .ok (.goto 4, 3) := by decide +kernel
theorem dL_act_170 : decode cL_act 170 = .ok (.iconst 0, 1) := by decide +kernel
theorem dL_act_171 : decode cL_act 171 = .ok (.istore_n 3, 1) := by decide +kernel
theorem dL_act_172 : decode cL_act 172 = .ok (.aload_n 0, 1) := by decide +kernel
theorem dL_act_173 : decode cL_act 173 = .ok (.iconst 0, 1) := by decide +kernel
theorem dL_act_174 : decode cL_act 174 = .ok (.iconst 0, 1) := by decide +kernel
theorem dL_act_175 : decode cL_act 175 = .ok (.invokevirtual 47, 3) := by decide +kernel
theorem dL_act_178 : decode cL_act 178 = .ok (.istore 4, 2) := by decide +kernel
theorem dL_act_180 : decode cL_act 180 = .ok (.aload_n 0, 1) := by decide +kernel
theorem dL_act_181 : decode cL_act 181 = .ok (.iload_n 2, 1) := by decide +kernel
theorem dL_act_182 : decode cL_act 182 = .ok (.iconst 5, 1) := by decide +kernel
theorem dL_act_183 : decode cL_act 183 = .ok (.invokestatic 82, 3) := by decide +kernel
theorem dL_act_186 : decode cL_act 186 = .ok (.iconst 1, 1) := by decide +kernel
theorem dL_act_187 : decode cL_act 187 = .ok (.iload_n 2, 1) := by decide +kernel
theorem dL_act_188 : decode cL_act 188 = .ok (.iconst 3, 1) := by decide +kernel
theorem dL_act_189 : decode cL_act 189 = .ok (.ishr, 1) := by decide +kernel
theorem dL_act_190 : decode cL_act 190 = .ok (.bipush 8, 2) := by decide +kernel
theorem dL_act_192 : decode cL_act 192 = .ok (.invokestatic 82, 3) := by decide +kernel
theorem dL_act_195 : decode cL_act 195 = .ok (.iadd, 1) := by decide +kernel
theorem dL_act_196 : decode cL_act 196 = .ok (.invokevirtual 89, 3) := by decide +kernel
theorem dL_act_199 : decode cL_act 199 = .ok (.istore 5, 2) := by decide +kernel
theorem dL_act_201 : decode cL_act 201 = .ok (.iload_n 3, 1) := by decide +kernel
theorem dL_act_202 : decode cL_act 202 = .ok (.ifCond .eq 83, 3) := by decide +kernel
theorem dL_act_205 : decode cL_act 205 = .ok (.iload 5, 2) := by decide +kernel
theorem dL_act_207 : decode cL_act 207 = .ok (.iload 4, 2) := by decide +kernel
theorem dL_act_209 : decode cL_act 209 = .ok (.if_icmp .ne 72, 3) := by decide +kernel
theorem dL_act_212 : decode cL_act 212 = .ok (.aload_n 0, 1) := by decide +kernel
theorem dL_act_213 : decode cL_act 213 = .ok (.iconst 0, 1) := by decide +kernel
theorem dL_act_214 : decode cL_act 214 = .ok (.invokevirtual 16, 3) := by decide +kernel
theorem dL_act_217 : decode cL_act 217 = .ok (.iconst 1, 1) := by decide +kernel
theorem dL_act_218 : decode cL_act 218 = .ok (.if_icmp .ne 63, 3) := by decide +kernel
theorem dL_act_221 : decode cL_act 221 = .ok (.aload_n 0, 1) := by decide +kernel
theorem dL_act_222 : decode cL_act 222 = .ok (.iconst 1, 1) := by decide +kernel
theorem dL_act_223 : decode cL_act 223 = .ok (.invokevirtual 16, 3) := by decide +kernel
theorem dL_act_226 : decode cL_act 226 = .ok (.iload_n 2, 1) := by decide +kernel
theorem dL_act_227 : decode cL_act 227 = .ok (.iconst 5, 1) := by decide +kernel
theorem dL_act_228 : decode cL_act 228 = .ok (.invokestatic 82, 3) := by decide +kernel
theorem dL_act_231 : decode cL_act 231 = .ok (.if_icmp .ne 50, 3) := by decide +kernel
theorem dL_act_234 : decode cL_act 234 = .ok (.aload_n 0, 1) := by decide +kernel
theorem dL_act_235 : decode cL_act 235 = .ok (.iconst 2, 1) := by decide +kernel
theorem dL_act_236 : decode cL_act 236 = .ok (.invokevirtual 16, 3) := by decide +kernel
theorem dL_act_239 : decode cL_act 239 = .ok (.iconst 1, 1) := by decide +kernel
theorem dL_act_240 : decode cL_act 240 = .ok (.iload_n 2, 1) := by decide +kernel
theorem dL_act_241 : decode cL_act 241 = .ok (.iconst 3, 1) := by decide +kernel
theorem dL_act_242 : decode cL_act 242 = .ok (.ishr, 1) := by decide +kernel
theorem dL_act_243 : decode cL_act 243 = .ok (.bipush 8, 2) := by decide +kernel
theorem dL_act_245 : decode cL_act 245 = .ok (.invokestatic 82, 3) := by decide +kernel
theorem dL_act_248 : decode cL_act 248 = .ok (.iadd, 1) := by decide +kernel
theorem dL_act_249 : decode cL_act 249 = .ok (.if_icmp .ne 32, 3) := by decide +kernel
theorem dL_act_252 : decode cL_act 252 = .ok (.aload_n 0, 1) := by decide +kernel
theorem dL_act_253 : decode cL_act 253 = .ok (.iconst 3, 1) := by decide +kernel
theorem dL_act_254 : decode cL_act 254 = .ok (.invokevirtual 16, 3) := by decide +kernel
theorem dL_act_257 : decode cL_act 257 = .ok (.ifCond .ne 24, 3) := by decide +kernel
theorem dL_act_260 : decode cL_act 260 = .ok (.aload_n 0, 1) := by decide +kernel
theorem dL_act_261 : decode cL_act 261 = .ok (.iconst 4, 1) := by decide +kernel
theorem dL_act_262 : decode cL_act 262 = .ok (.invokevirtual 16, 3) := by decide +kernel
theorem dL_act_265 : decode cL_act 265 = .ok (.ifCond .ne 16, 3) := by decide +kernel
theorem dL_act_268 : decode cL_act 268 = .ok (.aload_n 0, 1) := by decide +kernel
theorem dL_act_269 : decode cL_act 269 = .ok (.iconst 1, 1) := by decide +kernel
theorem dL_act_270 : decode cL_act 270 = .ok (.iconst 0, 1) := by decide +kernel
theorem dL_act_271 : decode cL_act 271 = .ok (.invokevirtual 47, 3) := by decide +kernel
theorem dL_act_274 : decode cL_act 274 = .ok (.ifCond .ne 7, 3) := by decide +kernel
theorem dL_act_277 : decode cL_act 277 = .ok (.iconst 1, 1) := by decide +kernel
theorem dL_act_278 : decode cL_act 278 = .ok (.goto 19, 3) := by decide +kernel
theorem dL_act_281 : decode cL_act 281 = .ok (.iconst 0, 1) := by decide +kernel
theorem dL_act_282 : decode cL_act 282 = .ok (.goto 15, 3) := by decide +kernel
theorem dL_act_285 : decode cL_act 285 = .ok (.iload 5, 2) := by decide +kernel
theorem dL_act_287 : decode cL_act 287 = .ok (.bipush (-4), 2) := by decide +kernel
theorem dL_act_289 : decode cL_act 289 = .ok (.if_icmp .ne 7, 3) := by decide +kernel
theorem dL_act_292 : decode cL_act 292 = .ok (.iconst 1, 1) := by decide +kernel
theorem dL_act_293 : decode cL_act 293 = .ok (.goto 4, 3) := by decide +kernel
theorem dL_act_296 : decode cL_act 296 = .ok (.iconst 0, 1) := by decide +kernel
theorem dL_act_297 : decode cL_act 297 = .ok (.ireturn, 1) := by decide +kernel
theorem dL_act_298 : decode cL_act 298 = .ok (.aload_n 0, 1) := by decide +kernel
theorem dL_act_299 : decode cL_act 299 = .ok (.iconst 1, 1) := by decide +kernel
theorem dL_act_300 : decode cL_act 300 = .ok (.iload_n 2, 1) := by decide +kernel
theorem dL_act_301 : decode cL_act 301 = .ok (.bipush 9, 2) := by decide +kernel
theorem dL_act_303 : decode cL_act 303 = .ok (.invokestatic 82, 3) := by decide +kernel
theorem dL_act_306 : decode cL_act 306 = .ok (.iadd, 1) := by decide +kernel
theorem dL_act_307 : decode cL_act 307 = .ok (.invokestatic 92, 3) := by decide +kernel
theorem dL_act_310 : decode cL_act 310 = .ok (.ireturn, 1) := by decide +kernel
theorem dL_act_311 : decode cL_act 311 = .ok (.aload_n 0, 1) := by decide +kernel
theorem dL_act_312 : decode cL_act 312 = .ok (.iconst 1, 1) := by decide +kernel
theorem dL_act_313 : decode cL_act 313 = .ok (.iload_n 2, 1) := by decide +kernel
theorem dL_act_314 : decode cL_act 314 = .ok (.bipush 99, 2) := by decide +kernel
theorem dL_act_316 : decode cL_act 316 = .ok (.invokestatic 82, 3) := by decide +kernel
theorem dL_act_319 : decode cL_act 319 = .ok (.iadd, 1) := by decide +kernel
theorem dL_act_320 : decode cL_act 320 = .ok (.invokestatic 96, 3) := by decide +kernel
theorem dL_act_323 : decode cL_act 323 = .ok (.ireturn, 1) := by decide +kernel
theorem dL_act_324 : decode cL_act 324 = .ok (.aload_n 0, 1) := by decide +kernel
theorem dL_act_325 : decode cL_act 325 = .ok (.iconst 0, 1) := by decide +kernel
theorem dL_act_326 : decode cL_act 326 = .ok (.invokevirtual 16, 3) := by decide +kernel
theorem dL_act_329 : decode cL_act 329 = .ok (.iconst 2, 1) := by decide +kernel
theorem dL_act_330 : decode cL_act 330 = .ok (.if_icmp .ne 11, 3) := by decide +kernel
theorem dL_act_333 : decode cL_act 333 = .ok (.aload_n 0, 1) := by decide +kernel
theorem dL_act_334 : decode cL_act 334 = .ok (.iconst 4, 1) := by decide +kernel
theorem dL_act_335 : decode cL_act 335 = .ok (.invokevirtual 16, 3) := by decide +kernel
theorem dL_act_338 : decode cL_act 338 = .ok (.goto 5, 3) := by decide +kernel
theorem dL_act_341 : decode cL_act 341 = .ok (.bipush (-4), 2) := by decide +kernel
theorem dL_act_343 : decode cL_act 343 = .ok (.istore_n 3, 1) := by decide +kernel
theorem dL_act_344 : decode cL_act 344 = .ok (.aload_n 0, 1) := by decide +kernel
theorem dL_act_345 : decode cL_act 345 = .ok (.invokevirtual 99, 3) := by decide +kernel
theorem dL_act_348 : decode cL_act 348 = .ok (.iload_n 3, 1) := by decide +kernel
theorem dL_act_349 : decode cL_act 349 = .ok (.if_icmp .ne 28, 3) := by decide +kernel
theorem dL_act_352 : decode cL_act 352 = .ok (.iload_n 3, 1) := by decide +kernel
theorem dL_act_353 : decode cL_act 353 = .ok (.ifCond .lt 20, 3) := by decide +kernel
theorem dL_act_356 : decode cL_act 356 = .ok (.aload_n 0, 1) := by decide +kernel
theorem dL_act_357 : decode cL_act 357 = .ok (.iconst 0, 1) := by decide +kernel
theorem dL_act_358 : decode cL_act 358 = .ok (.invokevirtual 16, 3) := by decide +kernel
theorem dL_act_361 : decode cL_act 361 = .ok (.iconst 3, 1) := by decide +kernel
theorem dL_act_362 : decode cL_act 362 = .ok (.if_icmp .ne 15, 3) := by decide +kernel
theorem dL_act_365 : decode cL_act 365 = .ok (.aload_n 0, 1) := by decide +kernel
theorem dL_act_366 : decode cL_act 366 = .ok (.iconst 5, 1) := by decide +kernel
theorem dL_act_367 : decode cL_act 367 = .ok (.invokevirtual 16, 3) := by decide +kernel
theorem dL_act_370 : decode cL_act 370 = .ok (.ifCond .ne 7, 3) := by decide +kernel
theorem dL_act_373 : decode cL_act 373 = .ok (.iconst 1, 1) := by decide +kernel
theorem dL_act_374 : decode cL_act 374 = .ok (.goto 4, 3) := by decide +kernel
theorem dL_act_377 : decode cL_act 377 = .ok (.iconst 0, 1) := by decide +kernel
theorem dL_act_378 : decode cL_act 378 = .ok (.ireturn, 1) := by decide +kernel
theorem dL_act_379 : decode cL_act 379 = .ok (.aload_n 0, 1) := by decide +kernel
theorem dL_act_380 : decode cL_act 380 = .ok (.iconst 0, 1) := by decide +kernel
theorem dL_act_381 : decode cL_act 381 = .ok (.invokevirtual 16, 3) := by decide +kernel
theorem dL_act_384 : decode cL_act 384 = .ok (.iconst 3, 1) := by decide +kernel
theorem dL_act_385 : decode cL_act 385 = .ok (.if_icmp .ne 11, 3) := by decide +kernel
theorem dL_act_388 : decode cL_act 388 = .ok (.aload_n 0, 1) := by decide +kernel
theorem dL_act_389 : decode cL_act 389 = .ok (.iconst 5, 1) := by decide +kernel
theorem dL_act_390 : decode cL_act 390 = .ok (.invokevirtual 16, 3) := by decide +kernel
theorem dL_act_393 : decode cL_act 393 = .ok (.goto 5, 3) := by decide +kernel
theorem dL_act_396 : decode cL_act 396 = .ok (.bipush (-4), 2) := by decide +kernel
theorem dL_act_398 : decode cL_act 398 = .ok (.istore_n 3, 1) := by decide +kernel
theorem dL_act_399 : decode cL_act 399 = .ok (.iload_n 2, 1) := by decide +kernel
theorem dL_act_400 : decode cL_act 400 = .ok (.iconst 2, 1) := by decide +kernel
theorem dL_act_401 : decode cL_act 401 = .ok (.invokestatic 82, 3) := by decide +kernel
theorem dL_act_404 : decode cL_act 404 = .ok (.ifCond .eq 24, 3) := by decide +kernel
theorem dL_act_407 : decode cL_act 407 = .ok (.aload_n 0, 1) := by decide +kernel
theorem dL_act_408 : decode cL_act 408 = .ok (.invokevirtual 102, 3) := by decide +kernel
theorem dL_act_411 : decode cL_act 411 = .ok (.iload_n 3, 1) := by decide +kernel
theorem dL_act_412 : decode cL_act 412 = .ok (.if_icmp .ne 20, 3) := by decide +kernel
theorem dL_act_415 : decode cL_act 415 = .ok (.iload_n 3, 1) := by decide +kernel
theorem dL_act_416 : decode cL_act 416 = .ok (.ifCond .lt 12, 3) := by decide +kernel
theorem dL_act_419 : decode cL_act 419 = .ok (.aload_n 0, 1) := by decide +kernel
theorem dL_act_420 : decode cL_act 420 = .ok (.iconst 0, 1) := by decide +kernel
theorem dL_act_421 : decode cL_act 421 = .ok (.invokevirtual 16, 3) := by decide +kernel
theorem dL_act_424 : decode cL_act 424 = .ok (.iconst 2, 1) := by decide +kernel
theorem dL_act_425 : decode cL_act 425 = .ok (.if_icmp .ne 7, 3) := by decide +kernel
theorem dL_act_428 : decode cL_act 428 = .ok (.iconst 1, 1) := by decide +kernel
theorem dL_act_429 : decode cL_act 429 = .ok (.goto 4, 3) := by decide +kernel
theorem dL_act_432 : decode cL_act 432 = .ok (.iconst 0, 1) := by decide +kernel
theorem dL_act_433 : decode cL_act 433 = .ok (.ireturn, 1) := by decide +kernel
theorem dL_act_434 : decode cL_act 434 = .ok (.aload_n 0, 1) := by decide +kernel
theorem dL_act_435 : decode cL_act 435 = .ok (.invokestatic 105, 3) := by decide +kernel
theorem dL_act_438 : decode cL_act 438 = .ok (.ireturn, 1) := by decide +kernel
theorem dL_act_439 : decode cL_act 439 = .ok (.iload_n 2, 1) := by decide +kernel
theorem dL_act_440 : decode cL_act 440 = .ok (.iconst 4, 1) := by decide +kernel
theorem dL_act_441 : decode cL_act 441 = .ok (.invokestatic 82, 3) := by decide +kernel
theorem dL_act_444 : decode cL_act 444 = .ok (.istore_n 3, 1) := by decide +kernel
theorem dL_act_445 : decode cL_act 445 = .ok (.iload_n 3, 1) := by decide +kernel
theorem dL_act_446 : decode cL_act 446 = .ok (.ifCond .ne 16, 3) := by decide +kernel
theorem dL_act_449 : decode cL_act 449 = .ok (.iconst 1, 1) := by decide +kernel
theorem dL_act_450 : decode cL_act 450 = .ok (.iload_n 2, 1) := by decide +kernel
theorem dL_act_451 : decode cL_act 451 = .ok (.iconst 2, 1) := by decide +kernel
theorem dL_act_452 : decode cL_act 452 = .ok (.ishr, 1) := by decide +kernel
theorem dL_act_453 : decode cL_act 453 = .ok (.bipush 8, 2) := by decide +kernel
theorem dL_act_455 : decode cL_act 455 = .ok (.invokestatic 82, 3) := by decide +kernel
theorem dL_act_458 : decode cL_act 458 = .ok (.iadd, 1) := by decide +kernel
theorem dL_act_459 : decode cL_act 459 = .ok (.goto 44, 3) := by decide +kernel
theorem dL_act_462 : decode cL_act 462 = .ok (.iload_n 3, 1) := by decide +kernel
theorem dL_act_463 : decode cL_act 463 = .ok (.iconst 1, 1) := by decide +kernel
theorem dL_act_464 : decode cL_act 464 = .ok (.if_icmp .ne 14, 3) := by decide +kernel
theorem dL_act_467 : decode cL_act 467 = .ok (.iload_n 2, 1) := by decide +kernel
theorem dL_act_468 : decode cL_act 468 = .ok (.iconst 2, 1) := by decide +kernel
theorem dL_act_469 : decode cL_act 469 = .ok (.ishr, 1) := by decide +kernel
theorem dL_act_470 : decode cL_act 470 = .ok (.bipush 10, 2) := by decide +kernel
theorem dL_act_472 : decode cL_act 472 = .ok (.invokestatic 82, 3) := by decide +kernel
theorem dL_act_475 : decode cL_act 475 = .ok (.goto 28, 3) := by decide +kernel
theorem dL_act_478 : decode cL_act 478 = .ok (.iload_n 3, 1) := by decide +kernel
theorem dL_act_479 : decode cL_act 479 = .ok (.iconst 2, 1) := by decide +kernel
theorem dL_act_480 : decode cL_act 480 = .ok (.if_icmp .ne 16, 3) := by decide +kernel
theorem dL_act_483 : decode cL_act 483 = .ok (.iconst 1, 1) := by decide +kernel
theorem dL_act_484 : decode cL_act 484 = .ok (.iload_n 2, 1) := by decide +kernel
theorem dL_act_485 : decode cL_act 485 = .ok (.iconst 2, 1) := by decide +kernel
theorem dL_act_486 : decode cL_act 486 = .ok (.ishr, 1) := by decide +kernel
theorem dL_act_487 : decode cL_act 487 = .ok (.bipush 20, 2) := by decide +kernel
theorem dL_act_489 : decode cL_act 489 = .ok (.invokestatic 82, 3) := by decide +kernel
theorem dL_act_492 : decode cL_act 492 = .ok (.iadd, 1) := by decide +kernel
theorem dL_act_493 : decode cL_act 493 = .ok (.goto 10, 3) := by decide +kernel
theorem dL_act_496 : decode cL_act 496 = .ok (.iload_n 2, 1) := by decide +kernel
theorem dL_act_497 : decode cL_act 497 = .ok (.iconst 2, 1) := by decide +kernel
theorem dL_act_498 : decode cL_act 498 = .ok (.ishr, 1) := by decide +kernel
theorem dL_act_499 : decode cL_act 499 = .ok (.iconst 2, 1) := by decide +kernel
theorem dL_act_500 : decode cL_act 500 = .ok (.invokestatic 82, 3) := by decide +kernel
theorem dL_act_503 : decode cL_act 503 = .ok (.istore 4, 2) := by decide +kernel
theorem dL_act_505 : decode cL_act 505 = .ok (.aload_n 0, 1) := by decide +kernel
theorem dL_act_506 : decode cL_act 506 = .ok (.iload_n 3, 1) := by decide +kernel
theorem dL_act_507 : decode cL_act 507 = .ok (.invokevirtual 57, 3) := by decide +kernel
theorem dL_act_510 : decode cL_act 510 = .ok (.istore 5, 2) := by decide +kernel
theorem dL_act_512 : decode cL_act 512 = .ok (.iload_n 3, 1) := by decide +kernel
theorem dL_act_513 : decode cL_act 513 = .ok (.iconst 2, 1) := by decide +kernel
theorem dL_act_514 : decode cL_act 514 = .ok (.if_icmp .ne 12, 3) := by decide +kernel
theorem dL_act_517 : decode cL_act 517 = .ok (.aload_n 0, 1) := by decide +kernel
theorem dL_act_518 : decode cL_act 518 = .ok (.iconst 0, 1) := by decide +kernel
theorem dL_act_519 : decode cL_act 519 = .ok (.invokevirtual 16, 3) := by decide +kernel
theorem dL_act_522 : decode cL_act 522 = .ok (.iconst 3, 1) := by decide +kernel
theorem dL_act_523 : decode cL_act 523 = .ok (.if_icmp .eq 25, 3) := by decide +kernel
theorem dL_act_526 : decode cL_act 526 = .ok (.aload_n 0, 1) := by decide +kernel
theorem dL_act_527 : decode cL_act 527 = .ok (.iload_n 3, 1) := by decide +kernel
theorem dL_act_528 : decode cL_act 528 = .ok (.iload 4, 2) := by decide +kernel
theorem dL_act_530 : decode cL_act 530 = .ok (.invokevirtual 109, 3) := by decide +kernel
theorem dL_act_533 : decode cL_act 533 = .ok (.iload 5, 2) := by decide +kernel
theorem dL_act_535 : decode cL_act 535 = .ok (.if_icmp .ne 17, 3) := by decide +kernel
theorem dL_act_538 : decode cL_act 538 = .ok (.aload_n 0, 1) := by decide +kernel
theorem dL_act_539 : decode cL_act 539 = .ok (.iload_n 3, 1) := by decide +kernel
theorem dL_act_540 : decode cL_act 540 = .ok (.invokevirtual 57, 3) := by decide +kernel
theorem dL_act_543 : decode cL_act 543 = .ok (.iload 4, 2) := by decide +kernel
theorem dL_act_545 : decode cL_act 545 = .ok (.if_icmp .ne 7, 3) := by decide +kernel
theorem dL_act_548 : decode cL_act 548 = .ok (.iconst 1, 1) := by decide +kernel
theorem dL_act_549 : decode cL_act 549 = .ok (.goto 4, 3) := by decide +kernel
theorem dL_act_552 : decode cL_act 552 = .ok (.iconst 0, 1) := by decide +kernel
theorem dL_act_553 : decode cL_act 553 = .ok (.ireturn, 1) := by decide +kernel
theorem dL_act_554 : decode cL_act 554 = .ok (.aload_n 0, 1) := by decide +kernel
theorem dL_act_555 : decode cL_act 555 = .ok (.iconst 0, 1) := by decide +kernel
theorem dL_act_556 : decode cL_act 556 = .ok (.invokevirtual 16, 3) := by decide +kernel
theorem dL_act_559 : decode cL_act 559 = .ok (.ifCond .ne 8, 3) := by decide +kernel
theorem dL_act_562 : decode cL_act 562 = .ok (.bipush (-4), 2) := by decide +kernel
theorem dL_act_564 : decode cL_act 564 = .ok (.goto 9, 3) := by decide +kernel
theorem dL_act_567 : decode cL_act 567 = .ok (.aload_n 0, 1) := by decide +kernel
theorem dL_act_568 : decode cL_act 568 = .ok (.iconst 1, 1) := by decide +kernel
theorem dL_act_569 : decode cL_act 569 = .ok (.iconst 0, 1) := by decide +kernel
theorem dL_act_570 : decode cL_act 570 = .ok (.invokevirtual 47, 3) := by decide +kernel
theorem dL_act_573 : decode cL_act 573 = .ok (.istore_n 3, 1) := by decide +kernel
theorem dL_act_574 : decode cL_act 574 = .ok (.iload_n 2, 1) := by decide +kernel
theorem dL_act_575 : decode cL_act 575 = .ok (.iconst 3, 1) := by decide +kernel
theorem dL_act_576 : decode cL_act 576 = .ok (.invokestatic 82, 3) := by decide +kernel
theorem dL_act_579 : decode cL_act 579 = .ok (.ifCond .gt 19, 3) := by decide +kernel
theorem dL_act_582 : decode cL_act 582 = .ok (.aload_n 0, 1) := by decide +kernel
theorem dL_act_583 : decode cL_act 583 = .ok (.invokevirtual 112, 3) := by decide +kernel
theorem dL_act_586 : decode cL_act 586 = .ok (.iload_n 3, 1) := by decide +kernel
theorem dL_act_587 : decode cL_act 587 = .ok (.if_icmp .ne 15, 3) := by decide +kernel
theorem dL_act_590 : decode cL_act 590 = .ok (.aload_n 0, 1) := by decide +kernel
theorem dL_act_591 : decode cL_act 591 = .ok (.iconst 0, 1) := by decide +kernel
theorem dL_act_592 : decode cL_act 592 = .ok (.invokevirtual 16, 3) := by decide +kernel
theorem dL_act_595 : decode cL_act 595 = .ok (.ifCond .ne 7, 3) := by decide +kernel
theorem dL_act_598 : decode cL_act 598 = .ok (.iconst 1, 1) := by decide +kernel
theorem dL_act_599 : decode cL_act 599 = .ok (.goto 4, 3) := by decide +kernel
theorem dL_act_602 : decode cL_act 602 = .ok (.iconst 0, 1) := by decide +kernel
theorem dL_act_603 : decode cL_act 603 = .ok (.ireturn, 1) := by decide +kernel
set_option maxRecDepth 20000 in
theorem ggL_law_X6_init : GoodIn wsL_law wsX6_init := goodIn_r _ [5, 6, 7, 8, 9, 10, 11, 12, 13, 14, 15, 16, 17, 18, 19, 20, 21, 22, 23, 24, 25, 26, 27, 28, 29, 30, 31, 32, 33, 34, 35, 36, 37, 38, 39, 40, 41, 42, 43, 44, 45, 46, 47, 48, 49, 50, 51, 52, 53, 54, 55, 56, 57, 58, 59, 60, 61, 62, 63, 64, 65, 66, 67, 68, 69, 70, 71, 72, 441, 442, 443, 444, 445, 446, 435, 436, 437, 438, 439, 440, 447, 448, 449, 450, 451, 452, 453, 454, 455, 456, 457, 458, 459, 460, 461, 462, 463, 464, 465, 466, 467, 468] (by rfl) (by decide +kernel)
set_option maxRecDepth 20000 in
theorem gL_law_X6_init : GoodIn wsL_law (wsX6_init) := ggL_law_X6_init
set_option maxRecDepth 20000 in
theorem ggL_law_L_holds : GoodIn wsL_law wsL_holds := goodIn_r _ [76, 77, 78, 79, 2, 80, 12, 81, 82, 83, 84, 85, 86, 33, 87, 56, 88, 89, 90, 91, 55, 92, 93, 94, 95, 96, 97, 98, 99, 100, 101, 102, 103, 104, 11, 105, 29, 34, 106, 30, 107, 108, 109, 110, 111, 112, 113, 28, 114, 42, 115, 116, 75, 117, 118, 119, 120, 121, 122, 123, 124, 125, 126, 127, 128, 129, 130, 131, 132, 133, 134, 135, 136, 137, 138, 139, 140, 141, 142, 143, 144, 145, 146, 147, 148, 149, 150, 151, 152, 153, 154, 155, 156, 157, 14, 158, 159, 160, 161, 162, 163, 164, 165, 36, 166, 167, 168, 169, 37, 170, 171, 172, 173, 174, 175, 176, 177, 178, 51, 179, 180, 181, 182, 54, 183, 61, 184, 62, 185, 186, 187, 188, 189, 190, 191, 192, 193, 194, 195, 196, 197, 198, 199, 200, 201, 202, 203, 204, 205, 206, 207, 208, 209, 210, 211, 212, 213, 214, 215, 216, 217, 218, 219, 220, 221, 222, 223, 224, 225, 226, 227, 228, 229, 230, 231, 232, 233, 234, 235, 236, 237, 238, 239, 240, 241, 242, 243, 244, 245, 246, 247, 248, 249, 250, 251, 252, 253, 254, 255, 256, 435, 436, 437, 438, 439, 440, 441, 442, 443, 444, 445, 446, 458, 459, 460, 461, 462, 463, 464, 465, 466, 467, 468, 457] (by rfl) (by decide +kernel)
set_option maxRecDepth 20000 in
theorem gL_law_L_holds : GoodIn wsL_law (va_wsS RL 116 yL_holds wsL_holds) := goodIn_app (goodIn_r _ [73, 74, 75] (by rfl) (by decide +kernel)) ggL_law_L_holds
set_option maxRecDepth 20000 in
theorem ggL_law_X6_table : GoodIn wsL_law wsX6_table := goodIn_r _ [236, 12, 99, 100, 2, 101, 81, 82, 83, 102, 103, 104, 11, 105, 29, 34, 106, 30, 107, 108, 109, 110, 237, 238, 239, 28, 240, 241, 242, 243, 244, 42, 245, 246, 247, 248, 249, 250, 251, 252, 253, 254, 255, 256, 435, 436, 437, 438, 439, 440, 441, 442, 443, 444, 445, 446, 458, 459, 460, 461, 462, 463, 464, 457] (by rfl) (by decide +kernel)
set_option maxRecDepth 20000 in
theorem gL_law_X6_table : GoodIn wsL_law (wsV RL 47 RX6 yX6_table wsX6_table) := goodIn_app (goodIn_r _ [233, 234, 235, 2] (by rfl) (by decide +kernel)) ggL_law_X6_table
set_option maxRecDepth 20000 in
theorem ggL_law_L_cell : GoodIn wsL_law wsL_cell := goodIn_r _ [259, 260, 261] (by rfl) (by decide +kernel)
set_option maxRecDepth 20000 in
theorem gL_law_L_cell : GoodIn wsL_law (va_wsS RL 119 yL_cell wsL_cell) := goodIn_app (goodIn_r _ [257, 258, 75] (by rfl) (by decide +kernel)) ggL_law_L_cell
set_option maxRecDepth 20000 in
theorem ggL_law_L_act : GoodIn wsL_law wsL_act := goodIn_r _ [264, 265, 266, 75, 267, 268, 269, 270, 271, 92, 93, 94, 2, 95, 12, 96, 97, 98, 81, 82, 83, 99, 100, 101, 102, 103, 104, 11, 105, 29, 34, 106, 30, 107, 108, 109, 110, 111, 112, 113, 28, 114, 42, 77, 78, 79, 80, 84, 85, 86, 33, 87, 56, 88, 89, 90, 91, 55, 145, 146, 147, 148, 272, 273, 274, 275, 276, 277, 278, 279, 280, 281, 282, 18, 283, 284, 285, 17, 286, 68, 287, 288, 289, 290, 291, 292, 293, 163, 164, 165, 36, 166, 167, 168, 169, 37, 170, 171, 172, 173, 174, 175, 176, 177, 178, 51, 179, 180, 181, 182, 54, 183, 61, 184, 62, 185, 186, 294, 295, 296, 297, 140, 298, 299, 300, 301, 302, 303, 304, 305, 207, 208, 209, 210, 306, 307, 308, 309, 215, 216, 217, 218, 310, 311, 312, 313, 314, 315, 316, 317, 318, 319, 320, 321, 322, 323, 324, 325, 326, 327, 328, 126, 127, 233, 234, 235, 236, 237, 238, 239, 240, 241, 242, 243, 244, 245, 246, 247, 248, 249, 250, 251, 252, 253, 254, 255, 256, 329, 330, 331, 332, 333, 334, 335, 336, 123, 124, 337, 338, 339, 340, 341, 342, 343, 344, 345, 346, 43, 44, 45, 46, 347, 348, 349, 350, 351, 352, 353, 354, 355, 356, 357, 358, 359, 360, 361, 362, 363, 364, 191, 192, 193, 194, 195, 196, 197, 198, 199, 200, 201, 202, 203, 204, 205, 206, 211, 212, 213, 214, 129, 130, 219, 220, 221, 222, 223, 224, 225, 226, 227, 228, 229, 230, 231, 232, 365, 366, 367, 368, 369, 370, 371, 372, 373, 374, 375, 376, 135, 377, 378, 154, 155, 156, 157, 14, 158, 159, 160, 161, 162, 187, 188, 189, 190, 379, 380, 381, 382, 383, 384, 385, 386, 387, 388, 389, 390, 391, 392, 393, 394, 395, 396, 397, 398, 399, 400, 401, 402, 403, 404, 405, 406, 407, 408, 409, 410, 35, 411, 412, 413, 414, 415, 416, 417, 418, 118, 119, 120, 121, 122, 125, 128, 419, 420, 421, 422, 423, 424, 425, 426, 427, 428, 429, 430, 431, 432, 433, 434, 435, 436, 437, 438, 439, 440, 441, 442, 443, 444, 445, 446, 458, 459, 460, 461, 462, 463, 464, 457, 465, 466, 467, 468, 447, 448, 449] (by rfl) (by decide +kernel)
set_option maxRecDepth 20000 in
theorem gL_law_L_act : GoodIn wsL_law (va_wsS RL 123 yL_act wsL_act) := goodIn_app (goodIn_r _ [262, 263, 75] (by rfl) (by decide +kernel)) ggL_law_L_act
set_option maxRecDepth 20000 in
theorem ggL_law_L_readySo : GoodIn wsL_law wsL_readySo := goodIn_r _ [367, 368, 369, 75, 370, 371, 372, 92, 93, 94, 2, 95, 12, 96, 97, 98, 81, 82, 83, 99, 100, 101, 102, 103, 104, 11, 105, 29, 34, 106, 30, 107, 108, 109, 110, 111, 112, 113, 28, 114, 42, 145, 146, 147, 148, 77, 78, 79, 80, 84, 85, 86, 33, 87, 56, 88, 89, 90, 91, 55, 373, 374, 375, 376, 135, 377, 204, 205, 54, 206, 186, 61, 207, 208, 209, 210, 185, 378, 212, 213, 214, 62, 272, 273, 274, 275, 276, 277, 278, 154, 155, 156, 157, 14, 158, 159, 160, 161, 162, 163, 164, 165, 36, 166, 167, 168, 169, 37, 170, 171, 172, 173, 174, 175, 176, 177, 178, 51, 179, 180, 181, 182, 183, 184, 187, 188, 189, 190, 191, 192, 193, 194, 195, 196, 197, 198, 199, 200, 201, 202, 203, 211, 129, 130, 215, 216, 217, 218, 219, 220, 221, 222, 223, 224, 225, 226, 140, 227, 228, 229, 230, 231, 232, 379, 380, 381, 382, 383, 363, 364, 355, 356, 357, 358, 18, 283, 284, 285, 17, 286, 68, 287, 288, 289, 290, 291, 292, 293, 359, 360, 361, 362, 310, 311, 312, 313, 314, 315, 316, 317, 318, 319, 320, 384, 385, 386, 387, 388, 389, 390, 391, 435, 436, 437, 438, 439, 440, 441, 442, 443, 444, 445, 446, 458, 459, 460, 461, 462, 463, 464, 457, 465, 466, 467, 468, 447, 448, 449] (by rfl) (by decide +kernel)
set_option maxRecDepth 20000 in
theorem gL_law_L_readySo : GoodIn wsL_law (va_wsS RL 96 yL_readySo wsL_readySo) := goodIn_app (goodIn_r _ [365, 366, 75] (by rfl) (by decide +kernel)) ggL_law_L_readySo
theorem dL_law_0 : decode cL_law 0 = .ok (.new 11, 3) := by decide +kernel
theorem dL_law_3 : decode cL_law 3 = .ok (.dup, 1) := by decide +kernel
theorem dL_law_4 : decode cL_law 4 = .ok (.invokespecial 115, 3) := by decide +kernel
theorem dL_law_7 : decode cL_law 7 = .ok (.astore_n 1, 1) := by decide +kernel
theorem dL_law_8 : decode cL_law 8 = .ok (.aload_n 1, 1) := by decide +kernel
theorem dL_law_9 : decode cL_law 9 = .ok (.invokestatic 116, 3) := by decide +kernel
theorem dL_law_12 : decode cL_law 12 = .ok (.ifCond .eq 25, 3) := by decide +kernel
theorem dL_law_15 : decode cL_law 15 = .ok (.aload_n 1, 1) := by decide +kernel
theorem dL_law_16 : decode cL_law 16 = .ok (.iconst 2, 1) := by decide +kernel
theorem dL_law_17 : decode cL_law 17 = .ok (.iconst 1, 1) := by decide +kernel
theorem dL_law_18 : decode cL_law 18 = .ok (.invokevirtual 47, 3) := by decide +kernel
theorem dL_law_21 : decode cL_law 21 = .ok (.bipush (-5), 2) := by decide +kernel
theorem dL_law_23 : decode cL_law 23 = .ok (.if_icmp .ne 14, 3) := by decide +kernel
theorem dL_law_26 : decode cL_law 26 = .ok (.aload_n 1, 1) := by decide +kernel
theorem dL_law_27 : decode cL_law 27 = .ok (.iconst 0, 1) := by decide +kernel
theorem dL_law_28 : decode cL_law 28 = .ok (.iconst 2, 1) := by decide +kernel
theorem dL_law_29 : decode cL_law 29 = .ok (.invokevirtual 47, 3) := by decide +kernel
theorem dL_law_32 : decode cL_law 32 = .ok (.bipush (-5), 2) := by decide +kernel
theorem dL_law_34 : decode cL_law 34 = .ok (.if_icmp .eq 5, 3) := by decide +kernel
theorem dL_law_37 : decode cL_law 37 = .ok (.iconst 0, 1) := by decide +kernel
theorem dL_law_38 : decode cL_law 38 = .ok (.ireturn, 1) := by decide +kernel
theorem dL_law_39 : decode cL_law 39 = .ok (.iconst 0, 1) := by decide +kernel
theorem dL_law_40 : decode cL_law 40 = .ok (.istore_n 2, 1) := by decide +kernel
theorem dL_law_41 : decode cL_law 41 = .ok (.iload_n 2, 1) := by decide +kernel
theorem dL_law_42 : decode cL_law 42 = .ok (.bipush 50, 2) := by decide +kernel
theorem dL_law_44 : decode cL_law 44 = .ok (.if_icmp .ge 41, 3) := by decide +kernel
theorem dL_law_47 : decode cL_law 47 = .ok (.aload_n 1, 1) := by decide +kernel
theorem dL_law_48 : decode cL_law 48 = .ok (.aload_n 0, 1) := by decide +kernel
theorem dL_law_49 : decode cL_law 49 = .ok (.iconst 2, 1) := by decide +kernel
theorem dL_law_50 : decode cL_law 50 = .ok (.iload_n 2, 1) := by decide +kernel
theorem dL_law_51 : decode cL_law 51 = .ok (.imul, 1) := by decide +kernel
theorem dL_law_52 : decode cL_law 52 = .ok (.invokestatic 119, 3) := by decide +kernel
theorem dL_law_55 : decode cL_law 55 = .ok (.aload_n 0, 1) := by decide +kernel
theorem dL_law_56 : decode cL_law 56 = .ok (.iconst 2, 1) := by decide +kernel
theorem dL_law_57 : decode cL_law 57 = .ok (.iload_n 2, 1) := by decide +kernel
theorem dL_law_58 : decode cL_law 58 = .ok (.imul, 1) := by decide +kernel
theorem dL_law_59 : decode cL_law 59 = .ok (.iconst 1, 1) := by decide +kernel
theorem dL_law_60 : decode cL_law 60 = .ok (.iadd, 1) := by decide +kernel
theorem dL_law_61 : decode cL_law 61 = .ok (.invokestatic 119, 3) := by decide +kernel
theorem dL_law_64 : decode cL_law 64 = .ok (.invokestatic 123, 3) := by decide +kernel
theorem dL_law_67 : decode cL_law 67 = .ok (.ifCond .eq 10, 3) := by decide +kernel
theorem dL_law_70 : decode cL_law 70 = .ok (.aload_n 1, 1) := by decide +kernel
theorem dL_law_71 : decode cL_law 71 = .ok (.invokestatic 116, 3) := by decide +kernel
theorem dL_law_74 : decode cL_law 74 = .ok (.ifCond .ne 5, 3) := by decide +kernel
theorem dL_law_77 : decode cL_law 77 = .ok (.iconst 0, 1) := by decide +kernel
theorem dL_law_78 : decode cL_law 78 = .ok (.ireturn, 1) := by decide +kernel
theorem dL_law_79 : decode cL_law 79 = .ok (.iinc 2 1, 3) := by decide +kernel
theorem dL_law_82 : decode cL_law 82 = .ok (.goto (-41), 3) := by decide +kernel
theorem dL_law_85 : decode cL_law 85 = .ok (.aload_n 1, 1) := by decide +kernel
theorem dL_law_86 : decode cL_law 86 = .ok (.bipush 9, 2) := by decide +kernel
theorem dL_law_88 : decode cL_law 88 = .ok (.invokestatic 96, 3) := by decide +kernel
theorem dL_law_91 : decode cL_law 91 = .ok (.ireturn, 1) := by decide +kernel
abbrev vwCl : List vw_C := [(RX0, TX0, 7), (RX1, TX1, 3), (RX2, TX2, 4), (RX3, TX3, 1), (RX4, TX4, 7), (RX5, TX5, 6), (RX6, TX6, 6)]
