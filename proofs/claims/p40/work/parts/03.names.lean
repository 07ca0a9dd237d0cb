/-! ===== BEGIN printed: names, fields, word lists, decode rows ===== -/
def RX0 : String := "WhistlePosts$Bytes"
def TX0 : u_T := fun k => match k with
  | 0 => ("WhistlePosts$Bytes", "cells", "[I", true)
  | _ => ("WhistlePosts$Bytes", "size", "I", false)
def tyX0 : Nat → FieldType := fun k => match k with
  | 0 => .array .int
  | _ => .int
abbrev wsX00 : List Cond := u_ws RX0 TX0 2
theorem nmX0 : ∀ a, a < 2 → ∀ b, b < 2 → a ≠ b → (TX0 a).2.1 ≠ (TX0 b).2.1 := by decide +kernel
theorem tyX0_ok : ∀ k, k < 2 → parseFieldDescriptor (TX0 k).2.2.1 = some (tyX0 k) := by decide +kernel
abbrev cX0_init : ByteArray := prog_2_method_1_code
def yX0_init : MethodName := ⟨RX0, "<init>", "(I)V"⟩
abbrev cX0_size : ByteArray := prog_2_method_2_code
def yX0_size : MethodName := ⟨RX0, "size", "()I"⟩
abbrev cX0_get : ByteArray := prog_2_method_3_code
def yX0_get : MethodName := ⟨RX0, "get", "(I)I"⟩
abbrev cX0_add : ByteArray := prog_2_method_4_code
def yX0_add : MethodName := ⟨RX0, "add", "(I)V"⟩
abbrev cX0_addText : ByteArray := prog_2_method_5_code
def yX0_addText : MethodName := ⟨RX0, "addText", "(Ljava/lang/String;)V"⟩
abbrev cX0_cutTo : ByteArray := prog_2_method_7_code
def yX0_cutTo : MethodName := ⟨RX0, "cutTo", "(I)Z"⟩
abbrev cX0_clear : ByteArray := prog_2_method_8_code
def yX0_clear : MethodName := ⟨RX0, "clear", "()V"⟩
def RX1 : String := "WhistlePosts$Past"
def TX1 : u_T := fun k => match k with
  | 0 => ("WhistlePosts$Past", "posts", "[LWhistlePosts$Post;", true)
  | 1 => ("WhistlePosts$Past", "first", "I", false)
  | _ => ("WhistlePosts$Past", "kept", "I", false)
def tyX1 : Nat → FieldType := fun k => match k with
  | 0 => .array (.object "WhistlePosts$Post")
  | 1 => .int
  | _ => .int
abbrev wsX10 : List Cond := u_ws RX1 TX1 3
theorem nmX1 : ∀ a, a < 3 → ∀ b, b < 3 → a ≠ b → (TX1 a).2.1 ≠ (TX1 b).2.1 := by decide +kernel
theorem tyX1_ok : ∀ k, k < 3 → parseFieldDescriptor (TX1 k).2.2.1 = some (tyX1 k) := by decide +kernel
abbrev cX1_init : ByteArray := prog_3_method_1_code
def yX1_init : MethodName := ⟨RX1, "<init>", "()V"⟩
abbrev cX1_size : ByteArray := prog_3_method_2_code
def yX1_size : MethodName := ⟨RX1, "size", "()I"⟩
abbrev cX1_forget : ByteArray := prog_3_method_3_code
def yX1_forget : MethodName := ⟨RX1, "forget", "()V"⟩
abbrev cX1_postAt : ByteArray := prog_3_method_4_code
def yX1_postAt : MethodName := ⟨RX1, "postAt", "(I)LWhistlePosts$Post;"⟩
abbrev cX1_keep : ByteArray := prog_3_method_5_code
def yX1_keep : MethodName := ⟨RX1, "keep", "(LWhistlePosts$Post;)V"⟩
def RX2 : String := "WhistlePosts$Post"
def TX2 : u_T := fun k => match k with
  | 0 => ("WhistlePosts$Post", "time", "I", false)
  | 1 => ("WhistlePosts$Post", "roofs", "I", false)
  | 2 => ("WhistlePosts$Post", "ways", "I", false)
  | 3 => ("WhistlePosts$Post", "tunes", "I", false)
  | 4 => ("WhistlePosts$Post", "roofRows", "LWhistlePosts$Table;", true)
  | 5 => ("WhistlePosts$Post", "wayRows", "LWhistlePosts$Table;", true)
  | 6 => ("WhistlePosts$Post", "tuneRows", "LWhistlePosts$Table;", true)
  | 7 => ("WhistlePosts$Post", "settings", "LWhistlePosts$Table;", true)
  | 8 => ("WhistlePosts$Post", "accounts", "LWhistlePosts$Table;", true)
  | _ => ("WhistlePosts$Post", "roads", "LWhistlePosts$Roads;", true)
def tyX2 : Nat → FieldType := fun k => match k with
  | 0 => .int
  | 1 => .int
  | 2 => .int
  | 3 => .int
  | 4 => .object "WhistlePosts$Table"
  | 5 => .object "WhistlePosts$Table"
  | 6 => .object "WhistlePosts$Table"
  | 7 => .object "WhistlePosts$Table"
  | 8 => .object "WhistlePosts$Table"
  | _ => .object "WhistlePosts$Roads"
abbrev wsX20 : List Cond := u_ws RX2 TX2 10
theorem nmX2 : ∀ a, a < 10 → ∀ b, b < 10 → a ≠ b → (TX2 a).2.1 ≠ (TX2 b).2.1 := by decide +kernel
theorem tyX2_ok : ∀ k, k < 10 → parseFieldDescriptor (TX2 k).2.2.1 = some (tyX2 k) := by decide +kernel
abbrev cX2_init : ByteArray := prog_4_method_1_code
def yX2_init : MethodName := ⟨RX2, "<init>", "()V"⟩
abbrev cX2_clear : ByteArray := prog_4_method_2_code
def yX2_clear : MethodName := ⟨RX2, "clear", "()V"⟩
abbrev cX2_copyFrom : ByteArray := prog_4_method_3_code
def yX2_copyFrom : MethodName := ⟨RX2, "copyFrom", "(LWhistlePosts$Post;)V"⟩
abbrev cX2_leastOf : ByteArray := prog_4_method_4_code
def yX2_leastOf : MethodName := ⟨RX2, "leastOf", "(I)I"⟩
abbrev cX2_mostOf : ByteArray := prog_4_method_5_code
def yX2_mostOf : MethodName := ⟨RX2, "mostOf", "(I)I"⟩
abbrev cX2_setting : ByteArray := prog_4_method_6_code
def yX2_setting : MethodName := ⟨RX2, "setting", "(I)I"⟩
abbrev cX2_settle : ByteArray := prog_4_method_7_code
def yX2_settle : MethodName := ⟨RX2, "settle", "(II)V"⟩
abbrev cX2_enter : ByteArray := prog_4_method_8_code
def yX2_enter : MethodName := ⟨RX2, "enter", "(II)V"⟩
abbrev cX2_addRoof : ByteArray := prog_4_method_9_code
def yX2_addRoof : MethodName := ⟨RX2, "addRoof", "(IIIII)V"⟩
abbrev cX2_addWay : ByteArray := prog_4_method_10_code
def yX2_addWay : MethodName := ⟨RX2, "addWay", "(III)V"⟩
abbrev cX2_addTune : ByteArray := prog_4_method_11_code
def yX2_addTune : MethodName := ⟨RX2, "addTune", "(IIIIZZ)I"⟩
abbrev cX2_hasTimeFor : ByteArray := prog_4_method_12_code
def yX2_hasTimeFor : MethodName := ⟨RX2, "hasTimeFor", "(I)Z"⟩
abbrev cX2_hasRoomFor : ByteArray := prog_4_method_13_code
def yX2_hasRoomFor : MethodName := ⟨RX2, "hasRoomFor", "(II)Z"⟩
abbrev cX2_takeCoins : ByteArray := prog_4_method_14_code
def yX2_takeCoins : MethodName := ⟨RX2, "takeCoins", "(II)V"⟩
abbrev cX2_cutWay : ByteArray := prog_4_method_15_code
def yX2_cutWay : MethodName := ⟨RX2, "cutWay", "(II)Z"⟩
abbrev cX2_roofNamed : ByteArray := prog_4_method_16_code
def yX2_roofNamed : MethodName := ⟨RX2, "roofNamed", "(I)I"⟩
abbrev cX2_acrossFrom : ByteArray := prog_4_method_18_code
def yX2_acrossFrom : MethodName := ⟨RX2, "acrossFrom", "(II)I"⟩
abbrev cX2_wayBetween : ByteArray := prog_4_method_19_code
def yX2_wayBetween : MethodName := ⟨RX2, "wayBetween", "(II)I"⟩
abbrev cX2_numberOfAll : ByteArray := prog_4_method_20_code
def yX2_numberOfAll : MethodName := ⟨RX2, "numberOfAll", "(I)I"⟩
abbrev cX2_tunesIn : ByteArray := prog_4_method_21_code
def yX2_tunesIn : MethodName := ⟨RX2, "tunesIn", "(I)I"⟩
abbrev cX2_busyWhistlers : ByteArray := prog_4_method_22_code
def yX2_busyWhistlers : MethodName := ⟨RX2, "busyWhistlers", "()I"⟩
abbrev cX2_isBusy : ByteArray := prog_4_method_23_code
def yX2_isBusy : MethodName := ⟨RX2, "isBusy", "(II)Z"⟩
abbrev cX2_pursesTogether : ByteArray := prog_4_method_24_code
def yX2_pursesTogether : MethodName := ⟨RX2, "pursesTogether", "()I"⟩
abbrev cX2_numberOfRoof : ByteArray := prog_4_method_25_code
def yX2_numberOfRoof : MethodName := ⟨RX2, "numberOfRoof", "(II)I"⟩
abbrev cX2_tunesAt : ByteArray := prog_4_method_26_code
def yX2_tunesAt : MethodName := ⟨RX2, "tunesAt", "(I)I"⟩
abbrev cX2_waysAt : ByteArray := prog_4_method_27_code
def yX2_waysAt : MethodName := ⟨RX2, "waysAt", "(I)I"⟩
abbrev cX2_isWaitingAt : ByteArray := prog_4_method_28_code
def yX2_isWaitingAt : MethodName := ⟨RX2, "isWaitingAt", "(II)Z"⟩
abbrev cX2_numberOfTune : ByteArray := prog_4_method_30_code
def yX2_numberOfTune : MethodName := ⟨RX2, "numberOfTune", "(II)I"⟩
abbrev cX2_barsOf : ByteArray := prog_4_method_31_code
def yX2_barsOf : MethodName := ⟨RX2, "barsOf", "(I)I"⟩
abbrev cX2_barsOfTune : ByteArray := prog_4_method_32_code
def yX2_barsOfTune : MethodName := ⟨RX2, "barsOfTune", "(I)I"⟩
abbrev cX2_notesUnlikeSent : ByteArray := prog_4_method_33_code
def yX2_notesUnlikeSent : MethodName := ⟨RX2, "notesUnlikeSent", "(I)I"⟩
abbrev cX2_nextOf : ByteArray := prog_4_method_34_code
def yX2_nextOf : MethodName := ⟨RX2, "nextOf", "(I)I"⟩
abbrev cX2_lackOf : ByteArray := prog_4_method_35_code
def yX2_lackOf : MethodName := ⟨RX2, "lackOf", "(I)I"⟩
abbrev cX2_firstToGoFrom : ByteArray := prog_4_method_36_code
def yX2_firstToGoFrom : MethodName := ⟨RX2, "firstToGoFrom", "(I)I"⟩
abbrev cX2_wrongOf : ByteArray := prog_4_method_37_code
def yX2_wrongOf : MethodName := ⟨RX2, "wrongOf", "(IIII)I"⟩
def RX3 : String := "WhistlePosts$Roads"
def TX3 : u_T := fun k => match k with
  | 0 => ("WhistlePosts$Roads", "fars", "LWhistlePosts$Table;", true)
  | 1 => ("WhistlePosts$Roads", "sums", "LWhistlePosts$Table;", true)
  | _ => ("WhistlePosts$Roads", "nexts", "LWhistlePosts$Table;", true)
def tyX3 : Nat → FieldType := fun k => match k with
  | 0 => .object "WhistlePosts$Table"
  | 1 => .object "WhistlePosts$Table"
  | _ => .object "WhistlePosts$Table"
abbrev wsX30 : List Cond := u_ws RX3 TX3 3
theorem nmX3 : ∀ a, a < 3 → ∀ b, b < 3 → a ≠ b → (TX3 a).2.1 ≠ (TX3 b).2.1 := by decide +kernel
theorem tyX3_ok : ∀ k, k < 3 → parseFieldDescriptor (TX3 k).2.2.1 = some (tyX3 k) := by decide +kernel
abbrev cX3_init : ByteArray := prog_5_method_1_code
def yX3_init : MethodName := ⟨RX3, "<init>", "()V"⟩
abbrev cX3_copyFrom : ByteArray := prog_5_method_2_code
def yX3_copyFrom : MethodName := ⟨RX3, "copyFrom", "(LWhistlePosts$Roads;)V"⟩
abbrev cX3_lay : ByteArray := prog_5_method_3_code
def yX3_lay : MethodName := ⟨RX3, "lay", "(LWhistlePosts$Post;)V"⟩
abbrev cX3_sumByWays : ByteArray := prog_5_method_4_code
def yX3_sumByWays : MethodName := ⟨RX3, "sumByWays", "(LWhistlePosts$Post;)V"⟩
abbrev cX3_layNone : ByteArray := prog_5_method_5_code
def yX3_layNone : MethodName := ⟨RX3, "layNone", "(LWhistlePosts$Post;)V"⟩
abbrev cX3_layWay : ByteArray := prog_5_method_6_code
def yX3_layWay : MethodName := ⟨RX3, "layWay", "(III)V"⟩
abbrev cX3_shorten : ByteArray := prog_5_method_7_code
def yX3_shorten : MethodName := ⟨RX3, "shorten", "(III)V"⟩
abbrev cX3_pointAll : ByteArray := prog_5_method_8_code
def yX3_pointAll : MethodName := ⟨RX3, "pointAll", "(LWhistlePosts$Post;)V"⟩
abbrev cX3_beginOf : ByteArray := prog_5_method_9_code
def yX3_beginOf : MethodName := ⟨RX3, "beginOf", "(II)I"⟩
abbrev cX3_hasSameSums : ByteArray := prog_5_method_10_code
def yX3_hasSameSums : MethodName := ⟨RX3, "hasSameSums", "(LWhistlePosts$Roads;I)Z"⟩
def RX4 : String := "WhistlePosts$Script"
def TX4 : u_T := fun k => match k with
  | 0 => ("WhistlePosts$Script", "tokens", "LWhistlePosts$Tokens;", true)
  | 1 => ("WhistlePosts$Script", "post", "LWhistlePosts$Post;", true)
  | 2 => ("WhistlePosts$Script", "rows", "LWhistlePosts$Table;", true)
  | _ => ("WhistlePosts$Script", "statements", "I", false)
def tyX4 : Nat → FieldType := fun k => match k with
  | 0 => .object "WhistlePosts$Tokens"
  | 1 => .object "WhistlePosts$Post"
  | 2 => .object "WhistlePosts$Table"
  | _ => .int
abbrev wsX40 : List Cond := u_ws RX4 TX4 4
theorem nmX4 : ∀ a, a < 4 → ∀ b, b < 4 → a ≠ b → (TX4 a).2.1 ≠ (TX4 b).2.1 := by decide +kernel
theorem tyX4_ok : ∀ k, k < 4 → parseFieldDescriptor (TX4 k).2.2.1 = some (tyX4 k) := by decide +kernel
abbrev cX4_init : ByteArray := prog_6_method_1_code
def yX4_init : MethodName := ⟨RX4, "<init>", "(LWhistlePosts$Tokens;LWhistlePosts$Post;)V"⟩
def RX5 : String := "WhistlePosts$Setup"
def TX5 : u_T := fun k => match k with
  | 0 => ("WhistlePosts$Setup", "tokens", "LWhistlePosts$Tokens;", true)
  | _ => ("WhistlePosts$Setup", "draft", "LWhistlePosts$Post;", true)
def tyX5 : Nat → FieldType := fun k => match k with
  | 0 => .object "WhistlePosts$Tokens"
  | _ => .object "WhistlePosts$Post"
abbrev wsX50 : List Cond := u_ws RX5 TX5 2
theorem nmX5 : ∀ a, a < 2 → ∀ b, b < 2 → a ≠ b → (TX5 a).2.1 ≠ (TX5 b).2.1 := by decide +kernel
theorem tyX5_ok : ∀ k, k < 2 → parseFieldDescriptor (TX5 k).2.2.1 = some (tyX5 k) := by decide +kernel
abbrev cX5_init : ByteArray := prog_7_method_1_code
def yX5_init : MethodName := ⟨RX5, "<init>", "(LWhistlePosts$Tokens;LWhistlePosts$Post;)V"⟩
abbrev cX5_isRead : ByteArray := prog_7_method_2_code
def yX5_isRead : MethodName := ⟨RX5, "isRead", "()Z"⟩
abbrev cX5_isStatementRead : ByteArray := prog_7_method_3_code
def yX5_isStatementRead : MethodName := ⟨RX5, "isStatementRead", "()Z"⟩
abbrev cX5_isRoofRead : ByteArray := prog_7_method_4_code
def yX5_isRoofRead : MethodName := ⟨RX5, "isRoofRead", "()Z"⟩
abbrev cX5_isWayRead : ByteArray := prog_7_method_5_code
def yX5_isWayRead : MethodName := ⟨RX5, "isWayRead", "()Z"⟩
abbrev cX5_isSettingRead : ByteArray := prog_7_method_6_code
def yX5_isSettingRead : MethodName := ⟨RX5, "isSettingRead", "(I)Z"⟩
def RX6 : String := "WhistlePosts$Survey"
def TX6 : u_T := fun k => match k with
  | _ => ("", "", "", false)
def tyX6 : Nat → FieldType := fun k => match k with
  | _ => .int
abbrev wsX60 : List Cond := u_ws RX6 TX6 0
theorem nmX6 : ∀ a, a < 0 → ∀ b, b < 0 → a ≠ b → (TX6 a).2.1 ≠ (TX6 b).2.1 := by decide +kernel
theorem tyX6_ok : ∀ k, k < 0 → parseFieldDescriptor (TX6 k).2.2.1 = some (tyX6 k) := by decide +kernel
abbrev cX6_areTunesRight : ByteArray := prog_8_method_8_code
def yX6_areTunesRight : MethodName := ⟨RX6, "areTunesRight", "(LWhistlePosts$Post;)Z"⟩
abbrev cX6_areAccountsRight : ByteArray := prog_8_method_9_code
def yX6_areAccountsRight : MethodName := ⟨RX6, "areAccountsRight", "(LWhistlePosts$Post;)Z"⟩
def RX7 : String := "WhistlePosts$Table"
def TX7 : u_T := fun k => match k with
  | 0 => ("WhistlePosts$Table", "rows", "I", true)
  | 1 => ("WhistlePosts$Table", "columns", "I", true)
  | _ => ("WhistlePosts$Table", "cells", "[I", true)
def tyX7 : Nat → FieldType := fun k => match k with
  | 0 => .int
  | 1 => .int
  | _ => .array .int
abbrev wsX70 : List Cond := u_ws RX7 TX7 3
theorem nmX7 : ∀ a, a < 3 → ∀ b, b < 3 → a ≠ b → (TX7 a).2.1 ≠ (TX7 b).2.1 := by decide +kernel
theorem tyX7_ok : ∀ k, k < 3 → parseFieldDescriptor (TX7 k).2.2.1 = some (tyX7 k) := by decide +kernel
abbrev cX7_init : ByteArray := prog_9_method_1_code
def yX7_init : MethodName := ⟨RX7, "<init>", "(II)V"⟩
abbrev cX7_get : ByteArray := prog_9_method_2_code
def yX7_get : MethodName := ⟨RX7, "get", "(II)I"⟩
abbrev cX7_put : ByteArray := prog_9_method_3_code
def yX7_put : MethodName := ⟨RX7, "put", "(III)V"⟩
abbrev cX7_grow : ByteArray := prog_9_method_4_code
def yX7_grow : MethodName := ⟨RX7, "grow", "(III)V"⟩
abbrev cX7_clearTo : ByteArray := prog_9_method_5_code
def yX7_clearTo : MethodName := ⟨RX7, "clearTo", "(I)V"⟩
abbrev cX7_copyFrom : ByteArray := prog_9_method_6_code
def yX7_copyFrom : MethodName := ⟨RX7, "copyFrom", "(LWhistlePosts$Table;)V"⟩
abbrev cX7_removeRow : ByteArray := prog_9_method_7_code
def yX7_removeRow : MethodName := ⟨RX7, "removeRow", "(I)V"⟩
def RX8 : String := "WhistlePosts$Ticks"
def TX8 : u_T := fun k => match k with
  | _ => ("", "", "", false)
def tyX8 : Nat → FieldType := fun k => match k with
  | _ => .int
abbrev wsX80 : List Cond := u_ws RX8 TX8 0
theorem nmX8 : ∀ a, a < 0 → ∀ b, b < 0 → a ≠ b → (TX8 a).2.1 ≠ (TX8 b).2.1 := by decide +kernel
theorem tyX8_ok : ∀ k, k < 0 → parseFieldDescriptor (TX8 k).2.2.1 = some (tyX8 k) := by decide +kernel
abbrev cX8_run : ByteArray := prog_10_method_2_code
def yX8_run : MethodName := ⟨RX8, "run", "(LWhistlePosts$Post;I)V"⟩
abbrev cX8_landAll : ByteArray := prog_10_method_3_code
def yX8_landAll : MethodName := ⟨RX8, "landAll", "(LWhistlePosts$Post;)V"⟩
abbrev cX8_land : ByteArray := prog_10_method_4_code
def yX8_land : MethodName := ⟨RX8, "land", "(LWhistlePosts$Post;I)V"⟩
abbrev cX8_raised : ByteArray := prog_10_method_5_code
def yX8_raised : MethodName := ⟨RX8, "raised", "(II)I"⟩
abbrev cX8_reachGoal : ByteArray := prog_10_method_6_code
def yX8_reachGoal : MethodName := ⟨RX8, "reachGoal", "(LWhistlePosts$Post;I)V"⟩
abbrev cX8_turned : ByteArray := prog_10_method_7_code
def yX8_turned : MethodName := ⟨RX8, "turned", "(II)I"⟩
abbrev cX8_whistleAll : ByteArray := prog_10_method_8_code
def yX8_whistleAll : MethodName := ⟨RX8, "whistleAll", "(LWhistlePosts$Post;)V"⟩
abbrev cX8_roofsWithTunes : ByteArray := prog_10_method_9_code
def yX8_roofsWithTunes : MethodName := ⟨RX8, "roofsWithTunes", "(LWhistlePosts$Post;)I"⟩
abbrev cX8_whistle : ByteArray := prog_10_method_10_code
def yX8_whistle : MethodName := ⟨RX8, "whistle", "(LWhistlePosts$Post;II)V"⟩
abbrev cX8_breathsFor : ByteArray := prog_10_method_11_code
def yX8_breathsFor : MethodName := ⟨RX8, "breathsFor", "(LWhistlePosts$Post;II)I"⟩
abbrev cX8_loseAll : ByteArray := prog_10_method_12_code
def yX8_loseAll : MethodName := ⟨RX8, "loseAll", "(LWhistlePosts$Post;)V"⟩
def RX9 : String := "WhistlePosts$Tokens"
def TX9 : u_T := fun k => match k with
  | 0 => ("WhistlePosts$Tokens", "text", "LWhistlePosts$Bytes;", true)
  | 1 => ("WhistlePosts$Tokens", "start", "I", false)
  | 2 => ("WhistlePosts$Tokens", "behind", "I", false)
  | 3 => ("WhistlePosts$Tokens", "kind", "I", false)
  | 4 => ("WhistlePosts$Tokens", "number", "I", false)
  | 5 => ("WhistlePosts$Tokens", "error", "I", false)
  | _ => ("WhistlePosts$Tokens", "errorAt", "I", false)
def tyX9 : Nat → FieldType := fun k => match k with
  | 0 => .object "WhistlePosts$Bytes"
  | 1 => .int
  | 2 => .int
  | 3 => .int
  | 4 => .int
  | 5 => .int
  | _ => .int
abbrev wsX90 : List Cond := u_ws RX9 TX9 7
theorem nmX9 : ∀ a, a < 7 → ∀ b, b < 7 → a ≠ b → (TX9 a).2.1 ≠ (TX9 b).2.1 := by decide +kernel
theorem tyX9_ok : ∀ k, k < 7 → parseFieldDescriptor (TX9 k).2.2.1 = some (tyX9 k) := by decide +kernel
abbrev cX9_init : ByteArray := prog_11_method_1_code
def yX9_init : MethodName := ⟨RX9, "<init>", "(LWhistlePosts$Bytes;)V"⟩
abbrev cX9_open : ByteArray := prog_11_method_2_code
def yX9_open : MethodName := ⟨RX9, "open", "()V"⟩
abbrev cX9_fail : ByteArray := prog_11_method_3_code
def yX9_fail : MethodName := ⟨RX9, "fail", "(I)Z"⟩
abbrev cX9_kindOf : ByteArray := prog_11_method_4_code
def yX9_kindOf : MethodName := ⟨RX9, "kindOf", "(I)I"⟩
abbrev cX9_step : ByteArray := prog_11_method_5_code
def yX9_step : MethodName := ⟨RX9, "step", "()V"⟩
abbrev cX9_isWord : ByteArray := prog_11_method_6_code
def yX9_isWord : MethodName := ⟨RX9, "isWord", "(Ljava/lang/String;)Z"⟩
abbrev cX9_settingWord : ByteArray := prog_11_method_7_code
def yX9_settingWord : MethodName := ⟨RX9, "settingWord", "()I"⟩
abbrev cX9_nameHere : ByteArray := prog_11_method_8_code
def yX9_nameHere : MethodName := ⟨RX9, "nameHere", "()I"⟩
abbrev cX9_roofHere : ByteArray := prog_11_method_9_code
def yX9_roofHere : MethodName := ⟨RX9, "roofHere", "(LWhistlePosts$Post;I)I"⟩
abbrev cX9_isNumberHere : ByteArray := prog_11_method_10_code
def yX9_isNumberHere : MethodName := ⟨RX9, "isNumberHere", "(II)Z"⟩
abbrev cX9_takeNumber : ByteArray := prog_11_method_11_code
def yX9_takeNumber : MethodName := ⟨RX9, "takeNumber", "(II)I"⟩
abbrev cX9_isSemicolonTaken : ByteArray := prog_11_method_12_code
def yX9_isSemicolonTaken : MethodName := ⟨RX9, "isSemicolonTaken", "()Z"⟩
def RX10 : String := "WhistlePosts"
def TX10 : u_T := fun k => match k with
  | 0 => ("WhistlePosts", "input", "LWhistlePosts$Bytes;", true)
  | 1 => ("WhistlePosts", "output", "LWhistlePosts$Bytes;", true)
  | 2 => ("WhistlePosts", "tokens", "LWhistlePosts$Tokens;", true)
  | 3 => ("WhistlePosts", "setup", "LWhistlePosts$Setup;", true)
  | 4 => ("WhistlePosts", "script", "LWhistlePosts$Script;", true)
  | 5 => ("WhistlePosts", "now", "LWhistlePosts$Post;", true)
  | 6 => ("WhistlePosts", "saved", "LWhistlePosts$Post;", true)
  | 7 => ("WhistlePosts", "spare", "LWhistlePosts$Post;", true)
  | 8 => ("WhistlePosts", "past", "LWhistlePosts$Past;", true)
  | _ => ("WhistlePosts", "isSaved", "Z", false)
def tyX10 : Nat → FieldType := fun k => match k with
  | 0 => .object "WhistlePosts$Bytes"
  | 1 => .object "WhistlePosts$Bytes"
  | 2 => .object "WhistlePosts$Tokens"
  | 3 => .object "WhistlePosts$Setup"
  | 4 => .object "WhistlePosts$Script"
  | 5 => .object "WhistlePosts$Post"
  | 6 => .object "WhistlePosts$Post"
  | 7 => .object "WhistlePosts$Post"
  | 8 => .object "WhistlePosts$Past"
  | _ => .boolean
abbrev wsX100 : List Cond := u_ws RX10 TX10 10
theorem nmX10 : ∀ a, a < 10 → ∀ b, b < 10 → a ≠ b → (TX10 a).2.1 ≠ (TX10 b).2.1 := by decide +kernel
theorem tyX10_ok : ∀ k, k < 10 → parseFieldDescriptor (TX10 k).2.2.1 = some (tyX10 k) := by decide +kernel
abbrev cX10_init : ByteArray := prog_1_method_1_code
def yX10_init : MethodName := ⟨RX10, "<init>", "()V"⟩
abbrev cX10_appendInput : ByteArray := prog_1_method_2_code
def yX10_appendInput : MethodName := ⟨RX10, "appendInput", "(IIIII)I"⟩
abbrev cX10_appendFour : ByteArray := prog_1_method_3_code
def yX10_appendFour : MethodName := ⟨RX10, "appendFour", "(I)V"⟩
abbrev cX10_truncateInput : ByteArray := prog_1_method_4_code
def yX10_truncateInput : MethodName := ⟨RX10, "truncateInput", "(I)Z"⟩
abbrev cX10_loadPost : ByteArray := prog_1_method_5_code
def yX10_loadPost : MethodName := ⟨RX10, "loadPost", "()I"⟩
abbrev cX10_count : ByteArray := prog_1_method_11_code
def yX10_count : MethodName := ⟨RX10, "count", "(I)I"⟩
abbrev cX10_account : ByteArray := prog_1_method_12_code
def yX10_account : MethodName := ⟨RX10, "account", "(I)I"⟩
abbrev cX10_roof : ByteArray := prog_1_method_14_code
def yX10_roof : MethodName := ⟨RX10, "roof", "(II)I"⟩
abbrev cX10_route : ByteArray := prog_1_method_16_code
def yX10_route : MethodName := ⟨RX10, "route", "(II)I"⟩
abbrev cX10_next : ByteArray := prog_1_method_17_code
def yX10_next : MethodName := ⟨RX10, "next", "(II)I"⟩
abbrev cX10_tune : ByteArray := prog_1_method_18_code
def yX10_tune : MethodName := ⟨RX10, "tune", "(II)I"⟩
abbrev cX10_note : ByteArray := prog_1_method_19_code
def yX10_note : MethodName := ⟨RX10, "note", "(IIZ)I"⟩
abbrev cX10_agree : ByteArray := prog_1_method_28_code
def yX10_agree : MethodName := ⟨RX10, "agree", "()Z"⟩
abbrev cX10_send : ByteArray := prog_1_method_31_code
def yX10_send : MethodName := ⟨RX10, "send", "(IIIZ)I"⟩
abbrev cX10_areDigitsNotes : ByteArray := prog_1_method_32_code
def yX10_areDigitsNotes : MethodName := ⟨RX10, "areDigitsNotes", "(I)Z"⟩
abbrev cX10_digitsOf : ByteArray := prog_1_method_33_code
def yX10_digitsOf : MethodName := ⟨RX10, "digitsOf", "(I)I"⟩
abbrev cX10_notesOfDigits : ByteArray := prog_1_method_34_code
def yX10_notesOfDigits : MethodName := ⟨RX10, "notesOfDigits", "(I)I"⟩
abbrev cX10_noteOf : ByteArray := prog_1_method_35_code
def yX10_noteOf : MethodName := ⟨RX10, "noteOf", "(II)I"⟩
abbrev cX10_tick : ByteArray := prog_1_method_36_code
def yX10_tick : MethodName := ⟨RX10, "tick", "(I)I"⟩
abbrev cX10_give : ByteArray := prog_1_method_37_code
def yX10_give : MethodName := ⟨RX10, "give", "(II)I"⟩
abbrev cX10_cut : ByteArray := prog_1_method_38_code
def yX10_cut : MethodName := ⟨RX10, "cut", "(II)I"⟩
abbrev cX10_set : ByteArray := prog_1_method_39_code
def yX10_set : MethodName := ⟨RX10, "set", "(II)I"⟩
abbrev cX10_needRoof : ByteArray := prog_1_method_47_code
def yX10_needRoof : MethodName := ⟨RX10, "needRoof", "(I)V"⟩
abbrev cX10_needTune : ByteArray := prog_1_method_48_code
def yX10_needTune : MethodName := ⟨RX10, "needTune", "(I)V"⟩
abbrev cX10_needNumber : ByteArray := prog_1_method_49_code
def yX10_needNumber : MethodName := ⟨RX10, "needNumber", "(III)V"⟩
def RX11 : String := "WhistlePostsModel"
def TX11 : u_T := fun k => match k with
  | _ => ("", "", "", false)
def tyX11 : Nat → FieldType := fun k => match k with
  | _ => .int
abbrev wsX110 : List Cond := u_ws RX11 TX11 0
theorem nmX11 : ∀ a, a < 0 → ∀ b, b < 0 → a ≠ b → (TX11 a).2.1 ≠ (TX11 b).2.1 := by decide +kernel
theorem tyX11_ok : ∀ k, k < 0 → parseFieldDescriptor (TX11 k).2.2.1 = some (tyX11 k) := by decide +kernel
def RJx145de : String := "java/io/Serializable"
def TJx145de : u_T := fun k => match k with
  | _ => ("", "", "", false)
def tyJx145de : Nat → FieldType := fun k => match k with
  | _ => .int
abbrev wsJx145de0 : List Cond := u_ws RJx145de TJx145de 0
theorem nmJx145de : ∀ a, a < 0 → ∀ b, b < 0 → a ≠ b → (TJx145de a).2.1 ≠ (TJx145de b).2.1 := by decide +kernel
theorem tyJx145de_ok : ∀ k, k < 0 → parseFieldDescriptor (TJx145de k).2.2.1 = some (tyJx145de k) := by decide +kernel
def RJ5 : String := "java/lang/AbstractStringBuilder"
def TJ5 : u_T := fun k => match k with
  | _ => ("", "", "", false)
def tyJ5 : Nat → FieldType := fun k => match k with
  | _ => .int
abbrev wsJ50 : List Cond := u_ws RJ5 TJ5 0
theorem nmJ5 : ∀ a, a < 0 → ∀ b, b < 0 → a ≠ b → (TJ5 a).2.1 ≠ (TJ5 b).2.1 := by decide +kernel
theorem tyJ5_ok : ∀ k, k < 0 → parseFieldDescriptor (TJ5 k).2.2.1 = some (tyJ5 k) := by decide +kernel
abbrev cJ5_init_d00df : ByteArray := prog_14_method_2_code
def yJ5_init_d00df : MethodName := ⟨RJ5, "<init>", "(I)V"⟩
abbrev cJ5_length_8abf5 : ByteArray := prog_14_method_6_code
def yJ5_length_8abf5 : MethodName := ⟨RJ5, "length", "()I"⟩
abbrev cJ5_ensureCapacityInternal_d00df : ByteArray := prog_14_method_9_code
def yJ5_ensureCapacityInternal_d00df : MethodName := ⟨RJ5, "ensureCapacityInternal", "(I)V"⟩
abbrev cJ5_newCapacity_0f7a4 : ByteArray := prog_14_method_10_code
def yJ5_newCapacity_0f7a4 : MethodName := ⟨RJ5, "newCapacity", "(I)I"⟩
abbrev cJ5_inflate_da8c8 : ByteArray := prog_14_method_11_code
def yJ5_inflate_da8c8 : MethodName := ⟨RJ5, "inflate", "()V"⟩
abbrev cJ5_append_cf1ce : ByteArray := prog_14_method_22_code
def yJ5_append_cf1ce : MethodName := ⟨RJ5, "append", "(Ljava/lang/String;)Ljava/lang/AbstractStringBuilder;"⟩
abbrev cJ5_appendNull_278bc : ByteArray := prog_14_method_26_code
def yJ5_appendNull_278bc : MethodName := ⟨RJ5, "appendNull", "()Ljava/lang/AbstractStringBuilder;"⟩
abbrev cJ5_append_3fe6f : ByteArray := prog_14_method_31_code
def yJ5_append_3fe6f : MethodName := ⟨RJ5, "append", "(C)Ljava/lang/AbstractStringBuilder;"⟩
abbrev cJ5_append_c97b9 : ByteArray := prog_14_method_32_code
def yJ5_append_c97b9 : MethodName := ⟨RJ5, "append", "(I)Ljava/lang/AbstractStringBuilder;"⟩
abbrev cJ5_getValue_6d5f1 : ByteArray := prog_14_method_64_code
def yJ5_getValue_6d5f1 : MethodName := ⟨RJ5, "getValue", "()[B"⟩
abbrev cJ5_isLatin1_aae02 : ByteArray := prog_14_method_68_code
def yJ5_isLatin1_aae02 : MethodName := ⟨RJ5, "isLatin1", "()Z"⟩
abbrev cJ5_inflateIfNeededFor_a7421 : ByteArray := prog_14_method_71_code
def yJ5_inflateIfNeededFor_a7421 : MethodName := ⟨RJ5, "inflateIfNeededFor", "(Ljava/lang/String;)V"⟩
abbrev cJ5_putStringAt_47b60 : ByteArray := prog_14_method_73_code
def yJ5_putStringAt_47b60 : MethodName := ⟨RJ5, "putStringAt", "(ILjava/lang/String;)V"⟩
def RJx2cfe8 : String := "java/lang/Appendable"
def TJx2cfe8 : u_T := fun k => match k with
  | _ => ("", "", "", false)
def tyJx2cfe8 : Nat → FieldType := fun k => match k with
  | _ => .int
abbrev wsJx2cfe80 : List Cond := u_ws RJx2cfe8 TJx2cfe8 0
theorem nmJx2cfe8 : ∀ a, a < 0 → ∀ b, b < 0 → a ≠ b → (TJx2cfe8 a).2.1 ≠ (TJx2cfe8 b).2.1 := by decide +kernel
theorem tyJx2cfe8_ok : ∀ k, k < 0 → parseFieldDescriptor (TJx2cfe8 k).2.2.1 = some (tyJx2cfe8 k) := by decide +kernel
def RJx9f9b0 : String := "java/lang/CharSequence"
def TJx9f9b0 : u_T := fun k => match k with
  | _ => ("", "", "", false)
def tyJx9f9b0 : Nat → FieldType := fun k => match k with
  | _ => .int
abbrev wsJx9f9b00 : List Cond := u_ws RJx9f9b0 TJx9f9b0 0
theorem nmJx9f9b0 : ∀ a, a < 0 → ∀ b, b < 0 → a ≠ b → (TJx9f9b0 a).2.1 ≠ (TJx9f9b0 b).2.1 := by decide +kernel
theorem tyJx9f9b0_ok : ∀ k, k < 0 → parseFieldDescriptor (TJx9f9b0 k).2.2.1 = some (tyJx9f9b0 k) := by decide +kernel
def RJx8e188 : String := "java/lang/Cloneable"
def TJx8e188 : u_T := fun k => match k with
  | _ => ("", "", "", false)
def tyJx8e188 : Nat → FieldType := fun k => match k with
  | _ => .int
abbrev wsJx8e1880 : List Cond := u_ws RJx8e188 TJx8e188 0
theorem nmJx8e188 : ∀ a, a < 0 → ∀ b, b < 0 → a ≠ b → (TJx8e188 a).2.1 ≠ (TJx8e188 b).2.1 := by decide +kernel
theorem tyJx8e188_ok : ∀ k, k < 0 → parseFieldDescriptor (TJx8e188 k).2.2.1 = some (tyJx8e188 k) := by decide +kernel
def RJxb160c : String := "java/lang/Comparable"
def TJxb160c : u_T := fun k => match k with
  | _ => ("", "", "", false)
def tyJxb160c : Nat → FieldType := fun k => match k with
  | _ => .int
abbrev wsJxb160c0 : List Cond := u_ws RJxb160c TJxb160c 0
theorem nmJxb160c : ∀ a, a < 0 → ∀ b, b < 0 → a ≠ b → (TJxb160c a).2.1 ≠ (TJxb160c b).2.1 := by decide +kernel
theorem tyJxb160c_ok : ∀ k, k < 0 → parseFieldDescriptor (TJxb160c k).2.2.1 = some (tyJxb160c k) := by decide +kernel
def RJ6 : String := "java/lang/Integer"
def TJ6 : u_T := fun k => match k with
  | _ => ("", "", "", false)
def tyJ6 : Nat → FieldType := fun k => match k with
  | _ => .int
abbrev wsJ60 : List Cond := u_ws RJ6 TJ6 0
theorem nmJ6 : ∀ a, a < 0 → ∀ b, b < 0 → a ≠ b → (TJ6 a).2.1 ≠ (TJ6 b).2.1 := by decide +kernel
theorem tyJ6_ok : ∀ k, k < 0 → parseFieldDescriptor (TJ6 k).2.2.1 = some (tyJ6 k) := by decide +kernel
abbrev cJ6_getChars_ba4f3 : ByteArray := prog_20_method_12_code
def yJ6_getChars_ba4f3 : MethodName := ⟨RJ6, "getChars", "(II[B)I"⟩
abbrev cJ6_stringSize_0f7a4 : ByteArray := prog_20_method_13_code
def yJ6_stringSize_0f7a4 : MethodName := ⟨RJ6, "stringSize", "(I)I"⟩
def RJ9 : String := "java/lang/Math"
def TJ9 : u_T := fun k => match k with
  | _ => ("", "", "", false)
def tyJ9 : Nat → FieldType := fun k => match k with
  | _ => .int
abbrev wsJ90 : List Cond := u_ws RJ9 TJ9 0
theorem nmJ9 : ∀ a, a < 0 → ∀ b, b < 0 → a ≠ b → (TJ9 a).2.1 ≠ (TJ9 b).2.1 := by decide +kernel
theorem tyJ9_ok : ∀ k, k < 0 → parseFieldDescriptor (TJ9 k).2.2.1 = some (tyJ9 k) := by decide +kernel
abbrev cJ9_max_7cf53 : ByteArray := prog_21_method_65_code
def yJ9_max_7cf53 : MethodName := ⟨RJ9, "max", "(II)I"⟩
abbrev cJ9_min_7cf53 : ByteArray := prog_21_method_69_code
def yJ9_min_7cf53 : MethodName := ⟨RJ9, "min", "(II)I"⟩
def RJxd2413 : String := "java/lang/Number"
def TJxd2413 : u_T := fun k => match k with
  | _ => ("", "", "", false)
def tyJxd2413 : Nat → FieldType := fun k => match k with
  | _ => .int
abbrev wsJxd24130 : List Cond := u_ws RJxd2413 TJxd2413 0
theorem nmJxd2413 : ∀ a, a < 0 → ∀ b, b < 0 → a ≠ b → (TJxd2413 a).2.1 ≠ (TJxd2413 b).2.1 := by decide +kernel
theorem tyJxd2413_ok : ∀ k, k < 0 → parseFieldDescriptor (TJxd2413 k).2.2.1 = some (tyJxd2413 k) := by decide +kernel
def RJ0 : String := "java/lang/String"
def TJ0 : u_T := fun k => match k with
  | 0 => ("java/lang/String", "value", "[B", true)
  | 1 => ("java/lang/String", "coder", "B", true)
  | 2 => ("java/lang/String", "hash", "I", false)
  | _ => ("java/lang/String", "hashIsZero", "Z", false)
def tyJ0 : Nat → FieldType := fun k => match k with
  | 0 => .array .byte
  | 1 => .byte
  | 2 => .int
  | _ => .boolean
abbrev wsJ00 : List Cond := u_ws RJ0 TJ0 4
theorem nmJ0 : ∀ a, a < 4 → ∀ b, b < 4 → a ≠ b → (TJ0 a).2.1 ≠ (TJ0 b).2.1 := by decide +kernel
theorem tyJ0_ok : ∀ k, k < 4 → parseFieldDescriptor (TJ0 k).2.2.1 = some (tyJ0 k) := by decide +kernel
abbrev cJ0_init_81219 : ByteArray := prog_24_method_53_code
def yJ0_init_81219 : MethodName := ⟨RJ0, "<init>", "(Ljava/lang/StringBuilder;)V"⟩
abbrev cJ0_length_8abf5 : ByteArray := prog_24_method_54_code
def yJ0_length_8abf5 : MethodName := ⟨RJ0, "length", "()I"⟩
abbrev cJ0_charAt_5068e : ByteArray := prog_24_method_56_code
def yJ0_charAt_5068e : MethodName := ⟨RJ0, "charAt", "(I)C"⟩
abbrev cJ0_getBytes_840e7 : ByteArray := prog_24_method_147_code
def yJ0_getBytes_840e7 : MethodName := ⟨RJ0, "getBytes", "([BIB)V"⟩
abbrev cJ0_init_db425 : ByteArray := prog_24_method_150_code
def yJ0_init_db425 : MethodName := ⟨RJ0, "<init>", "(Ljava/lang/AbstractStringBuilder;Ljava/lang/Void;)V"⟩
abbrev cJ0_coder_7d493 : ByteArray := prog_24_method_152_code
def yJ0_coder_7d493 : MethodName := ⟨RJ0, "coder", "()B"⟩
abbrev cJ0_isLatin1_aae02 : ByteArray := prog_24_method_154_code
def yJ0_isLatin1_aae02 : MethodName := ⟨RJ0, "isLatin1", "()Z"⟩
abbrev cJ0_checkIndex_df160 : ByteArray := prog_24_method_155_code
def yJ0_checkIndex_df160 : MethodName := ⟨RJ0, "checkIndex", "(II)V"⟩
abbrev cJ0_checkBoundsOffCount_cabcc : ByteArray := prog_24_method_157_code
def yJ0_checkBoundsOffCount_cabcc : MethodName := ⟨RJ0, "checkBoundsOffCount", "(III)I"⟩
abbrev cJ0_checkBoundsBeginEnd_23922 : ByteArray := prog_24_method_158_code
def yJ0_checkBoundsBeginEnd_23922 : MethodName := ⟨RJ0, "checkBoundsBeginEnd", "(III)V"⟩
def RJ4 : String := "java/lang/StringBuilder"
def TJ4 : u_T := fun k => match k with
  | 0 => ("java/lang/AbstractStringBuilder", "value", "[B", false)
  | 1 => ("java/lang/AbstractStringBuilder", "coder", "B", false)
  | 2 => ("java/lang/AbstractStringBuilder", "maybeLatin1", "Z", false)
  | _ => ("java/lang/AbstractStringBuilder", "count", "I", false)
def tyJ4 : Nat → FieldType := fun k => match k with
  | 0 => .array .byte
  | 1 => .byte
  | 2 => .boolean
  | _ => .int
abbrev wsJ40 : List Cond := u_ws RJ4 TJ4 4
theorem nmJ4 : ∀ a, a < 4 → ∀ b, b < 4 → a ≠ b → (TJ4 a).2.1 ≠ (TJ4 b).2.1 := by decide +kernel
theorem tyJ4_ok : ∀ k, k < 4 → parseFieldDescriptor (TJ4 k).2.2.1 = some (tyJ4 k) := by decide +kernel
abbrev cJ4_init_da8c8 : ByteArray := prog_25_method_1_code
def yJ4_init_da8c8 : MethodName := ⟨RJ4, "<init>", "()V"⟩
abbrev cJ4_append_15ec4 : ByteArray := prog_25_method_7_code
def yJ4_append_15ec4 : MethodName := ⟨RJ4, "append", "(Ljava/lang/String;)Ljava/lang/StringBuilder;"⟩
abbrev cJ4_append_cf468 : ByteArray := prog_25_method_14_code
def yJ4_append_cf468 : MethodName := ⟨RJ4, "append", "(C)Ljava/lang/StringBuilder;"⟩
abbrev cJ4_append_bf812 : ByteArray := prog_25_method_15_code
def yJ4_append_bf812 : MethodName := ⟨RJ4, "append", "(I)Ljava/lang/StringBuilder;"⟩
abbrev cJ4_toString_0e30d : ByteArray := prog_25_method_42_code
def yJ4_toString_0e30d : MethodName := ⟨RJ4, "toString", "()Ljava/lang/String;"⟩
abbrev cJ4_length_8abf5 : ByteArray := prog_25_method_93_code
def yJ4_length_8abf5 : MethodName := ⟨RJ4, "length", "()I"⟩
def RJ1 : String := "java/lang/StringLatin1"
def TJ1 : u_T := fun k => match k with
  | _ => ("", "", "", false)
def tyJ1 : Nat → FieldType := fun k => match k with
  | _ => .int
abbrev wsJ10 : List Cond := u_ws RJ1 TJ1 0
theorem nmJ1 : ∀ a, a < 0 → ∀ b, b < 0 → a ≠ b → (TJ1 a).2.1 ≠ (TJ1 b).2.1 := by decide +kernel
theorem tyJ1_ok : ∀ k, k < 0 → parseFieldDescriptor (TJ1 k).2.2.1 = some (tyJ1 k) := by decide +kernel
abbrev cJ1_charAt_3b067 : ByteArray := prog_26_method_2_code
def yJ1_charAt_3b067 : MethodName := ⟨RJ1, "charAt", "([BI)C"⟩
abbrev cJ1_canEncode_fc78d : ByteArray := prog_26_method_3_code
def yJ1_canEncode_fc78d : MethodName := ⟨RJ1, "canEncode", "(C)Z"⟩
abbrev cJ1_inflate_0e8fd : ByteArray := prog_26_method_50_code
def yJ1_inflate_0e8fd : MethodName := ⟨RJ1, "inflate", "([BI[BII)V"⟩
def RJ2 : String := "java/lang/StringUTF16"
def TJ2 : u_T := fun k => match k with
  | _ => ("", "", "", false)
def tyJ2 : Nat → FieldType := fun k => match k with
  | _ => .int
abbrev wsJ20 : List Cond := u_ws RJ2 TJ2 0
theorem nmJ2 : ∀ a, a < 0 → ∀ b, b < 0 → a ≠ b → (TJ2 a).2.1 ≠ (TJ2 b).2.1 := by decide +kernel
theorem tyJ2_ok : ∀ k, k < 0 → parseFieldDescriptor (TJ2 k).2.2.1 = some (tyJ2 k) := by decide +kernel
abbrev cJ2_newBytesFor_77867 : ByteArray := prog_27_method_2_code
def yJ2_newBytesFor_77867 : MethodName := ⟨RJ2, "newBytesFor", "(I)[B"⟩
abbrev cJ2_newBytesLength_0f7a4 : ByteArray := prog_27_method_3_code
def yJ2_newBytesLength_0f7a4 : MethodName := ⟨RJ2, "newBytesLength", "(I)I"⟩
abbrev cJ2_putChar_b72d1 : ByteArray := prog_27_method_4_code
def yJ2_putChar_b72d1 : MethodName := ⟨RJ2, "putChar", "([BII)V"⟩
abbrev cJ2_getChar_3b067 : ByteArray := prog_27_method_5_code
def yJ2_getChar_3b067 : MethodName := ⟨RJ2, "getChar", "([BI)C"⟩
abbrev cJ2_length_9d52b : ByteArray := prog_27_method_6_code
def yJ2_length_9d52b : MethodName := ⟨RJ2, "length", "([B)I"⟩
abbrev cJ2_coderFromArrayLen_85cad : ByteArray := prog_27_method_15_code
def yJ2_coderFromArrayLen_85cad : MethodName := ⟨RJ2, "coderFromArrayLen", "([BI)B"⟩
abbrev cJ2_compress_39247 : ByteArray := prog_27_method_17_code
def yJ2_compress_39247 : MethodName := ⟨RJ2, "compress", "([BII)[B"⟩
abbrev cJ2_compress_5af95 : ByteArray := prog_27_method_22_code
def yJ2_compress_5af95 : MethodName := ⟨RJ2, "compress", "([BI[BII)I"⟩
abbrev cJ2_putCharSB_b72d1 : ByteArray := prog_27_method_71_code
def yJ2_putCharSB_b72d1 : MethodName := ⟨RJ2, "putCharSB", "([BII)V"⟩
abbrev cJ2_getChars_46870 : ByteArray := prog_27_method_77_code
def yJ2_getChars_46870 : MethodName := ⟨RJ2, "getChars", "(III[B)I"⟩
abbrev cJ2_putCharsAt_cd4e5 : ByteArray := prog_27_method_81_code
def yJ2_putCharsAt_cd4e5 : MethodName := ⟨RJ2, "putCharsAt", "([BICCCC)I"⟩
abbrev cJ2_charAt_3b067 : ByteArray := prog_27_method_83_code
def yJ2_charAt_3b067 : MethodName := ⟨RJ2, "charAt", "([BI)C"⟩
abbrev cJ2_inflate_0e8fd : ByteArray := prog_27_method_86_code
def yJ2_inflate_0e8fd : MethodName := ⟨RJ2, "inflate", "([BI[BII)V"⟩
abbrev cJ2_getChars_ba4f3 : ByteArray := prog_27_method_89_code
def yJ2_getChars_ba4f3 : MethodName := ⟨RJ2, "getChars", "(II[B)I"⟩
abbrev cJ2_checkIndex_2214a : ByteArray := prog_27_method_91_code
def yJ2_checkIndex_2214a : MethodName := ⟨RJ2, "checkIndex", "(I[B)V"⟩
abbrev cJ2_checkBoundsBeginEnd_d044e : ByteArray := prog_27_method_93_code
def yJ2_checkBoundsBeginEnd_d044e : MethodName := ⟨RJ2, "checkBoundsBeginEnd", "(II[B)V"⟩
abbrev cJ2_checkBoundsOffCount_d044e : ByteArray := prog_27_method_94_code
def yJ2_checkBoundsOffCount_d044e : MethodName := ⟨RJ2, "checkBoundsOffCount", "(II[B)V"⟩
def RJ10 : String := "java/lang/System"
def TJ10 : u_T := fun k => match k with
  | _ => ("", "", "", false)
def tyJ10 : Nat → FieldType := fun k => match k with
  | _ => .int
abbrev wsJ100 : List Cond := u_ws RJ10 TJ10 0
theorem nmJ10 : ∀ a, a < 0 → ∀ b, b < 0 → a ≠ b → (TJ10 a).2.1 ≠ (TJ10 b).2.1 := by decide +kernel
theorem tyJ10_ok : ∀ k, k < 0 → parseFieldDescriptor (TJ10 k).2.2.1 = some (tyJ10 k) := by decide +kernel
def RJxfd54e : String := "java/lang/constant/Constable"
def TJxfd54e : u_T := fun k => match k with
  | _ => ("", "", "", false)
def tyJxfd54e : Nat → FieldType := fun k => match k with
  | _ => .int
abbrev wsJxfd54e0 : List Cond := u_ws RJxfd54e TJxfd54e 0
theorem nmJxfd54e : ∀ a, a < 0 → ∀ b, b < 0 → a ≠ b → (TJxfd54e a).2.1 ≠ (TJxfd54e b).2.1 := by decide +kernel
theorem tyJxfd54e_ok : ∀ k, k < 0 → parseFieldDescriptor (TJxfd54e k).2.2.1 = some (tyJxfd54e k) := by decide +kernel
def RJx3cf43 : String := "java/lang/constant/ConstantDesc"
def TJx3cf43 : u_T := fun k => match k with
  | _ => ("", "", "", false)
def tyJx3cf43 : Nat → FieldType := fun k => match k with
  | _ => .int
abbrev wsJx3cf430 : List Cond := u_ws RJx3cf43 TJx3cf43 0
theorem nmJx3cf43 : ∀ a, a < 0 → ∀ b, b < 0 → a ≠ b → (TJx3cf43 a).2.1 ≠ (TJx3cf43 b).2.1 := by decide +kernel
theorem tyJx3cf43_ok : ∀ k, k < 0 → parseFieldDescriptor (TJx3cf43 k).2.2.1 = some (tyJx3cf43 k) := by decide +kernel
def RJ7 : String := "java/util/Arrays"
def TJ7 : u_T := fun k => match k with
  | _ => ("", "", "", false)
def tyJ7 : Nat → FieldType := fun k => match k with
  | _ => .int
abbrev wsJ70 : List Cond := u_ws RJ7 TJ7 0
theorem nmJ7 : ∀ a, a < 0 → ∀ b, b < 0 → a ≠ b → (TJ7 a).2.1 ≠ (TJ7 b).2.1 := by decide +kernel
theorem tyJ7_ok : ∀ k, k < 0 → parseFieldDescriptor (TJ7 k).2.2.1 = some (tyJ7 k) := by decide +kernel
abbrev cJ7_copyOf_9075b : ByteArray := prog_30_method_121_code
def yJ7_copyOf_9075b : MethodName := ⟨RJ7, "copyOf", "([BI)[B"⟩
abbrev cJ7_checkLength_df160 : ByteArray := prog_30_method_131_code
def yJ7_checkLength_df160 : MethodName := ⟨RJ7, "checkLength", "(II)V"⟩
abbrev cJ7_copyOfRange_39247 : ByteArray := prog_30_method_132_code
def yJ7_copyOfRange_39247 : MethodName := ⟨RJ7, "copyOfRange", "([BII)[B"⟩
abbrev cJ7_copyOfRangeByte_39247 : ByteArray := prog_30_method_133_code
def yJ7_copyOfRangeByte_39247 : MethodName := ⟨RJ7, "copyOfRangeByte", "([BII)[B"⟩
def RJ8 : String := "jdk/internal/util/ArraysSupport"
def TJ8 : u_T := fun k => match k with
  | _ => ("", "", "", false)
def tyJ8 : Nat → FieldType := fun k => match k with
  | _ => .int
abbrev wsJ80 : List Cond := u_ws RJ8 TJ8 0
theorem nmJ8 : ∀ a, a < 0 → ∀ b, b < 0 → a ≠ b → (TJ8 a).2.1 ≠ (TJ8 b).2.1 := by decide +kernel
theorem tyJ8_ok : ∀ k, k < 0 → parseFieldDescriptor (TJ8 k).2.2.1 = some (tyJ8 k) := by decide +kernel
abbrev cJ8_newLength_cabcc : ByteArray := prog_31_method_27_code
def yJ8_newLength_cabcc : MethodName := ⟨RJ8, "newLength", "(III)I"⟩
abbrev cJ8_hugeLength_7cf53 : ByteArray := prog_31_method_28_code
def yJ8_hugeLength_7cf53 : MethodName := ⟨RJ8, "hugeLength", "(II)I"⟩
def RJ3 : String := "jdk/internal/util/Preconditions"
def TJ3 : u_T := fun k => match k with
  | _ => ("", "", "", false)
def tyJ3 : Nat → FieldType := fun k => match k with
  | _ => .int
abbrev wsJ30 : List Cond := u_ws RJ3 TJ3 0
theorem nmJ3 : ∀ a, a < 0 → ∀ b, b < 0 → a ≠ b → (TJ3 a).2.1 ≠ (TJ3 b).2.1 := by decide +kernel
theorem tyJ3_ok : ∀ k, k < 0 → parseFieldDescriptor (TJ3 k).2.2.1 = some (tyJ3 k) := by decide +kernel
abbrev cJ3_checkIndex_8e157 : ByteArray := prog_32_method_11_code
def yJ3_checkIndex_8e157 : MethodName := ⟨RJ3, "checkIndex", "(IILjava/util/function/BiFunction;)I"⟩
abbrev cJ3_checkFromToIndex_8c36e : ByteArray := prog_32_method_12_code
def yJ3_checkFromToIndex_8c36e : MethodName := ⟨RJ3, "checkFromToIndex", "(IIILjava/util/function/BiFunction;)I"⟩
abbrev cJ3_checkFromIndexSize_8c36e : ByteArray := prog_32_method_13_code
def yJ3_checkFromIndexSize_8c36e : MethodName := ⟨RJ3, "checkFromIndexSize", "(IIILjava/util/function/BiFunction;)I"⟩
def RL : String := "WhistlePostsLaw"
def TL : u_T := fun k => match k with
  | 0 => ("WhistlePostsLaw", "breath", "[I", true)
  | 1 => ("WhistlePostsLaw", "ear", "[I", true)
  | 2 => ("WhistlePostsLaw", "fee", "[I", true)
  | 3 => ("WhistlePostsLaw", "purse", "[I", true)
  | 4 => ("WhistlePostsLaw", "until", "[I", true)
  | 5 => ("WhistlePostsLaw", "whistled", "[I", true)
  | 6 => ("WhistlePostsLaw", "way", "[[I", true)
  | 7 => ("WhistlePostsLaw", "sum", "[[I", true)
  | 8 => ("WhistlePostsLaw", "from", "[I", true)
  | 9 => ("WhistlePostsLaw", "goal", "[I", true)
  | 10 => ("WhistlePostsLaw", "state", "[I", true)
  | 11 => ("WhistlePostsLaw", "at", "[I", true)
  | 12 => ("WhistlePostsLaw", "end", "[I", true)
  | 13 => ("WhistlePostsLaw", "far", "[I", true)
  | 14 => ("WhistlePostsLaw", "tries", "[I", true)
  | 15 => ("WhistlePostsLaw", "hops", "[I", true)
  | 16 => ("WhistlePostsLaw", "wants", "[I", true)
  | 17 => ("WhistlePostsLaw", "reply", "[I", true)
  | 18 => ("WhistlePostsLaw", "sent", "[[I", true)
  | 19 => ("WhistlePostsLaw", "heard", "[[I", true)
  | 20 => ("WhistlePostsLaw", "roofs", "I", false)
  | 21 => ("WhistlePostsLaw", "tunes", "I", false)
  | 22 => ("WhistlePostsLaw", "time", "I", false)
  | 23 => ("WhistlePostsLaw", "wind", "I", false)
  | 24 => ("WhistlePostsLaw", "dusk", "I", false)
  | 25 => ("WhistlePostsLaw", "again", "I", false)
  | 26 => ("WhistlePostsLaw", "replies", "I", false)
  | 27 => ("WhistlePostsLaw", "wrong", "I", false)
  | 28 => ("WhistlePostsLaw", "arrived", "I", false)
  | 29 => ("WhistlePostsLaw", "right", "I", false)
  | 30 => ("WhistlePostsLaw", "anew", "I", false)
  | 31 => ("WhistlePostsLaw", "lost", "I", false)
  | 32 => ("WhistlePostsLaw", "fees", "I", false)
  | _ => ("WhistlePostsLaw", "flown", "I", false)
def tyL : Nat → FieldType := fun k => match k with
  | 0 => .array .int
  | 1 => .array .int
  | 2 => .array .int
  | 3 => .array .int
  | 4 => .array .int
  | 5 => .array .int
  | 6 => .array (.array .int)
  | 7 => .array (.array .int)
  | 8 => .array .int
  | 9 => .array .int
  | 10 => .array .int
  | 11 => .array .int
  | 12 => .array .int
  | 13 => .array .int
  | 14 => .array .int
  | 15 => .array .int
  | 16 => .array .int
  | 17 => .array .int
  | 18 => .array (.array .int)
  | 19 => .array (.array .int)
  | 20 => .int
  | 21 => .int
  | 22 => .int
  | 23 => .int
  | 24 => .int
  | 25 => .int
  | 26 => .int
  | 27 => .int
  | 28 => .int
  | 29 => .int
  | 30 => .int
  | 31 => .int
  | 32 => .int
  | _ => .int
abbrev wsL0 : List Cond := u_ws RL TL 34
theorem nmL : ∀ a, a < 34 → ∀ b, b < 34 → a ≠ b → (TL a).2.1 ≠ (TL b).2.1 := by decide +kernel
theorem tyL_ok : ∀ k, k < 34 → parseFieldDescriptor (TL k).2.2.1 = some (tyL k) := by decide +kernel
abbrev cL_init : ByteArray := method_1_code
def yL_init : MethodName := ⟨RL, "<init>", "()V"⟩
abbrev cL_cell : ByteArray := method_2_code
def yL_cell : MethodName := ⟨RL, "cell", "([II)I"⟩
abbrev cL_bits : ByteArray := method_3_code
def yL_bits : MethodName := ⟨RL, "bits", "(III)I"⟩
abbrev cL_told : ByteArray := method_4_code
def yL_told : MethodName := ⟨RL, "told", "(LWhistlePosts;Ljava/lang/String;)V"⟩
abbrev cL_reckon : ByteArray := method_5_code
def yL_reckon : MethodName := ⟨RL, "reckon", "()V"⟩
abbrev cL_next : ByteArray := method_6_code
def yL_next : MethodName := ⟨RL, "next", "(II)I"⟩
abbrev cL_bars : ByteArray := method_7_code
def yL_bars : MethodName := ⟨RL, "bars", "(I)I"⟩
abbrev cL_isRight : ByteArray := method_8_code
def yL_isRight : MethodName := ⟨RL, "isRight", "(I)Z"⟩
abbrev cL_sends : ByteArray := method_9_code
def yL_sends : MethodName := ⟨RL, "sends", "(II[III)V"⟩
abbrev cL_resets : ByteArray := method_10_code
def yL_resets : MethodName := ⟨RL, "resets", "(I)V"⟩
abbrev cL_lands : ByteArray := method_11_code
def yL_lands : MethodName := ⟨RL, "lands", "(I)V"⟩
abbrev cL_first : ByteArray := method_12_code
def yL_first : MethodName := ⟨RL, "first", "(I)I"⟩
abbrev cL_ticks : ByteArray := method_13_code
def yL_ticks : MethodName := ⟨RL, "ticks", "()V"⟩
abbrev cL_isRefused : ByteArray := method_14_code
def yL_isRefused : MethodName := ⟨RL, "isRefused", "(LWhistlePosts;III)Z"⟩
abbrev cL_acts : ByteArray := method_15_code
def yL_acts : MethodName := ⟨RL, "acts", "(LWhistlePosts;I)Z"⟩
abbrev cL_isLike : ByteArray := method_16_code
def yL_isLike : MethodName := ⟨RL, "isLike", "(LWhistlePosts;)Z"⟩
abbrev cL_law : ByteArray := code
def yL_law : MethodName := ⟨RL, "law", "([I)Z"⟩
abbrev vwCl : List vw_C := [(RJ0, TJ0, 4), (RJ4, TJ4, 4), (RX0, TX0, 2), (RX1, TX1, 3), (RX2, TX2, 10), (RX3, TX3, 3), (RX4, TX4, 4), (RX5, TX5, 2), (RX7, TX7, 3), (RX9, TX9, 7), (RX10, TX10, 10), (RL, TL, 34)]
