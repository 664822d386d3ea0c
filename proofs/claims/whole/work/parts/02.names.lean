/-! ===== BEGIN printed: names, fields, word lists, decode rows ===== -/
def RX0 : String := "Dominofs$Bets"
def TX0 : u_T := fun k => match k with
  | 0 => ("Dominofs$Bets", "count", "I", false)
  | 1 => ("Dominofs$Bets", "coins", "I", false)
  | 2 => ("Dominofs$Bets", "betters", "[I", true)
  | 3 => ("Dominofs$Bets", "players", "[I", true)
  | 4 => ("Dominofs$Bets", "stakes", "[I", true)
  | _ => ("Dominofs$Bets", "payments", "[I", true)
def tyX0 : Nat → FieldType := fun k => match k with
  | 0 => .int
  | 1 => .int
  | 2 => .array .int
  | 3 => .array .int
  | 4 => .array .int
  | _ => .array .int
abbrev wsX00 : List Cond := u_ws RX0 TX0 6
theorem nmX0 : ∀ a, a < 6 → ∀ b, b < 6 → a ≠ b → (TX0 a).2.1 ≠ (TX0 b).2.1 := by decide +kernel
theorem tyX0_ok : ∀ k, k < 6 → parseFieldDescriptor (TX0 k).2.2.1 = some (tyX0 k) := by decide +kernel
abbrev cX0_init : ByteArray := prog_2_method_1_code
def yX0_init : MethodName := ⟨RX0, "<init>", "()V"⟩
abbrev cX0_clear : ByteArray := prog_2_method_2_code
def yX0_clear : MethodName := ⟨RX0, "clear", "()V"⟩
abbrev cX0_become : ByteArray := prog_2_method_3_code
def yX0_become : MethodName := ⟨RX0, "become", "(LDominofs$Bets;)V"⟩
abbrev cX0_isLike : ByteArray := prog_2_method_4_code
def yX0_isLike : MethodName := ⟨RX0, "isLike", "(LDominofs$Bets;)Z"⟩
abbrev cX0_add : ByteArray := prog_2_method_5_code
def yX0_add : MethodName := ⟨RX0, "add", "(III)V"⟩
abbrev cX0_betterOf : ByteArray := prog_2_method_6_code
def yX0_betterOf : MethodName := ⟨RX0, "betterOf", "(I)I"⟩
abbrev cX0_paymentOf : ByteArray := prog_2_method_7_code
def yX0_paymentOf : MethodName := ⟨RX0, "paymentOf", "(I)I"⟩
abbrev cX0_share : ByteArray := prog_2_method_8_code
def yX0_share : MethodName := ⟨RX0, "share", "(I)I"⟩
abbrev cX0_coinsLeft : ByteArray := prog_2_method_9_code
def yX0_coinsLeft : MethodName := ⟨RX0, "coinsLeft", "()I"⟩
abbrev cX0_coinsOn : ByteArray := prog_2_method_10_code
def yX0_coinsOn : MethodName := ⟨RX0, "coinsOn", "(I)I"⟩
def RX1 : String := "Dominofs$BlockAppealed"
def TX1 : u_T := fun k => match k with
  | 0 => ("Dominofs$Entry", "kind", "C", true)
  | 1 => ("Dominofs$Entry", "game", "I", true)
  | _ => ("Dominofs$BlockAppealed", "ruling", "C", true)
def tyX1 : Nat → FieldType := fun k => match k with
  | 0 => .char
  | 1 => .int
  | _ => .char
abbrev wsX10 : List Cond := u_ws RX1 TX1 3
theorem nmX1 : ∀ a, a < 3 → ∀ b, b < 3 → a ≠ b → (TX1 a).2.1 ≠ (TX1 b).2.1 := by decide +kernel
theorem tyX1_ok : ∀ k, k < 3 → parseFieldDescriptor (TX1 k).2.2.1 = some (tyX1 k) := by decide +kernel
abbrev cX1_init : ByteArray := prog_3_method_1_code
def yX1_init : MethodName := ⟨RX1, "<init>", "(IC)V"⟩
abbrev cX1_doOn : ByteArray := prog_3_method_2_code
def yX1_doOn : MethodName := ⟨RX1, "doOn", "(LDominofs$Table;)V"⟩
def RX2 : String := "Dominofs$CoinsBet"
def TX2 : u_T := fun k => match k with
  | 0 => ("Dominofs$Entry", "kind", "C", true)
  | 1 => ("Dominofs$Entry", "game", "I", true)
  | 2 => ("Dominofs$CoinsBet", "better", "I", true)
  | 3 => ("Dominofs$CoinsBet", "player", "I", true)
  | _ => ("Dominofs$CoinsBet", "coins", "I", true)
def tyX2 : Nat → FieldType := fun k => match k with
  | 0 => .char
  | 1 => .int
  | 2 => .int
  | 3 => .int
  | _ => .int
abbrev wsX20 : List Cond := u_ws RX2 TX2 5
theorem nmX2 : ∀ a, a < 5 → ∀ b, b < 5 → a ≠ b → (TX2 a).2.1 ≠ (TX2 b).2.1 := by decide +kernel
theorem tyX2_ok : ∀ k, k < 5 → parseFieldDescriptor (TX2 k).2.2.1 = some (tyX2 k) := by decide +kernel
abbrev cX2_init : ByteArray := prog_4_method_1_code
def yX2_init : MethodName := ⟨RX2, "<init>", "(IIII)V"⟩
abbrev cX2_doOn : ByteArray := prog_4_method_2_code
def yX2_doOn : MethodName := ⟨RX2, "doOn", "(LDominofs$Table;)V"⟩
def RX3 : String := "Dominofs$Entry"
def TX3 : u_T := fun k => match k with
  | _ => ("", "", "", false)
def tyX3 : Nat → FieldType := fun k => match k with
  | _ => .int
abbrev wsX30 : List Cond := u_ws RX3 TX3 0
theorem nmX3 : ∀ a, a < 0 → ∀ b, b < 0 → a ≠ b → (TX3 a).2.1 ≠ (TX3 b).2.1 := by decide +kernel
theorem tyX3_ok : ∀ k, k < 0 → parseFieldDescriptor (TX3 k).2.2.1 = some (tyX3 k) := by decide +kernel
abbrev cX3_init : ByteArray := prog_5_method_1_code
def yX3_init : MethodName := ⟨RX3, "<init>", "(CI)V"⟩
def RX4 : String := "Dominofs$Game"
def TX4 : u_T := fun k => match k with
  | 0 => ("Dominofs$Game", "house", "LDominofs$House;", false)
  | 1 => ("Dominofs$Game", "order", "[I", true)
  | 2 => ("Dominofs$Game", "dealt", "I", false)
  | 3 => ("Dominofs$Game", "hands", "[I", true)
  | 4 => ("Dominofs$Game", "chain", "[I", true)
  | 5 => ("Dominofs$Game", "laid", "I", false)
  | 6 => ("Dominofs$Game", "mover", "I", false)
  | 7 => ("Dominofs$Game", "lastLayer", "I", false)
  | 8 => ("Dominofs$Game", "passes", "I", false)
  | 9 => ("Dominofs$Game", "isStuck", "Z", false)
  | 10 => ("Dominofs$Game", "winner", "I", false)
  | 11 => ("Dominofs$Game", "ruling", "C", false)
  | 12 => ("Dominofs$Game", "appeals", "I", false)
  | _ => ("Dominofs$Game", "bets", "LDominofs$Bets;", true)
def tyX4 : Nat → FieldType := fun k => match k with
  | 0 => .object "Dominofs$House"
  | 1 => .array .int
  | 2 => .int
  | 3 => .array .int
  | 4 => .array .int
  | 5 => .int
  | 6 => .int
  | 7 => .int
  | 8 => .int
  | 9 => .boolean
  | 10 => .int
  | 11 => .char
  | 12 => .int
  | _ => .object "Dominofs$Bets"
abbrev wsX40 : List Cond := u_ws RX4 TX4 14
theorem nmX4 : ∀ a, a < 14 → ∀ b, b < 14 → a ≠ b → (TX4 a).2.1 ≠ (TX4 b).2.1 := by decide +kernel
theorem tyX4_ok : ∀ k, k < 14 → parseFieldDescriptor (TX4 k).2.2.1 = some (tyX4 k) := by decide +kernel
abbrev cX4_init : ByteArray := prog_6_method_1_code
def yX4_init : MethodName := ⟨RX4, "<init>", "(LDominofs$House;)V"⟩
abbrev cX4_begin : ByteArray := prog_6_method_2_code
def yX4_begin : MethodName := ⟨RX4, "begin", "(LDominofs$House;I)V"⟩
abbrev cX4_shuffle : ByteArray := prog_6_method_3_code
def yX4_shuffle : MethodName := ⟨RX4, "shuffle", "(I)V"⟩
abbrev cX4_deal : ByteArray := prog_6_method_4_code
def yX4_deal : MethodName := ⟨RX4, "deal", "()V"⟩
abbrev cX4_become : ByteArray := prog_6_method_5_code
def yX4_become : MethodName := ⟨RX4, "become", "(LDominofs$Game;)V"⟩
abbrev cX4_isLike : ByteArray := prog_6_method_6_code
def yX4_isLike : MethodName := ⟨RX4, "isLike", "(LDominofs$Game;)Z"⟩
abbrev cX4_areTilesLike : ByteArray := prog_6_method_7_code
def yX4_areTilesLike : MethodName := ⟨RX4, "areTilesLike", "(LDominofs$Game;)Z"⟩
abbrev cX4_hasPlayer : ByteArray := prog_6_method_8_code
def yX4_hasPlayer : MethodName := ⟨RX4, "hasPlayer", "(I)Z"⟩
abbrev cX4_isDone : ByteArray := prog_6_method_9_code
def yX4_isDone : MethodName := ⟨RX4, "isDone", "()Z"⟩
abbrev cX4_handOf : ByteArray := prog_6_method_10_code
def yX4_handOf : MethodName := ⟨RX4, "handOf", "(I)I"⟩
abbrev cX4_isInHand : ByteArray := prog_6_method_11_code
def yX4_isInHand : MethodName := ⟨RX4, "isInHand", "(I)Z"⟩
abbrev cX4_numberAt : ByteArray := prog_6_method_12_code
def yX4_numberAt : MethodName := ⟨RX4, "numberAt", "(Z)I"⟩
abbrev cX4_chainAt : ByteArray := prog_6_method_13_code
def yX4_chainAt : MethodName := ⟨RX4, "chainAt", "(I)I"⟩
abbrev cX4_isFitting : ByteArray := prog_6_method_14_code
def yX4_isFitting : MethodName := ⟨RX4, "isFitting", "(IZ)Z"⟩
abbrev cX4_canLay : ByteArray := prog_6_method_15_code
def yX4_canLay : MethodName := ⟨RX4, "canLay", "()Z"⟩
abbrev cX4_canTake : ByteArray := prog_6_method_16_code
def yX4_canTake : MethodName := ⟨RX4, "canTake", "()Z"⟩
abbrev cX4_firstOfStock : ByteArray := prog_6_method_17_code
def yX4_firstOfStock : MethodName := ⟨RX4, "firstOfStock", "()I"⟩
abbrev cX4_signAt : ByteArray := prog_6_method_18_code
def yX4_signAt : MethodName := ⟨RX4, "signAt", "(IZ)C"⟩
abbrev cX4_digitAt : ByteArray := prog_6_method_19_code
def yX4_digitAt : MethodName := ⟨RX4, "digitAt", "(IZ)C"⟩
abbrev cX4_place : ByteArray := prog_6_method_20_code
def yX4_place : MethodName := ⟨RX4, "place", "(IZ)V"⟩
abbrev cX4_addToChain : ByteArray := prog_6_method_21_code
def yX4_addToChain : MethodName := ⟨RX4, "addToChain", "(IIZ)V"⟩
abbrev cX4_take : ByteArray := prog_6_method_22_code
def yX4_take : MethodName := ⟨RX4, "take", "()V"⟩
abbrev cX4_skip : ByteArray := prog_6_method_23_code
def yX4_skip : MethodName := ⟨RX4, "skip", "()V"⟩
abbrev cX4_moveOn : ByteArray := prog_6_method_24_code
def yX4_moveOn : MethodName := ⟨RX4, "moveOn", "()V"⟩
abbrev cX4_judge : ByteArray := prog_6_method_25_code
def yX4_judge : MethodName := ⟨RX4, "judge", "(C)V"⟩
abbrev cX4_ruledWinner : ByteArray := prog_6_method_26_code
def yX4_ruledWinner : MethodName := ⟨RX4, "ruledWinner", "()I"⟩
abbrev cX4_addTo : ByteArray := prog_6_method_27_code
def yX4_addTo : MethodName := ⟨RX4, "addTo", "(J)J"⟩
abbrev cX4_areTilesInPlace : ByteArray := prog_6_method_28_code
def yX4_areTilesInPlace : MethodName := ⟨RX4, "areTilesInPlace", "()Z"⟩
def RX5 : String := "Dominofs$GameBegun"
def TX5 : u_T := fun k => match k with
  | 0 => ("Dominofs$Entry", "kind", "C", true)
  | 1 => ("Dominofs$Entry", "game", "I", true)
  | 2 => ("Dominofs$GameBegun", "house", "LDominofs$House;", true)
  | _ => ("Dominofs$GameBegun", "seed", "I", true)
def tyX5 : Nat → FieldType := fun k => match k with
  | 0 => .char
  | 1 => .int
  | 2 => .object "Dominofs$House"
  | _ => .int
abbrev wsX50 : List Cond := u_ws RX5 TX5 4
theorem nmX5 : ∀ a, a < 4 → ∀ b, b < 4 → a ≠ b → (TX5 a).2.1 ≠ (TX5 b).2.1 := by decide +kernel
theorem tyX5_ok : ∀ k, k < 4 → parseFieldDescriptor (TX5 k).2.2.1 = some (tyX5 k) := by decide +kernel
abbrev cX5_init : ByteArray := prog_7_method_1_code
def yX5_init : MethodName := ⟨RX5, "<init>", "(ILDominofs$House;I)V"⟩
abbrev cX5_doOn : ByteArray := prog_7_method_2_code
def yX5_doOn : MethodName := ⟨RX5, "doOn", "(LDominofs$Table;)V"⟩
def RX6 : String := "Dominofs$House"
def TX6 : u_T := fun k => match k with
  | 0 => ("Dominofs$House", "pips", "I", true)
  | 1 => ("Dominofs$House", "players", "I", true)
  | 2 => ("Dominofs$House", "tiles", "I", true)
  | 3 => ("Dominofs$House", "areDraws", "Z", true)
  | 4 => ("Dominofs$House", "ruling", "C", true)
  | 5 => ("Dominofs$House", "size", "I", true)
  | 6 => ("Dominofs$House", "lows", "[I", true)
  | 7 => ("Dominofs$House", "highs", "[I", true)
  | _ => ("Dominofs$House", "bearers", "[I", true)
def tyX6 : Nat → FieldType := fun k => match k with
  | 0 => .int
  | 1 => .int
  | 2 => .int
  | 3 => .boolean
  | 4 => .char
  | 5 => .int
  | 6 => .array .int
  | 7 => .array .int
  | _ => .array .int
abbrev wsX60 : List Cond := u_ws RX6 TX6 9
theorem nmX6 : ∀ a, a < 9 → ∀ b, b < 9 → a ≠ b → (TX6 a).2.1 ≠ (TX6 b).2.1 := by decide +kernel
theorem tyX6_ok : ∀ k, k < 9 → parseFieldDescriptor (TX6 k).2.2.1 = some (tyX6 k) := by decide +kernel
abbrev cX6_init : ByteArray := prog_8_method_1_code
def yX6_init : MethodName := ⟨RX6, "<init>", "(IIIZC)V"⟩
abbrev cX6_sizeOfSet : ByteArray := prog_8_method_2_code
def yX6_sizeOfSet : MethodName := ⟨RX6, "sizeOfSet", "(I)I"⟩
abbrev cX6_lowOf : ByteArray := prog_8_method_3_code
def yX6_lowOf : MethodName := ⟨RX6, "lowOf", "(I)I"⟩
abbrev cX6_highOf : ByteArray := prog_8_method_4_code
def yX6_highOf : MethodName := ⟨RX6, "highOf", "(I)I"⟩
abbrev cX6_bearersOf : ByteArray := prog_8_method_5_code
def yX6_bearersOf : MethodName := ⟨RX6, "bearersOf", "(I)I"⟩
abbrev cX6_pipsOn : ByteArray := prog_8_method_6_code
def yX6_pipsOn : MethodName := ⟨RX6, "pipsOn", "(I)I"⟩
abbrev cX6_tileWith : ByteArray := prog_8_method_7_code
def yX6_tileWith : MethodName := ⟨RX6, "tileWith", "(II)I"⟩
def RX7 : String := "Dominofs$Table"
def TX7 : u_T := fun k => match k with
  | 0 => ("Dominofs$Table", "done", "I", false)
  | 1 => ("Dominofs$Table", "gameCount", "I", false)
  | 2 => ("Dominofs$Table", "games", "[LDominofs$Game;", true)
  | 3 => ("Dominofs$Table", "purses", "[I", true)
  | _ => ("Dominofs$Table", "clubCoins", "I", false)
def tyX7 : Nat → FieldType := fun k => match k with
  | 0 => .int
  | 1 => .int
  | 2 => .array (.object "Dominofs$Game")
  | 3 => .array .int
  | _ => .int
abbrev wsX70 : List Cond := u_ws RX7 TX7 5
theorem nmX7 : ∀ a, a < 5 → ∀ b, b < 5 → a ≠ b → (TX7 a).2.1 ≠ (TX7 b).2.1 := by decide +kernel
theorem tyX7_ok : ∀ k, k < 5 → parseFieldDescriptor (TX7 k).2.2.1 = some (tyX7 k) := by decide +kernel
abbrev cX7_init : ByteArray := prog_9_method_1_code
def yX7_init : MethodName := ⟨RX7, "<init>", "(LDominofs$House;)V"⟩
abbrev cX7_clear : ByteArray := prog_9_method_2_code
def yX7_clear : MethodName := ⟨RX7, "clear", "()V"⟩
abbrev cX7_become : ByteArray := prog_9_method_3_code
def yX7_become : MethodName := ⟨RX7, "become", "(LDominofs$Table;)V"⟩
abbrev cX7_isLike : ByteArray := prog_9_method_4_code
def yX7_isLike : MethodName := ⟨RX7, "isLike", "(LDominofs$Table;)Z"⟩
abbrev cX7_gameAt : ByteArray := prog_9_method_5_code
def yX7_gameAt : MethodName := ⟨RX7, "gameAt", "(I)LDominofs$Game;"⟩
abbrev cX7_purseOf : ByteArray := prog_9_method_6_code
def yX7_purseOf : MethodName := ⟨RX7, "purseOf", "(I)I"⟩
abbrev cX7_addToPurse : ByteArray := prog_9_method_7_code
def yX7_addToPurse : MethodName := ⟨RX7, "addToPurse", "(II)V"⟩
abbrev cX7_perform : ByteArray := prog_9_method_8_code
def yX7_perform : MethodName := ⟨RX7, "perform", "(LDominofs$Entry;)V"⟩
abbrev cX7_openGame : ByteArray := prog_9_method_9_code
def yX7_openGame : MethodName := ⟨RX7, "openGame", "()LDominofs$Game;"⟩
abbrev cX7_putIntoPool : ByteArray := prog_9_method_10_code
def yX7_putIntoPool : MethodName := ⟨RX7, "putIntoPool", "(LDominofs$Game;III)V"⟩
abbrev cX7_pay : ByteArray := prog_9_method_11_code
def yX7_pay : MethodName := ⟨RX7, "pay", "(LDominofs$Game;)V"⟩
abbrev cX7_takeBack : ByteArray := prog_9_method_12_code
def yX7_takeBack : MethodName := ⟨RX7, "takeBack", "(LDominofs$Game;)V"⟩
abbrev cX7_movePayments : ByteArray := prog_9_method_13_code
def yX7_movePayments : MethodName := ⟨RX7, "movePayments", "(LDominofs$Game;I)V"⟩
abbrev cX7_hasOpenBets : ByteArray := prog_9_method_14_code
def yX7_hasOpenBets : MethodName := ⟨RX7, "hasOpenBets", "()Z"⟩
abbrev cX7_openCoins : ByteArray := prog_9_method_15_code
def yX7_openCoins : MethodName := ⟨RX7, "openCoins", "()I"⟩
abbrev cX7_coinsInPurses : ByteArray := prog_9_method_16_code
def yX7_coinsInPurses : MethodName := ⟨RX7, "coinsInPurses", "()I"⟩
abbrev cX7_coinsInAll : ByteArray := prog_9_method_17_code
def yX7_coinsInAll : MethodName := ⟨RX7, "coinsInAll", "()I"⟩
abbrev cX7_countDone : ByteArray := prog_9_method_18_code
def yX7_countDone : MethodName := ⟨RX7, "countDone", "()I"⟩
abbrev cX7_areTilesInPlace : ByteArray := prog_9_method_19_code
def yX7_areTilesInPlace : MethodName := ⟨RX7, "areTilesInPlace", "()Z"⟩
abbrev cX7_sum : ByteArray := prog_9_method_20_code
def yX7_sum : MethodName := ⟨RX7, "sum", "()J"⟩
def RX8 : String := "Dominofs$TileDrawn"
def TX8 : u_T := fun k => match k with
  | 0 => ("Dominofs$Entry", "kind", "C", true)
  | _ => ("Dominofs$Entry", "game", "I", true)
def tyX8 : Nat → FieldType := fun k => match k with
  | 0 => .char
  | _ => .int
abbrev wsX80 : List Cond := u_ws RX8 TX8 2
theorem nmX8 : ∀ a, a < 2 → ∀ b, b < 2 → a ≠ b → (TX8 a).2.1 ≠ (TX8 b).2.1 := by decide +kernel
theorem tyX8_ok : ∀ k, k < 2 → parseFieldDescriptor (TX8 k).2.2.1 = some (tyX8 k) := by decide +kernel
abbrev cX8_init : ByteArray := prog_10_method_1_code
def yX8_init : MethodName := ⟨RX8, "<init>", "(I)V"⟩
abbrev cX8_doOn : ByteArray := prog_10_method_2_code
def yX8_doOn : MethodName := ⟨RX8, "doOn", "(LDominofs$Table;)V"⟩
def RX9 : String := "Dominofs$TileLaid"
def TX9 : u_T := fun k => match k with
  | 0 => ("Dominofs$Entry", "kind", "C", true)
  | 1 => ("Dominofs$Entry", "game", "I", true)
  | 2 => ("Dominofs$TileLaid", "tile", "I", true)
  | _ => ("Dominofs$TileLaid", "isLeft", "Z", true)
def tyX9 : Nat → FieldType := fun k => match k with
  | 0 => .char
  | 1 => .int
  | 2 => .int
  | _ => .boolean
abbrev wsX90 : List Cond := u_ws RX9 TX9 4
theorem nmX9 : ∀ a, a < 4 → ∀ b, b < 4 → a ≠ b → (TX9 a).2.1 ≠ (TX9 b).2.1 := by decide +kernel
theorem tyX9_ok : ∀ k, k < 4 → parseFieldDescriptor (TX9 k).2.2.1 = some (tyX9 k) := by decide +kernel
abbrev cX9_init : ByteArray := prog_11_method_1_code
def yX9_init : MethodName := ⟨RX9, "<init>", "(IIZ)V"⟩
abbrev cX9_doOn : ByteArray := prog_11_method_2_code
def yX9_doOn : MethodName := ⟨RX9, "doOn", "(LDominofs$Table;)V"⟩
def RX10 : String := "Dominofs$TurnPassed"
def TX10 : u_T := fun k => match k with
  | 0 => ("Dominofs$Entry", "kind", "C", true)
  | _ => ("Dominofs$Entry", "game", "I", true)
def tyX10 : Nat → FieldType := fun k => match k with
  | 0 => .char
  | _ => .int
abbrev wsX100 : List Cond := u_ws RX10 TX10 2
theorem nmX10 : ∀ a, a < 2 → ∀ b, b < 2 → a ≠ b → (TX10 a).2.1 ≠ (TX10 b).2.1 := by decide +kernel
theorem tyX10_ok : ∀ k, k < 2 → parseFieldDescriptor (TX10 k).2.2.1 = some (tyX10 k) := by decide +kernel
abbrev cX10_init : ByteArray := prog_12_method_1_code
def yX10_init : MethodName := ⟨RX10, "<init>", "(I)V"⟩
abbrev cX10_doOn : ByteArray := prog_12_method_2_code
def yX10_doOn : MethodName := ⟨RX10, "doOn", "(LDominofs$Table;)V"⟩
def RX11 : String := "Dominofs"
def TX11 : u_T := fun k => match k with
  | 0 => ("Dominofs", "houses", "Ljava/util/ArrayList;", true)
  | 1 => ("Dominofs", "journal", "Ljava/util/ArrayList;", true)
  | 2 => ("Dominofs", "flushed", "I", false)
  | 3 => ("Dominofs", "checkpoints", "Ljava/util/ArrayList;", true)
  | 4 => ("Dominofs", "now", "LDominofs$Table;", true)
  | 5 => ("Dominofs", "again", "LDominofs$Table;", true)
  | 6 => ("Dominofs", "noHouse", "LDominofs$House;", true)
  | 7 => ("Dominofs", "isRefused", "Z", false)
  | 8 => ("Dominofs", "isUnfit", "Z", false)
  | _ => ("Dominofs", "unfitEnd", "I", false)
def tyX11 : Nat → FieldType := fun k => match k with
  | 0 => .object "java/util/ArrayList"
  | 1 => .object "java/util/ArrayList"
  | 2 => .int
  | 3 => .object "java/util/ArrayList"
  | 4 => .object "Dominofs$Table"
  | 5 => .object "Dominofs$Table"
  | 6 => .object "Dominofs$House"
  | 7 => .boolean
  | 8 => .boolean
  | _ => .int
abbrev wsX110 : List Cond := u_ws RX11 TX11 10
theorem nmX11 : ∀ a, a < 10 → ∀ b, b < 10 → a ≠ b → (TX11 a).2.1 ≠ (TX11 b).2.1 := by decide +kernel
theorem tyX11_ok : ∀ k, k < 10 → parseFieldDescriptor (TX11 k).2.2.1 = some (tyX11 k) := by decide +kernel
abbrev cX11_init : ByteArray := prog_1_method_1_code
def yX11_init : MethodName := ⟨RX11, "<init>", "()V"⟩
abbrev cX11_house : ByteArray := prog_1_method_2_code
def yX11_house : MethodName := ⟨RX11, "house", "(IIIZC)I"⟩
abbrev cX11_game : ByteArray := prog_1_method_3_code
def yX11_game : MethodName := ⟨RX11, "game", "(II)I"⟩
abbrev cX11_lay : ByteArray := prog_1_method_4_code
def yX11_lay : MethodName := ⟨RX11, "lay", "(IIZ)Z"⟩
abbrev cX11_draw : ByteArray := prog_1_method_5_code
def yX11_draw : MethodName := ⟨RX11, "draw", "(I)I"⟩
abbrev cX11_pass : ByteArray := prog_1_method_6_code
def yX11_pass : MethodName := ⟨RX11, "pass", "(I)Z"⟩
abbrev cX11_mover : ByteArray := prog_1_method_7_code
def yX11_mover : MethodName := ⟨RX11, "mover", "(I)I"⟩
abbrev cX11_hand : ByteArray := prog_1_method_8_code
def yX11_hand : MethodName := ⟨RX11, "hand", "(II)J"⟩
abbrev cX11_stock : ByteArray := prog_1_method_9_code
def yX11_stock : MethodName := ⟨RX11, "stock", "(I)I"⟩
abbrev cX11_end : ByteArray := prog_1_method_10_code
def yX11_end : MethodName := ⟨RX11, "end", "(IZ)I"⟩
abbrev cX11_line : ByteArray := prog_1_method_11_code
def yX11_line : MethodName := ⟨RX11, "line", "(I)I"⟩
abbrev cX11_sign : ByteArray := prog_1_method_12_code
def yX11_sign : MethodName := ⟨RX11, "sign", "(IIZ)C"⟩
abbrev cX11_isOver : ByteArray := prog_1_method_13_code
def yX11_isOver : MethodName := ⟨RX11, "isOver", "(I)Z"⟩
abbrev cX11_isBlocked : ByteArray := prog_1_method_14_code
def yX11_isBlocked : MethodName := ⟨RX11, "isBlocked", "(I)Z"⟩
abbrev cX11_winner : ByteArray := prog_1_method_15_code
def yX11_winner : MethodName := ⟨RX11, "winner", "(I)I"⟩
abbrev cX11_why : ByteArray := prog_1_method_16_code
def yX11_why : MethodName := ⟨RX11, "why", "(I)C"⟩
abbrev cX11_bet : ByteArray := prog_1_method_17_code
def yX11_bet : MethodName := ⟨RX11, "bet", "(IIII)I"⟩
abbrev cX11_purse : ByteArray := prog_1_method_18_code
def yX11_purse : MethodName := ⟨RX11, "purse", "(I)I"⟩
abbrev cX11_pool : ByteArray := prog_1_method_19_code
def yX11_pool : MethodName := ⟨RX11, "pool", "(I)I"⟩
abbrev cX11_paid : ByteArray := prog_1_method_20_code
def yX11_paid : MethodName := ⟨RX11, "paid", "(II)I"⟩
abbrev cX11_club : ByteArray := prog_1_method_21_code
def yX11_club : MethodName := ⟨RX11, "club", "()I"⟩
abbrev cX11_appeal : ByteArray := prog_1_method_22_code
def yX11_appeal : MethodName := ⟨RX11, "appeal", "(IC)I"⟩
abbrev cX11_ruling : ByteArray := prog_1_method_23_code
def yX11_ruling : MethodName := ⟨RX11, "ruling", "(I)C"⟩
abbrev cX11_entries : ByteArray := prog_1_method_24_code
def yX11_entries : MethodName := ⟨RX11, "entries", "()I"⟩
abbrev cX11_loose : ByteArray := prog_1_method_25_code
def yX11_loose : MethodName := ⟨RX11, "loose", "()I"⟩
abbrev cX11_entry : ByteArray := prog_1_method_26_code
def yX11_entry : MethodName := ⟨RX11, "entry", "(I)C"⟩
abbrev cX11_gameOf : ByteArray := prog_1_method_27_code
def yX11_gameOf : MethodName := ⟨RX11, "gameOf", "(I)I"⟩
abbrev cX11_flush : ByteArray := prog_1_method_28_code
def yX11_flush : MethodName := ⟨RX11, "flush", "()I"⟩
abbrev cX11_crash : ByteArray := prog_1_method_29_code
def yX11_crash : MethodName := ⟨RX11, "crash", "()I"⟩
abbrev cX11_checkpoint : ByteArray := prog_1_method_30_code
def yX11_checkpoint : MethodName := ⟨RX11, "checkpoint", "()I"⟩
abbrev cX11_behind : ByteArray := prog_1_method_31_code
def yX11_behind : MethodName := ⟨RX11, "behind", "(I)I"⟩
abbrev cX11_replay : ByteArray := prog_1_method_32_code
def yX11_replay : MethodName := ⟨RX11, "replay", "(I)J"⟩
abbrev cX11_checksum : ByteArray := prog_1_method_33_code
def yX11_checksum : MethodName := ⟨RX11, "checksum", "()J"⟩
abbrev cX11_playedShare : ByteArray := prog_1_method_34_code
def yX11_playedShare : MethodName := ⟨RX11, "playedShare", "()F"⟩
abbrev cX11_meanPurse : ByteArray := prog_1_method_35_code
def yX11_meanPurse : MethodName := ⟨RX11, "meanPurse", "()D"⟩
abbrev cX11_isSound : ByteArray := prog_1_method_36_code
def yX11_isSound : MethodName := ⟨RX11, "isSound", "()Z"⟩
abbrev cX11_isRuling : ByteArray := prog_1_method_37_code
def yX11_isRuling : MethodName := ⟨RX11, "isRuling", "(C)Z"⟩
abbrev cX11_findGame : ByteArray := prog_1_method_38_code
def yX11_findGame : MethodName := ⟨RX11, "findGame", "(I)LDominofs$Game;"⟩
abbrev cX11_findEntry : ByteArray := prog_1_method_39_code
def yX11_findEntry : MethodName := ⟨RX11, "findEntry", "(I)LDominofs$Entry;"⟩
abbrev cX11_isJournalFull : ByteArray := prog_1_method_40_code
def yX11_isJournalFull : MethodName := ⟨RX11, "isJournalFull", "()Z"⟩
abbrev cX11_refuseIfOverOrFull : ByteArray := prog_1_method_41_code
def yX11_refuseIfOverOrFull : MethodName := ⟨RX11, "refuseIfOverOrFull", "(LDominofs$Game;)V"⟩
abbrev cX11_noteRefusal : ByteArray := prog_1_method_42_code
def yX11_noteRefusal : MethodName := ⟨RX11, "noteRefusal", "(ZI)V"⟩
abbrev cX11_enter : ByteArray := prog_1_method_43_code
def yX11_enter : MethodName := ⟨RX11, "enter", "(LDominofs$Entry;)V"⟩
abbrev cX11_isOverInCheckpoint : ByteArray := prog_1_method_44_code
def yX11_isOverInCheckpoint : MethodName := ⟨RX11, "isOverInCheckpoint", "(I)Z"⟩
abbrev cX11_redoFrom : ByteArray := prog_1_method_45_code
def yX11_redoFrom : MethodName := ⟨RX11, "redoFrom", "(ILDominofs$Table;)V"⟩
def RX12 : String := "DominofsModel"
def TX12 : u_T := fun k => match k with
  | 0 => ("DominofsModel", "thrown", "I", false)
  | 1 => ("DominofsModel", "houses", "I", false)
  | 2 => ("DominofsModel", "pips", "[I", true)
  | 3 => ("DominofsModel", "players", "[I", true)
  | 4 => ("DominofsModel", "tiles", "[I", true)
  | 5 => ("DominofsModel", "hasDraws", "[Z", true)
  | 6 => ("DominofsModel", "rule", "[I", true)
  | 7 => ("DominofsModel", "entries", "I", false)
  | 8 => ("DominofsModel", "flushed", "I", false)
  | 9 => ("DominofsModel", "letter", "[I", true)
  | 10 => ("DominofsModel", "gameAt", "[I", true)
  | 11 => ("DominofsModel", "one", "[I", true)
  | 12 => ("DominofsModel", "two", "[I", true)
  | 13 => ("DominofsModel", "three", "[I", true)
  | 14 => ("DominofsModel", "checkpoints", "I", false)
  | 15 => ("DominofsModel", "until", "[I", true)
  | 16 => ("DominofsModel", "games", "I", false)
  | 17 => ("DominofsModel", "house", "[I", true)
  | 18 => ("DominofsModel", "row", "[I", true)
  | 19 => ("DominofsModel", "hand", "[I", true)
  | 20 => ("DominofsModel", "next", "[I", true)
  | 21 => ("DominofsModel", "turn", "[I", true)
  | 22 => ("DominofsModel", "passes", "[I", true)
  | 23 => ("DominofsModel", "lastLaid", "[I", true)
  | 24 => ("DominofsModel", "line", "[I", true)
  | 25 => ("DominofsModel", "first", "[I", true)
  | 26 => ("DominofsModel", "laid", "[I", true)
  | 27 => ("DominofsModel", "isBlocked", "[Z", true)
  | 28 => ("DominofsModel", "winner", "[I", true)
  | 29 => ("DominofsModel", "ruling", "[I", true)
  | 30 => ("DominofsModel", "appeals", "[I", true)
  | 31 => ("DominofsModel", "over", "[I", true)
  | 32 => ("DominofsModel", "bets", "[I", true)
  | 33 => ("DominofsModel", "better", "[I", true)
  | 34 => ("DominofsModel", "betOn", "[I", true)
  | 35 => ("DominofsModel", "coins", "[I", true)
  | 36 => ("DominofsModel", "paid", "[I", true)
  | 37 => ("DominofsModel", "purse", "[I", true)
  | 38 => ("DominofsModel", "club", "I", false)
  | 39 => ("DominofsModel", "why", "I", false)
  | _ => ("DominofsModel", "whyEnd", "I", false)
def tyX12 : Nat → FieldType := fun k => match k with
  | 0 => .int
  | 1 => .int
  | 2 => .array .int
  | 3 => .array .int
  | 4 => .array .int
  | 5 => .array .boolean
  | 6 => .array .int
  | 7 => .int
  | 8 => .int
  | 9 => .array .int
  | 10 => .array .int
  | 11 => .array .int
  | 12 => .array .int
  | 13 => .array .int
  | 14 => .int
  | 15 => .array .int
  | 16 => .int
  | 17 => .array .int
  | 18 => .array .int
  | 19 => .array .int
  | 20 => .array .int
  | 21 => .array .int
  | 22 => .array .int
  | 23 => .array .int
  | 24 => .array .int
  | 25 => .array .int
  | 26 => .array .int
  | 27 => .array .boolean
  | 28 => .array .int
  | 29 => .array .int
  | 30 => .array .int
  | 31 => .array .int
  | 32 => .array .int
  | 33 => .array .int
  | 34 => .array .int
  | 35 => .array .int
  | 36 => .array .int
  | 37 => .array .int
  | 38 => .int
  | 39 => .int
  | _ => .int
abbrev wsX120 : List Cond := u_ws RX12 TX12 41
theorem nmX12 : ∀ a, a < 41 → ∀ b, b < 41 → a ≠ b → (TX12 a).2.1 ≠ (TX12 b).2.1 := by decide +kernel
theorem tyX12_ok : ∀ k, k < 41 → parseFieldDescriptor (TX12 k).2.2.1 = some (tyX12 k) := by decide +kernel
abbrev cX12_init : ByteArray := prog_14_method_1_code
def yX12_init : MethodName := ⟨RX12, "<init>", "()V"⟩
abbrev cX12_thrown : ByteArray := prog_14_method_2_code
def yX12_thrown : MethodName := ⟨RX12, "thrown", "()I"⟩
abbrev cX12_in : ByteArray := prog_14_method_3_code
def yX12_in : MethodName := ⟨RX12, "in", "(III)Z"⟩
abbrev cX12_manyTiles : ByteArray := prog_14_method_4_code
def yX12_manyTiles : MethodName := ⟨RX12, "manyTiles", "(I)I"⟩
abbrev cX12_isRuling : ByteArray := prog_14_method_5_code
def yX12_isRuling : MethodName := ⟨RX12, "isRuling", "(I)Z"⟩
abbrev cX12_isGame : ByteArray := prog_14_method_6_code
def yX12_isGame : MethodName := ⟨RX12, "isGame", "(I)Z"⟩
abbrev cX12_setOf : ByteArray := prog_14_method_7_code
def yX12_setOf : MethodName := ⟨RX12, "setOf", "(I)I"⟩
abbrev cX12_playersOf : ByteArray := prog_14_method_8_code
def yX12_playersOf : MethodName := ⟨RX12, "playersOf", "(I)I"⟩
abbrev cX12_low : ByteArray := prog_14_method_9_code
def yX12_low : MethodName := ⟨RX12, "low", "(II)I"⟩
abbrev cX12_high : ByteArray := prog_14_method_10_code
def yX12_high : MethodName := ⟨RX12, "high", "(II)I"⟩
abbrev cX12_house : ByteArray := prog_14_method_11_code
def yX12_house : MethodName := ⟨RX12, "house", "(IIIZC)I"⟩
abbrev cX12_enter : ByteArray := prog_14_method_12_code
def yX12_enter : MethodName := ⟨RX12, "enter", "(IIIII)V"⟩
abbrev cX12_does : ByteArray := prog_14_method_13_code
def yX12_does : MethodName := ⟨RX12, "does", "(I)V"⟩
abbrev cX12_begins : ByteArray := prog_14_method_14_code
def yX12_begins : MethodName := ⟨RX12, "begins", "(III)V"⟩
abbrev cX12_endOf : ByteArray := prog_14_method_15_code
def yX12_endOf : MethodName := ⟨RX12, "endOf", "(IZ)I"⟩
abbrev cX12_lays : ByteArray := prog_14_method_16_code
def yX12_lays : MethodName := ⟨RX12, "lays", "(IIZI)V"⟩
abbrev cX12_passesOne : ByteArray := prog_14_method_17_code
def yX12_passesOne : MethodName := ⟨RX12, "passesOne", "(II)V"⟩
abbrev cX12_pipsIn : ByteArray := prog_14_method_18_code
def yX12_pipsIn : MethodName := ⟨RX12, "pipsIn", "(II)I"⟩
abbrev cX12_ruled : ByteArray := prog_14_method_19_code
def yX12_ruled : MethodName := ⟨RX12, "ruled", "(I)I"⟩
abbrev cX12_poolOf : ByteArray := prog_14_method_20_code
def yX12_poolOf : MethodName := ⟨RX12, "poolOf", "(I)I"⟩
abbrev cX12_pays : ByteArray := prog_14_method_21_code
def yX12_pays : MethodName := ⟨RX12, "pays", "(II)V"⟩
abbrev cX12_isFull : ByteArray := prog_14_method_22_code
def yX12_isFull : MethodName := ⟨RX12, "isFull", "()Z"⟩
abbrev cX12_isOverNow : ByteArray := prog_14_method_23_code
def yX12_isOverNow : MethodName := ⟨RX12, "isOverNow", "(I)Z"⟩
abbrev cX12_game : ByteArray := prog_14_method_24_code
def yX12_game : MethodName := ⟨RX12, "game", "(II)I"⟩
abbrev cX12_fitsAt : ByteArray := prog_14_method_25_code
def yX12_fitsAt : MethodName := ⟨RX12, "fitsAt", "(IIZ)Z"⟩
abbrev cX12_has : ByteArray := prog_14_method_26_code
def yX12_has : MethodName := ⟨RX12, "has", "(II)Z"⟩
abbrev cX12_canLay : ByteArray := prog_14_method_27_code
def yX12_canLay : MethodName := ⟨RX12, "canLay", "(I)Z"⟩
abbrev cX12_lay : ByteArray := prog_14_method_28_code
def yX12_lay : MethodName := ⟨RX12, "lay", "(IIZ)Z"⟩
abbrev cX12_canDraw : ByteArray := prog_14_method_29_code
def yX12_canDraw : MethodName := ⟨RX12, "canDraw", "(I)Z"⟩
abbrev cX12_draw : ByteArray := prog_14_method_30_code
def yX12_draw : MethodName := ⟨RX12, "draw", "(I)I"⟩
abbrev cX12_pass : ByteArray := prog_14_method_31_code
def yX12_pass : MethodName := ⟨RX12, "pass", "(I)Z"⟩
abbrev cX12_noGame : ByteArray := prog_14_method_32_code
def yX12_noGame : MethodName := ⟨RX12, "noGame", "(I)Z"⟩
abbrev cX12_mover : ByteArray := prog_14_method_33_code
def yX12_mover : MethodName := ⟨RX12, "mover", "(I)I"⟩
abbrev cX12_hand : ByteArray := prog_14_method_34_code
def yX12_hand : MethodName := ⟨RX12, "hand", "(II)J"⟩
abbrev cX12_stock : ByteArray := prog_14_method_35_code
def yX12_stock : MethodName := ⟨RX12, "stock", "(I)I"⟩
abbrev cX12_end : ByteArray := prog_14_method_36_code
def yX12_end : MethodName := ⟨RX12, "end", "(IZ)I"⟩
abbrev cX12_line : ByteArray := prog_14_method_37_code
def yX12_line : MethodName := ⟨RX12, "line", "(I)I"⟩
abbrev cX12_sign : ByteArray := prog_14_method_38_code
def yX12_sign : MethodName := ⟨RX12, "sign", "(IIZ)C"⟩
abbrev cX12_isOver : ByteArray := prog_14_method_39_code
def yX12_isOver : MethodName := ⟨RX12, "isOver", "(I)Z"⟩
abbrev cX12_isBlocked : ByteArray := prog_14_method_40_code
def yX12_isBlocked : MethodName := ⟨RX12, "isBlocked", "(I)Z"⟩
abbrev cX12_winner : ByteArray := prog_14_method_41_code
def yX12_winner : MethodName := ⟨RX12, "winner", "(I)I"⟩
abbrev cX12_why : ByteArray := prog_14_method_42_code
def yX12_why : MethodName := ⟨RX12, "why", "(I)C"⟩
abbrev cX12_isBetter : ByteArray := prog_14_method_43_code
def yX12_isBetter : MethodName := ⟨RX12, "isBetter", "(I)Z"⟩
abbrev cX12_bet : ByteArray := prog_14_method_44_code
def yX12_bet : MethodName := ⟨RX12, "bet", "(IIII)I"⟩
abbrev cX12_purse : ByteArray := prog_14_method_45_code
def yX12_purse : MethodName := ⟨RX12, "purse", "(I)I"⟩
abbrev cX12_pool : ByteArray := prog_14_method_46_code
def yX12_pool : MethodName := ⟨RX12, "pool", "(I)I"⟩
abbrev cX12_paid : ByteArray := prog_14_method_47_code
def yX12_paid : MethodName := ⟨RX12, "paid", "(II)I"⟩
abbrev cX12_club : ByteArray := prog_14_method_48_code
def yX12_club : MethodName := ⟨RX12, "club", "()I"⟩
abbrev cX12_isKept : ByteArray := prog_14_method_49_code
def yX12_isKept : MethodName := ⟨RX12, "isKept", "(I)Z"⟩
abbrev cX12_appeal : ByteArray := prog_14_method_50_code
def yX12_appeal : MethodName := ⟨RX12, "appeal", "(IC)I"⟩
abbrev cX12_ruling : ByteArray := prog_14_method_51_code
def yX12_ruling : MethodName := ⟨RX12, "ruling", "(I)C"⟩
abbrev cX12_entries : ByteArray := prog_14_method_52_code
def yX12_entries : MethodName := ⟨RX12, "entries", "()I"⟩
abbrev cX12_loose : ByteArray := prog_14_method_53_code
def yX12_loose : MethodName := ⟨RX12, "loose", "()I"⟩
abbrev cX12_noEntry : ByteArray := prog_14_method_54_code
def yX12_noEntry : MethodName := ⟨RX12, "noEntry", "(I)Z"⟩
abbrev cX12_entry : ByteArray := prog_14_method_55_code
def yX12_entry : MethodName := ⟨RX12, "entry", "(I)C"⟩
abbrev cX12_gameOf : ByteArray := prog_14_method_56_code
def yX12_gameOf : MethodName := ⟨RX12, "gameOf", "(I)I"⟩
abbrev cX12_flush : ByteArray := prog_14_method_57_code
def yX12_flush : MethodName := ⟨RX12, "flush", "()I"⟩
abbrev cX12_crash : ByteArray := prog_14_method_58_code
def yX12_crash : MethodName := ⟨RX12, "crash", "()I"⟩
abbrev cX12_checkpoint : ByteArray := prog_14_method_59_code
def yX12_checkpoint : MethodName := ⟨RX12, "checkpoint", "()I"⟩
abbrev cX12_isCheckpoint : ByteArray := prog_14_method_60_code
def yX12_isCheckpoint : MethodName := ⟨RX12, "isCheckpoint", "(I)Z"⟩
abbrev cX12_behind : ByteArray := prog_14_method_61_code
def yX12_behind : MethodName := ⟨RX12, "behind", "(I)I"⟩
abbrev cX12_replay : ByteArray := prog_14_method_62_code
def yX12_replay : MethodName := ⟨RX12, "replay", "(I)J"⟩
abbrev cX12_sumOfAll : ByteArray := prog_14_method_63_code
def yX12_sumOfAll : MethodName := ⟨RX12, "sumOfAll", "()J"⟩
abbrev cX12_checksum : ByteArray := prog_14_method_64_code
def yX12_checksum : MethodName := ⟨RX12, "checksum", "()J"⟩
abbrev cX12_playedShare : ByteArray := prog_14_method_65_code
def yX12_playedShare : MethodName := ⟨RX12, "playedShare", "()F"⟩
abbrev cX12_meanPurse : ByteArray := prog_14_method_66_code
def yX12_meanPurse : MethodName := ⟨RX12, "meanPurse", "()D"⟩
abbrev cX12_isSound : ByteArray := prog_14_method_67_code
def yX12_isSound : MethodName := ⟨RX12, "isSound", "()Z"⟩
def RJx145de : String := "java/io/Serializable"
def TJx145de : u_T := fun k => match k with
  | _ => ("", "", "", false)
def tyJx145de : Nat → FieldType := fun k => match k with
  | _ => .int
abbrev wsJx145de0 : List Cond := u_ws RJx145de TJx145de 0
theorem nmJx145de : ∀ a, a < 0 → ∀ b, b < 0 → a ≠ b → (TJx145de a).2.1 ≠ (TJx145de b).2.1 := by decide +kernel
theorem tyJx145de_ok : ∀ k, k < 0 → parseFieldDescriptor (TJx145de k).2.2.1 = some (tyJx145de k) := by decide +kernel
def RJx8e188 : String := "java/lang/Cloneable"
def TJx8e188 : u_T := fun k => match k with
  | _ => ("", "", "", false)
def tyJx8e188 : Nat → FieldType := fun k => match k with
  | _ => .int
abbrev wsJx8e1880 : List Cond := u_ws RJx8e188 TJx8e188 0
theorem nmJx8e188 : ∀ a, a < 0 → ∀ b, b < 0 → a ≠ b → (TJx8e188 a).2.1 ≠ (TJx8e188 b).2.1 := by decide +kernel
theorem tyJx8e188_ok : ∀ k, k < 0 → parseFieldDescriptor (TJx8e188 k).2.2.1 = some (tyJx8e188 k) := by decide +kernel
def RJ6 : String := "java/lang/Integer"
def TJ6 : u_T := fun k => match k with
  | _ => ("", "", "", false)
def tyJ6 : Nat → FieldType := fun k => match k with
  | _ => .int
abbrev wsJ60 : List Cond := u_ws RJ6 TJ6 0
theorem nmJ6 : ∀ a, a < 0 → ∀ b, b < 0 → a ≠ b → (TJ6 a).2.1 ≠ (TJ6 b).2.1 := by decide +kernel
theorem tyJ6_ok : ∀ k, k < 0 → parseFieldDescriptor (TJ6 k).2.2.1 = some (tyJ6 k) := by decide +kernel
abbrev cJ6_bitCount_0f7a4 : ByteArray := prog_21_method_49_code
def yJ6_bitCount_0f7a4 : MethodName := ⟨RJ6, "bitCount", "(I)I"⟩
def RJxab1ab : String := "java/lang/Iterable"
def TJxab1ab : u_T := fun k => match k with
  | _ => ("", "", "", false)
def tyJxab1ab : Nat → FieldType := fun k => match k with
  | _ => .int
abbrev wsJxab1ab0 : List Cond := u_ws RJxab1ab TJxab1ab 0
theorem nmJxab1ab : ∀ a, a < 0 → ∀ b, b < 0 → a ≠ b → (TJxab1ab a).2.1 ≠ (TJxab1ab b).2.1 := by decide +kernel
theorem tyJxab1ab_ok : ∀ k, k < 0 → parseFieldDescriptor (TJxab1ab k).2.2.1 = some (tyJxab1ab k) := by decide +kernel
def RJ9 : String := "java/lang/Math"
def TJ9 : u_T := fun k => match k with
  | _ => ("", "", "", false)
def tyJ9 : Nat → FieldType := fun k => match k with
  | _ => .int
abbrev wsJ90 : List Cond := u_ws RJ9 TJ9 0
theorem nmJ9 : ∀ a, a < 0 → ∀ b, b < 0 → a ≠ b → (TJ9 a).2.1 ≠ (TJ9 b).2.1 := by decide +kernel
theorem tyJ9_ok : ∀ k, k < 0 → parseFieldDescriptor (TJ9 k).2.2.1 = some (tyJ9 k) := by decide +kernel
abbrev cJ9_max_7cf53 : ByteArray := prog_23_method_65_code
def yJ9_max_7cf53 : MethodName := ⟨RJ9, "max", "(II)I"⟩
abbrev cJ9_min_7cf53 : ByteArray := prog_23_method_69_code
def yJ9_min_7cf53 : MethodName := ⟨RJ9, "min", "(II)I"⟩
def RJ0 : String := "java/lang/String"
def TJ0 : u_T := fun k => match k with
  | _ => ("", "", "", false)
def tyJ0 : Nat → FieldType := fun k => match k with
  | _ => .int
abbrev wsJ00 : List Cond := u_ws RJ0 TJ0 0
theorem nmJ0 : ∀ a, a < 0 → ∀ b, b < 0 → a ≠ b → (TJ0 a).2.1 ≠ (TJ0 b).2.1 := by decide +kernel
theorem tyJ0_ok : ∀ k, k < 0 → parseFieldDescriptor (TJ0 k).2.2.1 = some (tyJ0 k) := by decide +kernel
def RJ10 : String := "java/lang/System"
def TJ10 : u_T := fun k => match k with
  | _ => ("", "", "", false)
def tyJ10 : Nat → FieldType := fun k => match k with
  | _ => .int
abbrev wsJ100 : List Cond := u_ws RJ10 TJ10 0
theorem nmJ10 : ∀ a, a < 0 → ∀ b, b < 0 → a ≠ b → (TJ10 a).2.1 ≠ (TJ10 b).2.1 := by decide +kernel
theorem tyJ10_ok : ∀ k, k < 0 → parseFieldDescriptor (TJ10 k).2.2.1 = some (tyJ10 k) := by decide +kernel
def RJxa1e45 : String := "java/util/AbstractCollection"
def TJxa1e45 : u_T := fun k => match k with
  | _ => ("", "", "", false)
def tyJxa1e45 : Nat → FieldType := fun k => match k with
  | _ => .int
abbrev wsJxa1e450 : List Cond := u_ws RJxa1e45 TJxa1e45 0
theorem nmJxa1e45 : ∀ a, a < 0 → ∀ b, b < 0 → a ≠ b → (TJxa1e45 a).2.1 ≠ (TJxa1e45 b).2.1 := by decide +kernel
theorem tyJxa1e45_ok : ∀ k, k < 0 → parseFieldDescriptor (TJxa1e45 k).2.2.1 = some (tyJxa1e45 k) := by decide +kernel
abbrev cJxa1e45_init_da8c8 : ByteArray := prog_29_method_1_code
def yJxa1e45_init_da8c8 : MethodName := ⟨RJxa1e45, "<init>", "()V"⟩
def RJxc12de : String := "java/util/AbstractList"
def TJxc12de : u_T := fun k => match k with
  | _ => ("", "", "", false)
def tyJxc12de : Nat → FieldType := fun k => match k with
  | _ => .int
abbrev wsJxc12de0 : List Cond := u_ws RJxc12de TJxc12de 0
theorem nmJxc12de : ∀ a, a < 0 → ∀ b, b < 0 → a ≠ b → (TJxc12de a).2.1 ≠ (TJxc12de b).2.1 := by decide +kernel
theorem tyJxc12de_ok : ∀ k, k < 0 → parseFieldDescriptor (TJxc12de k).2.2.1 = some (tyJxc12de k) := by decide +kernel
abbrev cJxc12de_init_da8c8 : ByteArray := prog_30_method_1_code
def yJxc12de_init_da8c8 : MethodName := ⟨RJxc12de, "<init>", "()V"⟩
def RJx4a65c : String := "java/util/ArrayList"
def TJx4a65c : u_T := fun k => match k with
  | 0 => ("java/util/AbstractList", "modCount", "I", false)
  | 1 => ("java/util/ArrayList", "elementData", "[Ljava/lang/Object;", false)
  | _ => ("java/util/ArrayList", "size", "I", false)
def tyJx4a65c : Nat → FieldType := fun k => match k with
  | 0 => .int
  | 1 => .array (.object "java/lang/Object")
  | _ => .int
abbrev wsJx4a65c0 : List Cond := u_ws RJx4a65c TJx4a65c 3
theorem nmJx4a65c : ∀ a, a < 3 → ∀ b, b < 3 → a ≠ b → (TJx4a65c a).2.1 ≠ (TJx4a65c b).2.1 := by decide +kernel
theorem tyJx4a65c_ok : ∀ k, k < 3 → parseFieldDescriptor (TJx4a65c k).2.2.1 = some (tyJx4a65c k) := by decide +kernel
abbrev cJx4a65c_init_da8c8 : ByteArray := prog_31_method_2_code
def yJx4a65c_init_da8c8 : MethodName := ⟨RJx4a65c, "<init>", "()V"⟩
abbrev cJx4a65c_grow_92f84 : ByteArray := prog_31_method_6_code
def yJx4a65c_grow_92f84 : MethodName := ⟨RJx4a65c, "grow", "(I)[Ljava/lang/Object;"⟩
abbrev cJx4a65c_grow_d5877 : ByteArray := prog_31_method_7_code
def yJx4a65c_grow_d5877 : MethodName := ⟨RJx4a65c, "grow", "()[Ljava/lang/Object;"⟩
abbrev cJx4a65c_size_8abf5 : ByteArray := prog_31_method_8_code
def yJx4a65c_size_8abf5 : MethodName := ⟨RJx4a65c, "size", "()I"⟩
abbrev cJx4a65c_elementData_915e3 : ByteArray := prog_31_method_18_code
def yJx4a65c_elementData_915e3 : MethodName := ⟨RJx4a65c, "elementData", "(I)Ljava/lang/Object;"⟩
abbrev cJx4a65c_get_915e3 : ByteArray := prog_31_method_20_code
def yJx4a65c_get_915e3 : MethodName := ⟨RJx4a65c, "get", "(I)Ljava/lang/Object;"⟩
abbrev cJx4a65c_add_72be8 : ByteArray := prog_31_method_24_code
def yJx4a65c_add_72be8 : MethodName := ⟨RJx4a65c, "add", "(Ljava/lang/Object;[Ljava/lang/Object;I)V"⟩
abbrev cJx4a65c_add_9ea2d : ByteArray := prog_31_method_25_code
def yJx4a65c_add_9ea2d : MethodName := ⟨RJx4a65c, "add", "(Ljava/lang/Object;)Z"⟩
abbrev cJx4a65c_remove_915e3 : ByteArray := prog_31_method_29_code
def yJx4a65c_remove_915e3 : MethodName := ⟨RJx4a65c, "remove", "(I)Ljava/lang/Object;"⟩
abbrev cJx4a65c_fastRemove_b59b0 : ByteArray := prog_31_method_39_code
def yJx4a65c_fastRemove_b59b0 : MethodName := ⟨RJx4a65c, "fastRemove", "([Ljava/lang/Object;I)V"⟩
def RJ7 : String := "java/util/Arrays"
def TJ7 : u_T := fun k => match k with
  | _ => ("", "", "", false)
def tyJ7 : Nat → FieldType := fun k => match k with
  | _ => .int
abbrev wsJ70 : List Cond := u_ws RJ7 TJ7 0
theorem nmJ7 : ∀ a, a < 0 → ∀ b, b < 0 → a ≠ b → (TJ7 a).2.1 ≠ (TJ7 b).2.1 := by decide +kernel
theorem tyJ7_ok : ∀ k, k < 0 → parseFieldDescriptor (TJ7 k).2.2.1 = some (tyJ7 k) := by decide +kernel
abbrev cJ7_copyOf_1904c : ByteArray := prog_32_method_119_code
def yJ7_copyOf_1904c : MethodName := ⟨RJ7, "copyOf", "([Ljava/lang/Object;I)[Ljava/lang/Object;"⟩
abbrev cJ7_copyOf_6403c : ByteArray := prog_32_method_120_code
def yJ7_copyOf_6403c : MethodName := ⟨RJ7, "copyOf", "([Ljava/lang/Object;ILjava/lang/Class;)[Ljava/lang/Object;"⟩
def RJx5ef63 : String := "java/util/Collection"
def TJx5ef63 : u_T := fun k => match k with
  | _ => ("", "", "", false)
def tyJx5ef63 : Nat → FieldType := fun k => match k with
  | _ => .int
abbrev wsJx5ef630 : List Cond := u_ws RJx5ef63 TJx5ef63 0
theorem nmJx5ef63 : ∀ a, a < 0 → ∀ b, b < 0 → a ≠ b → (TJx5ef63 a).2.1 ≠ (TJx5ef63 b).2.1 := by decide +kernel
theorem tyJx5ef63_ok : ∀ k, k < 0 → parseFieldDescriptor (TJx5ef63 k).2.2.1 = some (tyJx5ef63 k) := by decide +kernel
def RJxbd725 : String := "java/util/List"
def TJxbd725 : u_T := fun k => match k with
  | _ => ("", "", "", false)
def tyJxbd725 : Nat → FieldType := fun k => match k with
  | _ => .int
abbrev wsJxbd7250 : List Cond := u_ws RJxbd725 TJxbd725 0
theorem nmJxbd725 : ∀ a, a < 0 → ∀ b, b < 0 → a ≠ b → (TJxbd725 a).2.1 ≠ (TJxbd725 b).2.1 := by decide +kernel
theorem tyJxbd725_ok : ∀ k, k < 0 → parseFieldDescriptor (TJxbd725 k).2.2.1 = some (tyJxbd725 k) := by decide +kernel
def RJ15 : String := "java/util/Objects"
def TJ15 : u_T := fun k => match k with
  | _ => ("", "", "", false)
def tyJ15 : Nat → FieldType := fun k => match k with
  | _ => .int
abbrev wsJ150 : List Cond := u_ws RJ15 TJ15 0
theorem nmJ15 : ∀ a, a < 0 → ∀ b, b < 0 → a ≠ b → (TJ15 a).2.1 ≠ (TJ15 b).2.1 := by decide +kernel
theorem tyJ15_ok : ∀ k, k < 0 → parseFieldDescriptor (TJ15 k).2.2.1 = some (tyJ15 k) := by decide +kernel
abbrev cJ15_checkIndex_7cf53 : ByteArray := prog_36_method_17_code
def yJ15_checkIndex_7cf53 : MethodName := ⟨RJ15, "checkIndex", "(II)I"⟩
def RJxf0a74 : String := "java/util/RandomAccess"
def TJxf0a74 : u_T := fun k => match k with
  | _ => ("", "", "", false)
def tyJxf0a74 : Nat → FieldType := fun k => match k with
  | _ => .int
abbrev wsJxf0a740 : List Cond := u_ws RJxf0a74 TJxf0a74 0
theorem nmJxf0a74 : ∀ a, a < 0 → ∀ b, b < 0 → a ≠ b → (TJxf0a74 a).2.1 ≠ (TJxf0a74 b).2.1 := by decide +kernel
theorem tyJxf0a74_ok : ∀ k, k < 0 → parseFieldDescriptor (TJxf0a74 k).2.2.1 = some (tyJxf0a74 k) := by decide +kernel
def RJxa66e6 : String := "java/util/SequencedCollection"
def TJxa66e6 : u_T := fun k => match k with
  | _ => ("", "", "", false)
def tyJxa66e6 : Nat → FieldType := fun k => match k with
  | _ => .int
abbrev wsJxa66e60 : List Cond := u_ws RJxa66e6 TJxa66e6 0
theorem nmJxa66e6 : ∀ a, a < 0 → ∀ b, b < 0 → a ≠ b → (TJxa66e6 a).2.1 ≠ (TJxa66e6 b).2.1 := by decide +kernel
theorem tyJxa66e6_ok : ∀ k, k < 0 → parseFieldDescriptor (TJxa66e6 k).2.2.1 = some (tyJxa66e6 k) := by decide +kernel
def RJ8 : String := "jdk/internal/util/ArraysSupport"
def TJ8 : u_T := fun k => match k with
  | _ => ("", "", "", false)
def tyJ8 : Nat → FieldType := fun k => match k with
  | _ => .int
abbrev wsJ80 : List Cond := u_ws RJ8 TJ8 0
theorem nmJ8 : ∀ a, a < 0 → ∀ b, b < 0 → a ≠ b → (TJ8 a).2.1 ≠ (TJ8 b).2.1 := by decide +kernel
theorem tyJ8_ok : ∀ k, k < 0 → parseFieldDescriptor (TJ8 k).2.2.1 = some (tyJ8 k) := by decide +kernel
abbrev cJ8_newLength_cabcc : ByteArray := prog_39_method_27_code
def yJ8_newLength_cabcc : MethodName := ⟨RJ8, "newLength", "(III)I"⟩
abbrev cJ8_hugeLength_7cf53 : ByteArray := prog_39_method_28_code
def yJ8_hugeLength_7cf53 : MethodName := ⟨RJ8, "hugeLength", "(II)I"⟩
def RJ3 : String := "jdk/internal/util/Preconditions"
def TJ3 : u_T := fun k => match k with
  | _ => ("", "", "", false)
def tyJ3 : Nat → FieldType := fun k => match k with
  | _ => .int
abbrev wsJ30 : List Cond := u_ws RJ3 TJ3 0
theorem nmJ3 : ∀ a, a < 0 → ∀ b, b < 0 → a ≠ b → (TJ3 a).2.1 ≠ (TJ3 b).2.1 := by decide +kernel
theorem tyJ3_ok : ∀ k, k < 0 → parseFieldDescriptor (TJ3 k).2.2.1 = some (tyJ3 k) := by decide +kernel
abbrev cJ3_checkIndex_8e157 : ByteArray := prog_40_method_11_code
def yJ3_checkIndex_8e157 : MethodName := ⟨RJ3, "checkIndex", "(IILjava/util/function/BiFunction;)I"⟩
def RL : String := "DominofsLaw"
abbrev cL_house : ByteArray := method_3_code
def yL_house : MethodName := ⟨RL, "house", "(LDominofs;IIIZC[J)I"⟩
abbrev cL_game : ByteArray := method_4_code
def yL_game : MethodName := ⟨RL, "game", "(LDominofs;II[J)I"⟩
abbrev cL_lay : ByteArray := method_5_code
def yL_lay : MethodName := ⟨RL, "lay", "(LDominofs;IIZ[J)I"⟩
abbrev cL_draw : ByteArray := method_6_code
def yL_draw : MethodName := ⟨RL, "draw", "(LDominofs;I[J)I"⟩
abbrev cL_pass : ByteArray := method_7_code
def yL_pass : MethodName := ⟨RL, "pass", "(LDominofs;I[J)I"⟩
abbrev cL_mover : ByteArray := method_8_code
def yL_mover : MethodName := ⟨RL, "mover", "(LDominofs;I[J)I"⟩
abbrev cL_hand : ByteArray := method_9_code
def yL_hand : MethodName := ⟨RL, "hand", "(LDominofs;II[J)I"⟩
abbrev cL_stock : ByteArray := method_10_code
def yL_stock : MethodName := ⟨RL, "stock", "(LDominofs;I[J)I"⟩
abbrev cL_end : ByteArray := method_11_code
def yL_end : MethodName := ⟨RL, "end", "(LDominofs;IZ[J)I"⟩
abbrev cL_line : ByteArray := method_12_code
def yL_line : MethodName := ⟨RL, "line", "(LDominofs;I[J)I"⟩
abbrev cL_sign : ByteArray := method_13_code
def yL_sign : MethodName := ⟨RL, "sign", "(LDominofs;IIZ[J)I"⟩
abbrev cL_isOver : ByteArray := method_14_code
def yL_isOver : MethodName := ⟨RL, "isOver", "(LDominofs;I[J)I"⟩
abbrev cL_isBlocked : ByteArray := method_15_code
def yL_isBlocked : MethodName := ⟨RL, "isBlocked", "(LDominofs;I[J)I"⟩
abbrev cL_winner : ByteArray := method_16_code
def yL_winner : MethodName := ⟨RL, "winner", "(LDominofs;I[J)I"⟩
abbrev cL_why : ByteArray := method_17_code
def yL_why : MethodName := ⟨RL, "why", "(LDominofs;I[J)I"⟩
abbrev cL_bet : ByteArray := method_18_code
def yL_bet : MethodName := ⟨RL, "bet", "(LDominofs;IIII[J)I"⟩
abbrev cL_purse : ByteArray := method_19_code
def yL_purse : MethodName := ⟨RL, "purse", "(LDominofs;I[J)I"⟩
abbrev cL_pool : ByteArray := method_20_code
def yL_pool : MethodName := ⟨RL, "pool", "(LDominofs;I[J)I"⟩
abbrev cL_paid : ByteArray := method_21_code
def yL_paid : MethodName := ⟨RL, "paid", "(LDominofs;II[J)I"⟩
abbrev cL_appeal : ByteArray := method_22_code
def yL_appeal : MethodName := ⟨RL, "appeal", "(LDominofs;IC[J)I"⟩
abbrev cL_ruling : ByteArray := method_23_code
def yL_ruling : MethodName := ⟨RL, "ruling", "(LDominofs;I[J)I"⟩
abbrev cL_entry : ByteArray := method_24_code
def yL_entry : MethodName := ⟨RL, "entry", "(LDominofs;I[J)I"⟩
abbrev cL_gameOf : ByteArray := method_25_code
def yL_gameOf : MethodName := ⟨RL, "gameOf", "(LDominofs;I[J)I"⟩
abbrev cL_checkpoint : ByteArray := method_26_code
def yL_checkpoint : MethodName := ⟨RL, "checkpoint", "(LDominofs;[J)I"⟩
abbrev cL_behind : ByteArray := method_27_code
def yL_behind : MethodName := ⟨RL, "behind", "(LDominofs;I[J)I"⟩
abbrev cL_replay : ByteArray := method_28_code
def yL_replay : MethodName := ⟨RL, "replay", "(LDominofs;I[J)I"⟩
abbrev cL_playedShare : ByteArray := method_29_code
def yL_playedShare : MethodName := ⟨RL, "playedShare", "(LDominofs;[D)I"⟩
abbrev cL_law : ByteArray := code
def yL_law : MethodName := ⟨RL, "law", "([I)Z"⟩
abbrev vwCl : List vw_C := [(RJx4a65c, TJx4a65c, 3), (RX0, TX0, 6), (RX1, TX1, 3), (RX2, TX2, 5), (RX4, TX4, 14), (RX5, TX5, 4), (RX6, TX6, 9), (RX7, TX7, 5), (RX8, TX8, 2), (RX9, TX9, 4), (RX10, TX10, 2), (RX11, TX11, 10), (RX12, TX12, 41)]
