/-! ===== the facts of the printed instructions: words ===== -/
theorem gdc_1 {w : Jvm.Cond} (j : Nat) (h : tables_1_1[j]? = some w) (g : goodWord w = true) : w ∈ lw_gd := by
  have h0 : w ∈ tables_1_1 := List.mem_of_getElem? h
  exact gd_in (List.mem_append_right _ (List.mem_append_left _ h0)) g
theorem gdc_2 {w : Jvm.Cond} (j : Nat) (h : tables_1_2[j]? = some w) (g : goodWord w = true) : w ∈ lw_gd := by
  have h0 : w ∈ tables_1_2 := List.mem_of_getElem? h
  exact gd_in (List.mem_append_right _ (List.mem_append_right _ (List.mem_append_left _ h0))) g
theorem gdc_3 {w : Jvm.Cond} (j : Nat) (h : tables_1_3[j]? = some w) (g : goodWord w = true) : w ∈ lw_gd := by
  have h0 : w ∈ tables_1_3 := List.mem_of_getElem? h
  exact gd_in (List.mem_append_right _ (List.mem_append_right _ (List.mem_append_right _ (List.mem_append_left _ h0)))) g
theorem gdc_4 {w : Jvm.Cond} (j : Nat) (h : tables_1_4[j]? = some w) (g : goodWord w = true) : w ∈ lw_gd := by
  have h0 : w ∈ tables_1_4 := List.mem_of_getElem? h
  exact gd_in (List.mem_append_right _ (List.mem_append_right _ (List.mem_append_right _ (List.mem_append_right _ (List.mem_append_left _ h0))))) g
theorem gdc_5 {w : Jvm.Cond} (j : Nat) (h : tables_1_5[j]? = some w) (g : goodWord w = true) : w ∈ lw_gd := by
  have h0 : w ∈ tables_1_5 := List.mem_of_getElem? h
  exact gd_in (List.mem_append_right _ (List.mem_append_right _ (List.mem_append_right _ (List.mem_append_right _ (List.mem_append_right _ (List.mem_append_left _ h0)))))) g
theorem gdc_6 {w : Jvm.Cond} (j : Nat) (h : tables_1_6[j]? = some w) (g : goodWord w = true) : w ∈ lw_gd := by
  have h0 : w ∈ tables_1_6 := List.mem_of_getElem? h
  exact gd_in (List.mem_append_right _ (List.mem_append_right _ (List.mem_append_right _ (List.mem_append_right _ (List.mem_append_right _ (List.mem_append_right _ (List.mem_append_left _ h0))))))) g
theorem gdc_7 {w : Jvm.Cond} (j : Nat) (h : tables_1_7[j]? = some w) (g : goodWord w = true) : w ∈ lw_gd := by
  have h0 : w ∈ tables_1_7 := List.mem_of_getElem? h
  exact gd_in (List.mem_append_right _ (List.mem_append_right _ (List.mem_append_right _ (List.mem_append_right _ (List.mem_append_right _ (List.mem_append_right _ (List.mem_append_right _ (h0)))))))) g
def nse6 : ByteArray := ⟨#[0x2a, 0x2b, 0xb7, 0x00, 0x0d, 0xb1]⟩
set_option maxRecDepth 4096 in
theorem w_128 : (Jvm.Cond.methodLink "Dominofs$Bets" (3 : Nat) ({ cls := "java/lang/Object", name := "<init>", desc := "()V" } : Jvm.MethodName)) ∈ lw_gd := gdc_1 128 rfl rfl
set_option maxRecDepth 4096 in
theorem w_38 : (Jvm.Cond.instanceMethod ({ cls := "java/lang/Object", name := "<init>", desc := "()V" } : Jvm.MethodName)) ∈ lw_gd := gdc_1 38 rfl rfl
set_option maxRecDepth 4096 in
theorem w_39 : (Jvm.Cond.code ({ cls := "java/lang/Object", name := "<init>", desc := "()V" } : Jvm.MethodName) object_method_1_code (1 : Nat) (Option.none : Option Jvm.ClassFile.FieldType)) ∈ lw_gd := gdc_1 39 rfl rfl
set_option maxRecDepth 4096 in
theorem w_109 : (Jvm.Cond.arrayClass Jvm.ClassFile.FieldType.int) ∈ lw_gd := gdc_1 109 rfl rfl
set_option maxRecDepth 4096 in
theorem w_135 : (Jvm.Cond.fieldLink "Dominofs$Bets" (9 : Nat) "Dominofs$Bets" "betters" "[I") ∈ lw_gd := gdc_1 135 rfl rfl
theorem fk_0_9 : FK "Dominofs$Bets" 9 1 2 := FK_one rfl (rr := (RX0, TX0, 6)) rfl (by decide) w_135 (Or.inl rfl)
set_option maxRecDepth 4096 in
theorem w_136 : (Jvm.Cond.fieldLink "Dominofs$Bets" (15 : Nat) "Dominofs$Bets" "players" "[I") ∈ lw_gd := gdc_1 136 rfl rfl
theorem fk_0_15 : FK "Dominofs$Bets" 15 1 3 := FK_one rfl (rr := (RX0, TX0, 6)) rfl (by decide) w_136 (Or.inl rfl)
set_option maxRecDepth 4096 in
theorem w_137 : (Jvm.Cond.fieldLink "Dominofs$Bets" (18 : Nat) "Dominofs$Bets" "stakes" "[I") ∈ lw_gd := gdc_1 137 rfl rfl
theorem fk_0_18 : FK "Dominofs$Bets" 18 1 4 := FK_one rfl (rr := (RX0, TX0, 6)) rfl (by decide) w_137 (Or.inl rfl)
set_option maxRecDepth 4096 in
theorem w_138 : (Jvm.Cond.fieldLink "Dominofs$Bets" (21 : Nat) "Dominofs$Bets" "payments" "[I") ∈ lw_gd := gdc_1 138 rfl rfl
theorem fk_0_21 : FK "Dominofs$Bets" 21 1 5 := FK_one rfl (rr := (RX0, TX0, 6)) rfl (by decide) w_138 (Or.inl rfl)
set_option maxRecDepth 4096 in
theorem w_129 : (Jvm.Cond.fieldLink "Dominofs$Bets" (24 : Nat) "Dominofs$Bets" "count" "I") ∈ lw_gd := gdc_1 129 rfl rfl
theorem fk_0_24 : FK "Dominofs$Bets" 24 1 0 := FK_one rfl (rr := (RX0, TX0, 6)) rfl (by decide) w_129 (Or.inl rfl)
set_option maxRecDepth 4096 in
theorem w_132 : (Jvm.Cond.fieldLink "Dominofs$Bets" (28 : Nat) "Dominofs$Bets" "coins" "I") ∈ lw_gd := gdc_1 132 rfl rfl
theorem fk_0_28 : FK "Dominofs$Bets" 28 1 1 := FK_one rfl (rr := (RX0, TX0, 6)) rfl (by decide) w_132 (Or.inl rfl)
set_option maxRecDepth 4096 in
theorem w_322 : (Jvm.Cond.methodLink "Dominofs$Bets" (31 : Nat) ({ cls := "java/lang/System", name := "arraycopy", desc := "(Ljava/lang/Object;ILjava/lang/Object;II)V" } : Jvm.MethodName)) ∈ lw_gd := gdc_2 82 rfl rfl
set_option maxRecDepth 4096 in
theorem w_296 : (Jvm.Cond.native ({ cls := "java/lang/System", name := "arraycopy", desc := "(Ljava/lang/Object;ILjava/lang/Object;II)V" } : Jvm.MethodName)) ∈ lw_gd := gdc_2 56 rfl rfl
set_option maxRecDepth 4096 in
theorem w_295 : (Jvm.Cond.static ({ cls := "java/lang/System", name := "arraycopy", desc := "(Ljava/lang/Object;ILjava/lang/Object;II)V" } : Jvm.MethodName)) ∈ lw_gd := gdc_2 55 rfl rfl
set_option maxRecDepth 4096 in
theorem w_18 : (Jvm.Cond.initialized "java/lang/System") ∈ lw_gd := gdc_1 18 rfl rfl
set_option maxRecDepth 4096 in
theorem w_478 : (Jvm.Cond.methodLink "Dominofs$Bets" (37 : Nat) ({ cls := "Dominofs$Bets", name := "coinsOn", desc := "(I)I" } : Jvm.MethodName)) ∈ lw_gd := gdc_2 238 rfl rfl
set_option maxRecDepth 4096 in
theorem w_481 : (Jvm.Cond.code ({ cls := "Dominofs$Bets", name := "coinsOn", desc := "(I)I" } : Jvm.MethodName) prog_2_method_10_code (4 : Nat) (Option.some Jvm.ClassFile.FieldType.int)) ∈ lw_gd := gdc_3 1 rfl rfl
set_option maxRecDepth 4096 in
theorem w_8 : (Jvm.Cond.initialized "Dominofs$Bets") ∈ lw_gd := gdc_1 8 rfl rfl
theorem ms_10 : MS mi_10 := ⟨(List.mem_filter.mp w_481).1, w_8, by decide +kernel, ⟨by decide +kernel, by decide +kernel⟩, Nat.le_of_ble_eq_true rfl⟩
set_option maxRecDepth 4096 in
theorem w_480 : (Jvm.Cond.instanceMethod ({ cls := "Dominofs$Bets", name := "coinsOn", desc := "(I)I" } : Jvm.MethodName)) ∈ lw_gd := gdc_3 0 rfl rfl
theorem ws_10 : Jvm.Cond.selects "Dominofs$Bets" ({ cls := "Dominofs$Bets", name := "coinsOn", desc := "(I)I" } : MethodName) ({ cls := "Dominofs$Bets", name := "coinsOn", desc := "(I)I" } : MethodName) ∈ lw_gd := gd_s 10 rfl rfl
theorem mk_1_10 : MK 1 10 1 mi_10 := ⟨mt_10, ms_10, by decide +kernel, ⟨w_480, ws_10, rfl⟩⟩
set_option maxRecDepth 4096 in
theorem w_1092 : (Jvm.Cond.methodLink "Dominofs$BlockAppealed" (1 : Nat) ({ cls := "Dominofs$Entry", name := "<init>", desc := "(CI)V" } : Jvm.MethodName)) ∈ lw_gd := gdc_5 132 rfl rfl
set_option maxRecDepth 4096 in
theorem w_764 : (Jvm.Cond.code ({ cls := "Dominofs$Entry", name := "<init>", desc := "(CI)V" } : Jvm.MethodName) prog_5_method_1_code (3 : Nat) (Option.none : Option Jvm.ClassFile.FieldType)) ∈ lw_gd := gdc_4 44 rfl rfl
set_option maxRecDepth 4096 in
theorem w_20 : (Jvm.Cond.initialized "Dominofs$Entry") ∈ lw_gd := gdc_1 20 rfl rfl
theorem ms_15 : MS mi_15 := ⟨(List.mem_filter.mp w_764).1, w_20, by decide +kernel, ⟨by decide +kernel, by decide +kernel⟩, Nat.le_of_ble_eq_true rfl⟩
set_option maxRecDepth 4096 in
theorem w_763 : (Jvm.Cond.instanceMethod ({ cls := "Dominofs$Entry", name := "<init>", desc := "(CI)V" } : Jvm.MethodName)) ∈ lw_gd := gdc_4 43 rfl rfl
theorem mk_2_15 : MK 2 15 2 mi_15 := ⟨mt_15, ms_15, by decide +kernel, ⟨w_763, rfl, rfl, rfl⟩⟩
set_option maxRecDepth 4096 in
theorem w_1093 : (Jvm.Cond.fieldLink "Dominofs$BlockAppealed" (7 : Nat) "Dominofs$BlockAppealed" "ruling" "C") ∈ lw_gd := gdc_5 133 rfl rfl
theorem fk_1_7 : FK "Dominofs$BlockAppealed" 7 2 2 := FK_one rfl (rr := (RX1, TX1, 3)) rfl (by decide) w_1093 (Or.inl rfl)
set_option maxRecDepth 4096 in
theorem w_771 : (Jvm.Cond.fieldLink "Dominofs$BlockAppealed" (13 : Nat) "Dominofs$BlockAppealed" "game" "I") ∈ lw_gd := gdc_4 51 rfl rfl
set_option maxRecDepth 4096 in
theorem w_772 : (Jvm.Cond.sameField "Dominofs$BlockAppealed" "Dominofs$Entry" "game" "I") ∈ lw_gd := gdc_4 52 rfl rfl
theorem fk_1_13 : FK "Dominofs$BlockAppealed" 13 2 1 := FK_one rfl (rr := (RX1, TX1, 3)) rfl (by decide) w_771 (Or.inr w_772)
set_option maxRecDepth 4096 in
theorem w_339 : (Jvm.Cond.methodLink "Dominofs$BlockAppealed" (17 : Nat) ({ cls := "Dominofs$Table", name := "gameAt", desc := "(I)LDominofs$Game;" } : Jvm.MethodName)) ∈ lw_gd := gdc_2 99 rfl rfl
set_option maxRecDepth 4096 in
theorem w_342 : (Jvm.Cond.code ({ cls := "Dominofs$Table", name := "gameAt", desc := "(I)LDominofs$Game;" } : Jvm.MethodName) prog_9_method_5_code (2 : Nat) (Option.some (Jvm.ClassFile.FieldType.object "Dominofs$Game"))) ∈ lw_gd := gdc_2 102 rfl rfl
set_option maxRecDepth 4096 in
theorem w_6 : (Jvm.Cond.initialized "Dominofs$Table") ∈ lw_gd := gdc_1 6 rfl rfl
theorem ms_57 : MS mi_57 := ⟨(List.mem_filter.mp w_342).1, w_6, by decide +kernel, ⟨by decide +kernel, by decide +kernel⟩, Nat.le_of_ble_eq_true rfl⟩
set_option maxRecDepth 4096 in
theorem w_340 : (Jvm.Cond.instanceMethod ({ cls := "Dominofs$Table", name := "gameAt", desc := "(I)LDominofs$Game;" } : Jvm.MethodName)) ∈ lw_gd := gdc_2 100 rfl rfl
set_option maxRecDepth 4096 in
theorem w_341 : (Jvm.Cond.selects "Dominofs$Table" ({ cls := "Dominofs$Table", name := "gameAt", desc := "(I)LDominofs$Game;" } : Jvm.MethodName) ({ cls := "Dominofs$Table", name := "gameAt", desc := "(I)LDominofs$Game;" } : Jvm.MethodName)) ∈ lw_gd := gdc_2 101 rfl rfl
theorem mk_1_57 : MK 1 57 1 mi_57 := ⟨mt_57, ms_57, by decide +kernel, ⟨w_340, w_341, rfl⟩⟩
set_option maxRecDepth 4096 in
theorem w_343 : (Jvm.Cond.methodLink "Dominofs$BlockAppealed" (23 : Nat) ({ cls := "Dominofs$Table", name := "takeBack", desc := "(LDominofs$Game;)V" } : Jvm.MethodName)) ∈ lw_gd := gdc_2 103 rfl rfl
set_option maxRecDepth 4096 in
theorem w_346 : (Jvm.Cond.code ({ cls := "Dominofs$Table", name := "takeBack", desc := "(LDominofs$Game;)V" } : Jvm.MethodName) prog_9_method_12_code (2 : Nat) (Option.none : Option Jvm.ClassFile.FieldType)) ∈ lw_gd := gdc_2 106 rfl rfl
theorem ms_64 : MS mi_64 := ⟨(List.mem_filter.mp w_346).1, w_6, by decide +kernel, ⟨by decide +kernel, by decide +kernel⟩, Nat.le_of_ble_eq_true rfl⟩
set_option maxRecDepth 4096 in
theorem w_344 : (Jvm.Cond.instanceMethod ({ cls := "Dominofs$Table", name := "takeBack", desc := "(LDominofs$Game;)V" } : Jvm.MethodName)) ∈ lw_gd := gdc_2 104 rfl rfl
set_option maxRecDepth 4096 in
theorem w_345 : (Jvm.Cond.selects "Dominofs$Table" ({ cls := "Dominofs$Table", name := "takeBack", desc := "(LDominofs$Game;)V" } : Jvm.MethodName) ({ cls := "Dominofs$Table", name := "takeBack", desc := "(LDominofs$Game;)V" } : Jvm.MethodName)) ∈ lw_gd := gdc_2 105 rfl rfl
theorem mk_1_64 : MK 1 64 1 mi_64 := ⟨mt_64, ms_64, by decide +kernel, ⟨w_344, w_345, rfl⟩⟩
set_option maxRecDepth 4096 in
theorem w_367 : (Jvm.Cond.methodLink "Dominofs$BlockAppealed" (27 : Nat) ({ cls := "Dominofs$Game", name := "judge", desc := "(C)V" } : Jvm.MethodName)) ∈ lw_gd := gdc_2 127 rfl rfl
set_option maxRecDepth 4096 in
theorem w_370 : (Jvm.Cond.code ({ cls := "Dominofs$Game", name := "judge", desc := "(C)V" } : Jvm.MethodName) prog_6_method_25_code (2 : Nat) (Option.none : Option Jvm.ClassFile.FieldType)) ∈ lw_gd := gdc_2 130 rfl rfl
set_option maxRecDepth 4096 in
theorem w_7 : (Jvm.Cond.initialized "Dominofs$Game") ∈ lw_gd := gdc_1 7 rfl rfl
theorem ms_40 : MS mi_40 := ⟨(List.mem_filter.mp w_370).1, w_7, by decide +kernel, ⟨by decide +kernel, by decide +kernel⟩, Nat.le_of_ble_eq_true rfl⟩
set_option maxRecDepth 4096 in
theorem w_368 : (Jvm.Cond.instanceMethod ({ cls := "Dominofs$Game", name := "judge", desc := "(C)V" } : Jvm.MethodName)) ∈ lw_gd := gdc_2 128 rfl rfl
set_option maxRecDepth 4096 in
theorem w_369 : (Jvm.Cond.selects "Dominofs$Game" ({ cls := "Dominofs$Game", name := "judge", desc := "(C)V" } : Jvm.MethodName) ({ cls := "Dominofs$Game", name := "judge", desc := "(C)V" } : Jvm.MethodName)) ∈ lw_gd := gdc_2 129 rfl rfl
theorem mk_1_40 : MK 1 40 1 mi_40 := ⟨mt_40, ms_40, by decide +kernel, ⟨w_368, w_369, rfl⟩⟩
set_option maxRecDepth 4096 in
theorem w_1037 : (Jvm.Cond.methodLink "Dominofs$CoinsBet" (1 : Nat) ({ cls := "Dominofs$Entry", name := "<init>", desc := "(CI)V" } : Jvm.MethodName)) ∈ lw_gd := gdc_5 77 rfl rfl
set_option maxRecDepth 4096 in
theorem w_1038 : (Jvm.Cond.fieldLink "Dominofs$CoinsBet" (7 : Nat) "Dominofs$CoinsBet" "better" "I") ∈ lw_gd := gdc_5 78 rfl rfl
theorem fk_2_7 : FK "Dominofs$CoinsBet" 7 3 2 := FK_one rfl (rr := (RX2, TX2, 5)) rfl (by decide) w_1038 (Or.inl rfl)
set_option maxRecDepth 4096 in
theorem w_1039 : (Jvm.Cond.fieldLink "Dominofs$CoinsBet" (13 : Nat) "Dominofs$CoinsBet" "player" "I") ∈ lw_gd := gdc_5 79 rfl rfl
theorem fk_2_13 : FK "Dominofs$CoinsBet" 13 3 3 := FK_one rfl (rr := (RX2, TX2, 5)) rfl (by decide) w_1039 (Or.inl rfl)
set_option maxRecDepth 4096 in
theorem w_1040 : (Jvm.Cond.fieldLink "Dominofs$CoinsBet" (16 : Nat) "Dominofs$CoinsBet" "coins" "I") ∈ lw_gd := gdc_5 80 rfl rfl
theorem fk_2_16 : FK "Dominofs$CoinsBet" 16 3 4 := FK_one rfl (rr := (RX2, TX2, 5)) rfl (by decide) w_1040 (Or.inl rfl)
set_option maxRecDepth 4096 in
theorem w_773 : (Jvm.Cond.fieldLink "Dominofs$CoinsBet" (19 : Nat) "Dominofs$CoinsBet" "game" "I") ∈ lw_gd := gdc_4 53 rfl rfl
set_option maxRecDepth 4096 in
theorem w_774 : (Jvm.Cond.sameField "Dominofs$CoinsBet" "Dominofs$Entry" "game" "I") ∈ lw_gd := gdc_4 54 rfl rfl
theorem fk_2_19 : FK "Dominofs$CoinsBet" 19 3 1 := FK_one rfl (rr := (RX2, TX2, 5)) rfl (by decide) w_773 (Or.inr w_774)
set_option maxRecDepth 4096 in
theorem w_382 : (Jvm.Cond.methodLink "Dominofs$CoinsBet" (22 : Nat) ({ cls := "Dominofs$Table", name := "gameAt", desc := "(I)LDominofs$Game;" } : Jvm.MethodName)) ∈ lw_gd := gdc_2 142 rfl rfl
set_option maxRecDepth 4096 in
theorem w_383 : (Jvm.Cond.methodLink "Dominofs$CoinsBet" (28 : Nat) ({ cls := "Dominofs$Table", name := "putIntoPool", desc := "(LDominofs$Game;III)V" } : Jvm.MethodName)) ∈ lw_gd := gdc_2 143 rfl rfl
set_option maxRecDepth 4096 in
theorem w_386 : (Jvm.Cond.code ({ cls := "Dominofs$Table", name := "putIntoPool", desc := "(LDominofs$Game;III)V" } : Jvm.MethodName) prog_9_method_10_code (5 : Nat) (Option.none : Option Jvm.ClassFile.FieldType)) ∈ lw_gd := gdc_2 146 rfl rfl
theorem ms_62 : MS mi_62 := ⟨(List.mem_filter.mp w_386).1, w_6, by decide +kernel, ⟨by decide +kernel, by decide +kernel⟩, Nat.le_of_ble_eq_true rfl⟩
set_option maxRecDepth 4096 in
theorem w_384 : (Jvm.Cond.instanceMethod ({ cls := "Dominofs$Table", name := "putIntoPool", desc := "(LDominofs$Game;III)V" } : Jvm.MethodName)) ∈ lw_gd := gdc_2 144 rfl rfl
set_option maxRecDepth 4096 in
theorem w_385 : (Jvm.Cond.selects "Dominofs$Table" ({ cls := "Dominofs$Table", name := "putIntoPool", desc := "(LDominofs$Game;III)V" } : Jvm.MethodName) ({ cls := "Dominofs$Table", name := "putIntoPool", desc := "(LDominofs$Game;III)V" } : Jvm.MethodName)) ∈ lw_gd := gdc_2 145 rfl rfl
theorem mk_1_62 : MK 1 62 4 mi_62 := ⟨mt_62, ms_62, by decide +kernel, ⟨w_384, w_385, rfl⟩⟩
set_option maxRecDepth 4096 in
theorem w_765 : (Jvm.Cond.methodLink "Dominofs$Entry" (1 : Nat) ({ cls := "java/lang/Object", name := "<init>", desc := "()V" } : Jvm.MethodName)) ∈ lw_gd := gdc_4 45 rfl rfl
set_option maxRecDepth 4096 in
theorem w_768 : (Jvm.Cond.fieldLink "Dominofs$Entry" (7 : Nat) "Dominofs$Entry" "kind" "C") ∈ lw_gd := gdc_4 48 rfl rfl
theorem fk_3_7 : FK "Dominofs$Entry" 7 50 0 := FK_e w_768 (all6 (fun rr h => by cases h; exact ⟨by decide, rfl, rfl, rfl⟩) (fun rr h => by cases h; exact ⟨by decide, rfl, rfl, rfl⟩) (fun rr h => by cases h; exact ⟨by decide, rfl, rfl, rfl⟩) (fun rr h => by cases h; exact ⟨by decide, rfl, rfl, rfl⟩) (fun rr h => by cases h; exact ⟨by decide, rfl, rfl, rfl⟩) (fun rr h => by cases h; exact ⟨by decide, rfl, rfl, rfl⟩))
set_option maxRecDepth 4096 in
theorem w_770 : (Jvm.Cond.fieldLink "Dominofs$Entry" (13 : Nat) "Dominofs$Entry" "game" "I") ∈ lw_gd := gdc_4 50 rfl rfl
theorem fk_3_13 : FK "Dominofs$Entry" 13 50 1 := FK_e w_770 (all6 (fun rr h => by cases h; exact ⟨by decide, rfl, rfl, rfl⟩) (fun rr h => by cases h; exact ⟨by decide, rfl, rfl, rfl⟩) (fun rr h => by cases h; exact ⟨by decide, rfl, rfl, rfl⟩) (fun rr h => by cases h; exact ⟨by decide, rfl, rfl, rfl⟩) (fun rr h => by cases h; exact ⟨by decide, rfl, rfl, rfl⟩) (fun rr h => by cases h; exact ⟨by decide, rfl, rfl, rfl⟩))
set_option maxRecDepth 4096 in
theorem w_122 : (Jvm.Cond.methodLink "Dominofs$Game" (3 : Nat) ({ cls := "java/lang/Object", name := "<init>", desc := "()V" } : Jvm.MethodName)) ∈ lw_gd := gdc_1 122 rfl rfl
set_option maxRecDepth 4096 in
theorem w_152 : (Jvm.Cond.fieldLink "Dominofs$Game" (9 : Nat) "Dominofs$Game" "house" "LDominofs$House;") ∈ lw_gd := gdc_1 152 rfl rfl
theorem fk_4_9 : FK "Dominofs$Game" 9 4 0 := FK_one rfl (rr := (RX4, TX4, 14)) rfl (by decide) w_152 (Or.inl rfl)
set_option maxRecDepth 4096 in
theorem w_154 : (Jvm.Cond.fieldLink "Dominofs$Game" (15 : Nat) "Dominofs$Game" "order" "[I") ∈ lw_gd := gdc_1 154 rfl rfl
theorem fk_4_15 : FK "Dominofs$Game" 15 4 1 := FK_one rfl (rr := (RX4, TX4, 14)) rfl (by decide) w_154 (Or.inl rfl)
set_option maxRecDepth 4096 in
theorem w_157 : (Jvm.Cond.fieldLink "Dominofs$Game" (19 : Nat) "Dominofs$Game" "hands" "[I") ∈ lw_gd := gdc_1 157 rfl rfl
theorem fk_4_19 : FK "Dominofs$Game" 19 4 3 := FK_one rfl (rr := (RX4, TX4, 14)) rfl (by decide) w_157 (Or.inl rfl)
set_option maxRecDepth 4096 in
theorem w_158 : (Jvm.Cond.fieldLink "Dominofs$Game" (22 : Nat) "Dominofs$Game" "chain" "[I") ∈ lw_gd := gdc_1 158 rfl rfl
theorem fk_4_22 : FK "Dominofs$Game" 22 4 4 := FK_one rfl (rr := (RX4, TX4, 14)) rfl (by decide) w_158 (Or.inl rfl)
set_option maxRecDepth 4096 in
theorem w_123 : (Jvm.Cond.classLink "Dominofs$Game" (25 : Nat) "Dominofs$Bets") ∈ lw_gd := gdc_1 123 rfl rfl
set_option maxRecDepth 4096 in
theorem w_124 : (Jvm.Cond.instantiable "Dominofs$Bets" (6 : Nat)) ∈ lw_gd := gdc_1 124 rfl rfl
set_option maxRecDepth 4096 in
theorem w_125 : (Jvm.Cond.methodLink "Dominofs$Game" (27 : Nat) ({ cls := "Dominofs$Bets", name := "<init>", desc := "()V" } : Jvm.MethodName)) ∈ lw_gd := gdc_1 125 rfl rfl
set_option maxRecDepth 4096 in
theorem w_127 : (Jvm.Cond.code ({ cls := "Dominofs$Bets", name := "<init>", desc := "()V" } : Jvm.MethodName) prog_2_method_1_code (1 : Nat) (Option.none : Option Jvm.ClassFile.FieldType)) ∈ lw_gd := gdc_1 127 rfl rfl
theorem ms_1 : MS mi_1 := ⟨(List.mem_filter.mp w_127).1, w_8, by decide +kernel, ⟨by decide +kernel, by decide +kernel⟩, Nat.le_of_ble_eq_true rfl⟩
set_option maxRecDepth 4096 in
theorem w_126 : (Jvm.Cond.instanceMethod ({ cls := "Dominofs$Bets", name := "<init>", desc := "()V" } : Jvm.MethodName)) ∈ lw_gd := gdc_1 126 rfl rfl
theorem mk_2_1 : MK 2 1 0 mi_1 := ⟨mt_1, ms_1, by decide +kernel, ⟨w_126, rfl, rfl, rfl⟩⟩
set_option maxRecDepth 4096 in
theorem w_174 : (Jvm.Cond.fieldLink "Dominofs$Game" (28 : Nat) "Dominofs$Game" "bets" "LDominofs$Bets;") ∈ lw_gd := gdc_1 174 rfl rfl
theorem fk_4_28 : FK "Dominofs$Game" 28 4 13 := FK_one rfl (rr := (RX4, TX4, 14)) rfl (by decide) w_174 (Or.inl rfl)
set_option maxRecDepth 4096 in
theorem w_402 : (Jvm.Cond.methodLink "Dominofs$Game" (32 : Nat) ({ cls := "Dominofs$Game", name := "shuffle", desc := "(I)V" } : Jvm.MethodName)) ∈ lw_gd := gdc_2 162 rfl rfl
set_option maxRecDepth 4096 in
theorem w_405 : (Jvm.Cond.code ({ cls := "Dominofs$Game", name := "shuffle", desc := "(I)V" } : Jvm.MethodName) prog_6_method_3_code (7 : Nat) (Option.none : Option Jvm.ClassFile.FieldType)) ∈ lw_gd := gdc_2 165 rfl rfl
theorem ms_18 : MS mi_18 := ⟨(List.mem_filter.mp w_405).1, w_7, by decide +kernel, ⟨by decide +kernel, by decide +kernel⟩, Nat.le_of_ble_eq_true rfl⟩
set_option maxRecDepth 4096 in
theorem w_404 : (Jvm.Cond.instanceMethod ({ cls := "Dominofs$Game", name := "shuffle", desc := "(I)V" } : Jvm.MethodName)) ∈ lw_gd := gdc_2 164 rfl rfl
theorem ws_5 : Jvm.Cond.selects "Dominofs$Game" ({ cls := "Dominofs$Game", name := "shuffle", desc := "(I)V" } : MethodName) ({ cls := "Dominofs$Game", name := "shuffle", desc := "(I)V" } : MethodName) ∈ lw_gd := gd_s 5 rfl rfl
theorem mk_1_18 : MK 1 18 1 mi_18 := ⟨mt_18, ms_18, by decide +kernel, ⟨w_404, ws_5, rfl⟩⟩
set_option maxRecDepth 4096 in
theorem w_413 : (Jvm.Cond.methodLink "Dominofs$Game" (36 : Nat) ({ cls := "Dominofs$Game", name := "deal", desc := "()V" } : Jvm.MethodName)) ∈ lw_gd := gdc_2 173 rfl rfl
set_option maxRecDepth 4096 in
theorem w_416 : (Jvm.Cond.code ({ cls := "Dominofs$Game", name := "deal", desc := "()V" } : Jvm.MethodName) prog_6_method_4_code (3 : Nat) (Option.none : Option Jvm.ClassFile.FieldType)) ∈ lw_gd := gdc_2 176 rfl rfl
theorem ms_19 : MS mi_19 := ⟨(List.mem_filter.mp w_416).1, w_7, by decide +kernel, ⟨by decide +kernel, by decide +kernel⟩, Nat.le_of_ble_eq_true rfl⟩
set_option maxRecDepth 4096 in
theorem w_415 : (Jvm.Cond.instanceMethod ({ cls := "Dominofs$Game", name := "deal", desc := "()V" } : Jvm.MethodName)) ∈ lw_gd := gdc_2 175 rfl rfl
theorem ws_6 : Jvm.Cond.selects "Dominofs$Game" ({ cls := "Dominofs$Game", name := "deal", desc := "()V" } : MethodName) ({ cls := "Dominofs$Game", name := "deal", desc := "()V" } : MethodName) ∈ lw_gd := gd_s 6 rfl rfl
theorem mk_1_19 : MK 1 19 0 mi_19 := ⟨mt_19, ms_19, by decide +kernel, ⟨w_415, ws_6, rfl⟩⟩
set_option maxRecDepth 4096 in
theorem w_159 : (Jvm.Cond.fieldLink "Dominofs$Game" (39 : Nat) "Dominofs$Game" "laid" "I") ∈ lw_gd := gdc_1 159 rfl rfl
theorem fk_4_39 : FK "Dominofs$Game" 39 4 5 := FK_one rfl (rr := (RX4, TX4, 14)) rfl (by decide) w_159 (Or.inl rfl)
set_option maxRecDepth 4096 in
theorem w_161 : (Jvm.Cond.fieldLink "Dominofs$Game" (43 : Nat) "Dominofs$Game" "mover" "I") ∈ lw_gd := gdc_1 161 rfl rfl
theorem fk_4_43 : FK "Dominofs$Game" 43 4 6 := FK_one rfl (rr := (RX4, TX4, 14)) rfl (by decide) w_161 (Or.inl rfl)
set_option maxRecDepth 4096 in
theorem w_163 : (Jvm.Cond.fieldLink "Dominofs$Game" (46 : Nat) "Dominofs$Game" "lastLayer" "I") ∈ lw_gd := gdc_1 163 rfl rfl
theorem fk_4_46 : FK "Dominofs$Game" 46 4 7 := FK_one rfl (rr := (RX4, TX4, 14)) rfl (by decide) w_163 (Or.inl rfl)
set_option maxRecDepth 4096 in
theorem w_164 : (Jvm.Cond.fieldLink "Dominofs$Game" (49 : Nat) "Dominofs$Game" "passes" "I") ∈ lw_gd := gdc_1 164 rfl rfl
theorem fk_4_49 : FK "Dominofs$Game" 49 4 8 := FK_one rfl (rr := (RX4, TX4, 14)) rfl (by decide) w_164 (Or.inl rfl)
set_option maxRecDepth 4096 in
theorem w_165 : (Jvm.Cond.fieldLink "Dominofs$Game" (52 : Nat) "Dominofs$Game" "isStuck" "Z") ∈ lw_gd := gdc_1 165 rfl rfl
theorem fk_4_52 : FK "Dominofs$Game" 52 4 9 := FK_one rfl (rr := (RX4, TX4, 14)) rfl (by decide) w_165 (Or.inl rfl)
set_option maxRecDepth 4096 in
theorem w_167 : (Jvm.Cond.fieldLink "Dominofs$Game" (56 : Nat) "Dominofs$Game" "winner" "I") ∈ lw_gd := gdc_1 167 rfl rfl
theorem fk_4_56 : FK "Dominofs$Game" 56 4 10 := FK_one rfl (rr := (RX4, TX4, 14)) rfl (by decide) w_167 (Or.inl rfl)
set_option maxRecDepth 4096 in
theorem w_83 : (Jvm.Cond.fieldLink "Dominofs$Game" (59 : Nat) "Dominofs$House" "ruling" "C") ∈ lw_gd := gdc_1 83 rfl rfl
theorem fk_4_59 : FK "Dominofs$Game" 59 6 4 := FK_one rfl (rr := (RX6, TX6, 9)) rfl (by decide) w_83 (Or.inl rfl)
set_option maxRecDepth 4096 in
theorem w_170 : (Jvm.Cond.fieldLink "Dominofs$Game" (65 : Nat) "Dominofs$Game" "ruling" "C") ∈ lw_gd := gdc_1 170 rfl rfl
theorem fk_4_65 : FK "Dominofs$Game" 65 4 11 := FK_one rfl (rr := (RX4, TX4, 14)) rfl (by decide) w_170 (Or.inl rfl)
set_option maxRecDepth 4096 in
theorem w_172 : (Jvm.Cond.fieldLink "Dominofs$Game" (66 : Nat) "Dominofs$Game" "appeals" "I") ∈ lw_gd := gdc_1 172 rfl rfl
theorem fk_4_66 : FK "Dominofs$Game" 66 4 12 := FK_one rfl (rr := (RX4, TX4, 14)) rfl (by decide) w_172 (Or.inl rfl)
set_option maxRecDepth 4096 in
theorem w_421 : (Jvm.Cond.methodLink "Dominofs$Game" (69 : Nat) ({ cls := "Dominofs$Bets", name := "clear", desc := "()V" } : Jvm.MethodName)) ∈ lw_gd := gdc_2 181 rfl rfl
set_option maxRecDepth 4096 in
theorem w_424 : (Jvm.Cond.code ({ cls := "Dominofs$Bets", name := "clear", desc := "()V" } : Jvm.MethodName) prog_2_method_2_code (1 : Nat) (Option.none : Option Jvm.ClassFile.FieldType)) ∈ lw_gd := gdc_2 184 rfl rfl
theorem ms_2 : MS mi_2 := ⟨(List.mem_filter.mp w_424).1, w_8, by decide +kernel, ⟨by decide +kernel, by decide +kernel⟩, Nat.le_of_ble_eq_true rfl⟩
set_option maxRecDepth 4096 in
theorem w_422 : (Jvm.Cond.instanceMethod ({ cls := "Dominofs$Bets", name := "clear", desc := "()V" } : Jvm.MethodName)) ∈ lw_gd := gdc_2 182 rfl rfl
set_option maxRecDepth 4096 in
theorem w_423 : (Jvm.Cond.selects "Dominofs$Bets" ({ cls := "Dominofs$Bets", name := "clear", desc := "()V" } : Jvm.MethodName) ({ cls := "Dominofs$Bets", name := "clear", desc := "()V" } : Jvm.MethodName)) ∈ lw_gd := gdc_2 183 rfl rfl
theorem mk_1_2 : MK 1 2 0 mi_2 := ⟨mt_2, ms_2, by decide +kernel, ⟨w_422, w_423, rfl⟩⟩
set_option maxRecDepth 4096 in
theorem w_85 : (Jvm.Cond.fieldLink "Dominofs$Game" (72 : Nat) "Dominofs$House" "size" "I") ∈ lw_gd := gdc_1 85 rfl rfl
theorem fk_4_72 : FK "Dominofs$Game" 72 6 5 := FK_one rfl (rr := (RX6, TX6, 9)) rfl (by decide) w_85 (Or.inl rfl)
set_option maxRecDepth 4096 in
theorem w_406 : (Jvm.Cond.methodLink "Dominofs$Game" (75 : Nat) ({ cls := "java/lang/Math", name := "min", desc := "(II)I" } : Jvm.MethodName)) ∈ lw_gd := gdc_2 166 rfl rfl
set_option maxRecDepth 4096 in
theorem w_407 : (Jvm.Cond.static ({ cls := "java/lang/Math", name := "min", desc := "(II)I" } : Jvm.MethodName)) ∈ lw_gd := gdc_2 167 rfl rfl
set_option maxRecDepth 4096 in
theorem w_16 : (Jvm.Cond.initialized "java/lang/Math") ∈ lw_gd := gdc_1 16 rfl rfl
set_option maxRecDepth 4096 in
theorem w_408 : (Jvm.Cond.code ({ cls := "java/lang/Math", name := "min", desc := "(II)I" } : Jvm.MethodName) prog_23_method_69_code (2 : Nat) (Option.some Jvm.ClassFile.FieldType.int)) ∈ lw_gd := gdc_2 168 rfl rfl
set_option maxRecDepth 4096 in
theorem w_409 : (Jvm.Cond.constantLong "Dominofs$Game" (81 : Nat) (1103515245 : Int64)) ∈ lw_gd := gdc_2 169 rfl rfl
set_option maxRecDepth 4096 in
theorem w_410 : (Jvm.Cond.constantLong "Dominofs$Game" (83 : Nat) (12345 : Int64)) ∈ lw_gd := gdc_2 170 rfl rfl
set_option maxRecDepth 4096 in
theorem w_411 : (Jvm.Cond.constantLong "Dominofs$Game" (85 : Nat) (2147483648 : Int64)) ∈ lw_gd := gdc_2 171 rfl rfl
set_option maxRecDepth 4096 in
theorem w_412 : (Jvm.Cond.constantLong "Dominofs$Game" (87 : Nat) (65536 : Int64)) ∈ lw_gd := gdc_2 172 rfl rfl
set_option maxRecDepth 4096 in
theorem w_155 : (Jvm.Cond.fieldLink "Dominofs$Game" (89 : Nat) "Dominofs$Game" "dealt" "I") ∈ lw_gd := gdc_1 155 rfl rfl
theorem fk_4_89 : FK "Dominofs$Game" 89 4 2 := FK_one rfl (rr := (RX4, TX4, 14)) rfl (by decide) w_155 (Or.inl rfl)
set_option maxRecDepth 4096 in
theorem w_77 : (Jvm.Cond.fieldLink "Dominofs$Game" (92 : Nat) "Dominofs$House" "players" "I") ∈ lw_gd := gdc_1 77 rfl rfl
theorem fk_4_92 : FK "Dominofs$Game" 92 6 1 := FK_one rfl (rr := (RX6, TX6, 9)) rfl (by decide) w_77 (Or.inl rfl)
set_option maxRecDepth 4096 in
theorem w_79 : (Jvm.Cond.fieldLink "Dominofs$Game" (95 : Nat) "Dominofs$House" "tiles" "I") ∈ lw_gd := gdc_1 79 rfl rfl
theorem fk_4_95 : FK "Dominofs$Game" 95 6 2 := FK_one rfl (rr := (RX6, TX6, 9)) rfl (by decide) w_79 (Or.inl rfl)
set_option maxRecDepth 4096 in
theorem w_417 : (Jvm.Cond.methodLink "Dominofs$Game" (98 : Nat) ({ cls := "Dominofs$Game", name := "firstOfStock", desc := "()I" } : Jvm.MethodName)) ∈ lw_gd := gdc_2 177 rfl rfl
set_option maxRecDepth 4096 in
theorem w_420 : (Jvm.Cond.code ({ cls := "Dominofs$Game", name := "firstOfStock", desc := "()I" } : Jvm.MethodName) prog_6_method_17_code (1 : Nat) (Option.some Jvm.ClassFile.FieldType.int)) ∈ lw_gd := gdc_2 180 rfl rfl
theorem ms_32 : MS mi_32 := ⟨(List.mem_filter.mp w_420).1, w_7, by decide +kernel, ⟨by decide +kernel, by decide +kernel⟩, Nat.le_of_ble_eq_true rfl⟩
set_option maxRecDepth 4096 in
theorem w_418 : (Jvm.Cond.instanceMethod ({ cls := "Dominofs$Game", name := "firstOfStock", desc := "()I" } : Jvm.MethodName)) ∈ lw_gd := gdc_2 178 rfl rfl
set_option maxRecDepth 4096 in
theorem w_419 : (Jvm.Cond.selects "Dominofs$Game" ({ cls := "Dominofs$Game", name := "firstOfStock", desc := "()I" } : Jvm.MethodName) ({ cls := "Dominofs$Game", name := "firstOfStock", desc := "()I" } : Jvm.MethodName)) ∈ lw_gd := gdc_2 179 rfl rfl
theorem mk_1_32 : MK 1 32 0 mi_32 := ⟨mt_32, ms_32, by decide +kernel, ⟨w_418, w_419, rfl⟩⟩
set_option maxRecDepth 4096 in
theorem w_317 : (Jvm.Cond.methodLink "Dominofs$Game" (102 : Nat) ({ cls := "java/lang/System", name := "arraycopy", desc := "(Ljava/lang/Object;ILjava/lang/Object;II)V" } : Jvm.MethodName)) ∈ lw_gd := gdc_2 77 rfl rfl
set_option maxRecDepth 4096 in
theorem w_318 : (Jvm.Cond.methodLink "Dominofs$Game" (108 : Nat) ({ cls := "Dominofs$Bets", name := "become", desc := "(LDominofs$Bets;)V" } : Jvm.MethodName)) ∈ lw_gd := gdc_2 78 rfl rfl
set_option maxRecDepth 4096 in
theorem w_321 : (Jvm.Cond.code ({ cls := "Dominofs$Bets", name := "become", desc := "(LDominofs$Bets;)V" } : Jvm.MethodName) prog_2_method_3_code (2 : Nat) (Option.none : Option Jvm.ClassFile.FieldType)) ∈ lw_gd := gdc_2 81 rfl rfl
theorem ms_3 : MS mi_3 := ⟨(List.mem_filter.mp w_321).1, w_8, by decide +kernel, ⟨by decide +kernel, by decide +kernel⟩, Nat.le_of_ble_eq_true rfl⟩
set_option maxRecDepth 4096 in
theorem w_319 : (Jvm.Cond.instanceMethod ({ cls := "Dominofs$Bets", name := "become", desc := "(LDominofs$Bets;)V" } : Jvm.MethodName)) ∈ lw_gd := gdc_2 79 rfl rfl
set_option maxRecDepth 4096 in
theorem w_320 : (Jvm.Cond.selects "Dominofs$Bets" ({ cls := "Dominofs$Bets", name := "become", desc := "(LDominofs$Bets;)V" } : Jvm.MethodName) ({ cls := "Dominofs$Bets", name := "become", desc := "(LDominofs$Bets;)V" } : Jvm.MethodName)) ∈ lw_gd := gdc_2 80 rfl rfl
theorem mk_1_3 : MK 1 3 1 mi_3 := ⟨mt_3, ms_3, by decide +kernel, ⟨w_319, w_320, rfl⟩⟩
set_option maxRecDepth 4096 in
theorem w_523 : (Jvm.Cond.methodLink "Dominofs$Game" (112 : Nat) ({ cls := "Dominofs$Game", name := "areTilesLike", desc := "(LDominofs$Game;)Z" } : Jvm.MethodName)) ∈ lw_gd := gdc_3 43 rfl rfl
set_option maxRecDepth 4096 in
theorem w_526 : (Jvm.Cond.code ({ cls := "Dominofs$Game", name := "areTilesLike", desc := "(LDominofs$Game;)Z" } : Jvm.MethodName) prog_6_method_7_code (4 : Nat) (Option.some Jvm.ClassFile.FieldType.boolean)) ∈ lw_gd := gdc_3 46 rfl rfl
theorem ms_22 : MS mi_22 := ⟨(List.mem_filter.mp w_526).1, w_7, by decide +kernel, ⟨by decide +kernel, by decide +kernel⟩, Nat.le_of_ble_eq_true rfl⟩
set_option maxRecDepth 4096 in
theorem w_525 : (Jvm.Cond.instanceMethod ({ cls := "Dominofs$Game", name := "areTilesLike", desc := "(LDominofs$Game;)Z" } : Jvm.MethodName)) ∈ lw_gd := gdc_3 45 rfl rfl
theorem ws_11 : Jvm.Cond.selects "Dominofs$Game" ({ cls := "Dominofs$Game", name := "areTilesLike", desc := "(LDominofs$Game;)Z" } : MethodName) ({ cls := "Dominofs$Game", name := "areTilesLike", desc := "(LDominofs$Game;)Z" } : MethodName) ∈ lw_gd := gd_s 11 rfl rfl
theorem mk_1_22 : MK 1 22 1 mi_22 := ⟨mt_22, ms_22, by decide +kernel, ⟨w_525, ws_11, rfl⟩⟩
set_option maxRecDepth 4096 in
theorem w_527 : (Jvm.Cond.methodLink "Dominofs$Game" (116 : Nat) ({ cls := "Dominofs$Bets", name := "isLike", desc := "(LDominofs$Bets;)Z" } : Jvm.MethodName)) ∈ lw_gd := gdc_3 47 rfl rfl
set_option maxRecDepth 4096 in
theorem w_530 : (Jvm.Cond.code ({ cls := "Dominofs$Bets", name := "isLike", desc := "(LDominofs$Bets;)Z" } : Jvm.MethodName) prog_2_method_4_code (4 : Nat) (Option.some Jvm.ClassFile.FieldType.boolean)) ∈ lw_gd := gdc_3 50 rfl rfl
theorem ms_4 : MS mi_4 := ⟨(List.mem_filter.mp w_530).1, w_8, by decide +kernel, ⟨by decide +kernel, by decide +kernel⟩, Nat.le_of_ble_eq_true rfl⟩
set_option maxRecDepth 4096 in
theorem w_528 : (Jvm.Cond.instanceMethod ({ cls := "Dominofs$Bets", name := "isLike", desc := "(LDominofs$Bets;)Z" } : Jvm.MethodName)) ∈ lw_gd := gdc_3 48 rfl rfl
set_option maxRecDepth 4096 in
theorem w_529 : (Jvm.Cond.selects "Dominofs$Bets" ({ cls := "Dominofs$Bets", name := "isLike", desc := "(LDominofs$Bets;)Z" } : Jvm.MethodName) ({ cls := "Dominofs$Bets", name := "isLike", desc := "(LDominofs$Bets;)Z" } : Jvm.MethodName)) ∈ lw_gd := gdc_3 49 rfl rfl
theorem mk_1_4 : MK 1 4 1 mi_4 := ⟨mt_4, ms_4, by decide +kernel, ⟨w_528, w_529, rfl⟩⟩
set_option maxRecDepth 4096 in
theorem w_496 : (Jvm.Cond.methodLink "Dominofs$Game" (120 : Nat) ({ cls := "Dominofs$Game", name := "handOf", desc := "(I)I" } : Jvm.MethodName)) ∈ lw_gd := gdc_3 16 rfl rfl
set_option maxRecDepth 4096 in
theorem w_499 : (Jvm.Cond.code ({ cls := "Dominofs$Game", name := "handOf", desc := "(I)I" } : Jvm.MethodName) prog_6_method_10_code (2 : Nat) (Option.some Jvm.ClassFile.FieldType.int)) ∈ lw_gd := gdc_3 19 rfl rfl
theorem ms_25 : MS mi_25 := ⟨(List.mem_filter.mp w_499).1, w_7, by decide +kernel, ⟨by decide +kernel, by decide +kernel⟩, Nat.le_of_ble_eq_true rfl⟩
set_option maxRecDepth 4096 in
theorem w_497 : (Jvm.Cond.instanceMethod ({ cls := "Dominofs$Game", name := "handOf", desc := "(I)I" } : Jvm.MethodName)) ∈ lw_gd := gdc_3 17 rfl rfl
set_option maxRecDepth 4096 in
theorem w_498 : (Jvm.Cond.selects "Dominofs$Game" ({ cls := "Dominofs$Game", name := "handOf", desc := "(I)I" } : Jvm.MethodName) ({ cls := "Dominofs$Game", name := "handOf", desc := "(I)I" } : Jvm.MethodName)) ∈ lw_gd := gdc_3 18 rfl rfl
theorem mk_1_25 : MK 1 25 1 mi_25 := ⟨mt_25, ms_25, by decide +kernel, ⟨w_497, w_498, rfl⟩⟩
set_option maxRecDepth 4096 in
theorem w_545 : (Jvm.Cond.methodLink "Dominofs$Game" (124 : Nat) ({ cls := "Dominofs$Game", name := "chainAt", desc := "(I)I" } : Jvm.MethodName)) ∈ lw_gd := gdc_3 65 rfl rfl
set_option maxRecDepth 4096 in
theorem w_548 : (Jvm.Cond.code ({ cls := "Dominofs$Game", name := "chainAt", desc := "(I)I" } : Jvm.MethodName) prog_6_method_13_code (2 : Nat) (Option.some Jvm.ClassFile.FieldType.int)) ∈ lw_gd := gdc_3 68 rfl rfl
theorem ms_28 : MS mi_28 := ⟨(List.mem_filter.mp w_548).1, w_7, by decide +kernel, ⟨by decide +kernel, by decide +kernel⟩, Nat.le_of_ble_eq_true rfl⟩
set_option maxRecDepth 4096 in
theorem w_547 : (Jvm.Cond.instanceMethod ({ cls := "Dominofs$Game", name := "chainAt", desc := "(I)I" } : Jvm.MethodName)) ∈ lw_gd := gdc_3 67 rfl rfl
theorem ws_12 : Jvm.Cond.selects "Dominofs$Game" ({ cls := "Dominofs$Game", name := "chainAt", desc := "(I)I" } : MethodName) ({ cls := "Dominofs$Game", name := "chainAt", desc := "(I)I" } : MethodName) ∈ lw_gd := gd_s 12 rfl rfl
theorem mk_1_28 : MK 1 28 1 mi_28 := ⟨mt_28, ms_28, by decide +kernel, ⟨w_547, ws_12, rfl⟩⟩
set_option maxRecDepth 4096 in
theorem w_845 : (Jvm.Cond.methodLink "Dominofs$Game" (127 : Nat) ({ cls := "Dominofs$Game", name := "numberAt", desc := "(Z)I" } : Jvm.MethodName)) ∈ lw_gd := gdc_4 125 rfl rfl
set_option maxRecDepth 4096 in
theorem w_848 : (Jvm.Cond.code ({ cls := "Dominofs$Game", name := "numberAt", desc := "(Z)I" } : Jvm.MethodName) prog_6_method_12_code (2 : Nat) (Option.some Jvm.ClassFile.FieldType.int)) ∈ lw_gd := gdc_4 128 rfl rfl
theorem ms_27 : MS mi_27 := ⟨(List.mem_filter.mp w_848).1, w_7, by decide +kernel, ⟨by decide +kernel, by decide +kernel⟩, Nat.le_of_ble_eq_true rfl⟩
set_option maxRecDepth 4096 in
theorem w_846 : (Jvm.Cond.instanceMethod ({ cls := "Dominofs$Game", name := "numberAt", desc := "(Z)I" } : Jvm.MethodName)) ∈ lw_gd := gdc_4 126 rfl rfl
set_option maxRecDepth 4096 in
theorem w_847 : (Jvm.Cond.selects "Dominofs$Game" ({ cls := "Dominofs$Game", name := "numberAt", desc := "(Z)I" } : Jvm.MethodName) ({ cls := "Dominofs$Game", name := "numberAt", desc := "(Z)I" } : Jvm.MethodName)) ∈ lw_gd := gdc_4 127 rfl rfl
theorem mk_1_27 : MK 1 27 1 mi_27 := ⟨mt_27, ms_27, by decide +kernel, ⟨w_846, w_847, rfl⟩⟩
set_option maxRecDepth 4096 in
theorem w_849 : (Jvm.Cond.methodLink "Dominofs$Game" (131 : Nat) ({ cls := "Dominofs$House", name := "bearersOf", desc := "(I)I" } : Jvm.MethodName)) ∈ lw_gd := gdc_4 129 rfl rfl
set_option maxRecDepth 4096 in
theorem w_852 : (Jvm.Cond.code ({ cls := "Dominofs$House", name := "bearersOf", desc := "(I)I" } : Jvm.MethodName) prog_8_method_5_code (2 : Nat) (Option.some Jvm.ClassFile.FieldType.int)) ∈ lw_gd := gdc_4 132 rfl rfl
set_option maxRecDepth 4096 in
theorem w_5 : (Jvm.Cond.initialized "Dominofs$House") ∈ lw_gd := gdc_1 5 rfl rfl
theorem ms_50 : MS mi_50 := ⟨(List.mem_filter.mp w_852).1, w_5, by decide +kernel, ⟨by decide +kernel, by decide +kernel⟩, Nat.le_of_ble_eq_true rfl⟩
set_option maxRecDepth 4096 in
theorem w_850 : (Jvm.Cond.instanceMethod ({ cls := "Dominofs$House", name := "bearersOf", desc := "(I)I" } : Jvm.MethodName)) ∈ lw_gd := gdc_4 130 rfl rfl
set_option maxRecDepth 4096 in
theorem w_851 : (Jvm.Cond.selects "Dominofs$House" ({ cls := "Dominofs$House", name := "bearersOf", desc := "(I)I" } : Jvm.MethodName) ({ cls := "Dominofs$House", name := "bearersOf", desc := "(I)I" } : Jvm.MethodName)) ∈ lw_gd := gdc_4 131 rfl rfl
theorem mk_1_50 : MK 1 50 1 mi_50 := ⟨mt_50, ms_50, by decide +kernel, ⟨w_850, w_851, rfl⟩⟩
set_option maxRecDepth 4096 in
theorem w_81 : (Jvm.Cond.fieldLink "Dominofs$Game" (134 : Nat) "Dominofs$House" "areDraws" "Z") ∈ lw_gd := gdc_1 81 rfl rfl
theorem fk_4_134 : FK "Dominofs$Game" 134 6 3 := FK_one rfl (rr := (RX6, TX6, 9)) rfl (by decide) w_81 (Or.inl rfl)
set_option maxRecDepth 4096 in
theorem w_984 : (Jvm.Cond.methodLink "Dominofs$Game" (137 : Nat) ({ cls := "Dominofs$Game", name := "digitAt", desc := "(IZ)C" } : Jvm.MethodName)) ∈ lw_gd := gdc_5 24 rfl rfl
set_option maxRecDepth 4096 in
theorem w_987 : (Jvm.Cond.code ({ cls := "Dominofs$Game", name := "digitAt", desc := "(IZ)C" } : Jvm.MethodName) prog_6_method_19_code (3 : Nat) (Option.some Jvm.ClassFile.FieldType.char)) ∈ lw_gd := gdc_5 27 rfl rfl
theorem ms_34 : MS mi_34 := ⟨(List.mem_filter.mp w_987).1, w_7, by decide +kernel, ⟨by decide +kernel, by decide +kernel⟩, Nat.le_of_ble_eq_true rfl⟩
set_option maxRecDepth 4096 in
theorem w_986 : (Jvm.Cond.instanceMethod ({ cls := "Dominofs$Game", name := "digitAt", desc := "(IZ)C" } : Jvm.MethodName)) ∈ lw_gd := gdc_5 26 rfl rfl
theorem ws_23 : Jvm.Cond.selects "Dominofs$Game" ({ cls := "Dominofs$Game", name := "digitAt", desc := "(IZ)C" } : MethodName) ({ cls := "Dominofs$Game", name := "digitAt", desc := "(IZ)C" } : MethodName) ∈ lw_gd := gd_s 23 rfl rfl
theorem mk_1_34 : MK 1 34 2 mi_34 := ⟨mt_34, ms_34, by decide +kernel, ⟨w_986, ws_23, rfl⟩⟩
set_option maxRecDepth 4096 in
theorem w_441 : (Jvm.Cond.methodLink "Dominofs$Game" (141 : Nat) ({ cls := "Dominofs$House", name := "lowOf", desc := "(I)I" } : Jvm.MethodName)) ∈ lw_gd := gdc_2 201 rfl rfl
set_option maxRecDepth 4096 in
theorem w_444 : (Jvm.Cond.code ({ cls := "Dominofs$House", name := "lowOf", desc := "(I)I" } : Jvm.MethodName) prog_8_method_3_code (2 : Nat) (Option.some Jvm.ClassFile.FieldType.int)) ∈ lw_gd := gdc_2 204 rfl rfl
theorem ms_48 : MS mi_48 := ⟨(List.mem_filter.mp w_444).1, w_5, by decide +kernel, ⟨by decide +kernel, by decide +kernel⟩, Nat.le_of_ble_eq_true rfl⟩
set_option maxRecDepth 4096 in
theorem w_442 : (Jvm.Cond.instanceMethod ({ cls := "Dominofs$House", name := "lowOf", desc := "(I)I" } : Jvm.MethodName)) ∈ lw_gd := gdc_2 202 rfl rfl
set_option maxRecDepth 4096 in
theorem w_443 : (Jvm.Cond.selects "Dominofs$House" ({ cls := "Dominofs$House", name := "lowOf", desc := "(I)I" } : Jvm.MethodName) ({ cls := "Dominofs$House", name := "lowOf", desc := "(I)I" } : Jvm.MethodName)) ∈ lw_gd := gdc_2 203 rfl rfl
theorem mk_1_48 : MK 1 48 1 mi_48 := ⟨mt_48, ms_48, by decide +kernel, ⟨w_442, w_443, rfl⟩⟩
set_option maxRecDepth 4096 in
theorem w_445 : (Jvm.Cond.methodLink "Dominofs$Game" (144 : Nat) ({ cls := "Dominofs$House", name := "highOf", desc := "(I)I" } : Jvm.MethodName)) ∈ lw_gd := gdc_2 205 rfl rfl
set_option maxRecDepth 4096 in
theorem w_448 : (Jvm.Cond.code ({ cls := "Dominofs$House", name := "highOf", desc := "(I)I" } : Jvm.MethodName) prog_8_method_4_code (2 : Nat) (Option.some Jvm.ClassFile.FieldType.int)) ∈ lw_gd := gdc_2 208 rfl rfl
theorem ms_49 : MS mi_49 := ⟨(List.mem_filter.mp w_448).1, w_5, by decide +kernel, ⟨by decide +kernel, by decide +kernel⟩, Nat.le_of_ble_eq_true rfl⟩
set_option maxRecDepth 4096 in
theorem w_446 : (Jvm.Cond.instanceMethod ({ cls := "Dominofs$House", name := "highOf", desc := "(I)I" } : Jvm.MethodName)) ∈ lw_gd := gdc_2 206 rfl rfl
set_option maxRecDepth 4096 in
theorem w_447 : (Jvm.Cond.selects "Dominofs$House" ({ cls := "Dominofs$House", name := "highOf", desc := "(I)I" } : Jvm.MethodName) ({ cls := "Dominofs$House", name := "highOf", desc := "(I)I" } : Jvm.MethodName)) ∈ lw_gd := gdc_2 207 rfl rfl
theorem mk_1_49 : MK 1 49 1 mi_49 := ⟨mt_49, ms_49, by decide +kernel, ⟨w_446, w_447, rfl⟩⟩
set_option maxRecDepth 4096 in
theorem w_449 : (Jvm.Cond.methodLink "Dominofs$Game" (147 : Nat) ({ cls := "Dominofs$Game", name := "addToChain", desc := "(IIZ)V" } : Jvm.MethodName)) ∈ lw_gd := gdc_2 209 rfl rfl
set_option maxRecDepth 4096 in
theorem w_452 : (Jvm.Cond.code ({ cls := "Dominofs$Game", name := "addToChain", desc := "(IIZ)V" } : Jvm.MethodName) prog_6_method_21_code (5 : Nat) (Option.none : Option Jvm.ClassFile.FieldType)) ∈ lw_gd := gdc_2 212 rfl rfl
theorem ms_36 : MS mi_36 := ⟨(List.mem_filter.mp w_452).1, w_7, by decide +kernel, ⟨by decide +kernel, by decide +kernel⟩, Nat.le_of_ble_eq_true rfl⟩
set_option maxRecDepth 4096 in
theorem w_451 : (Jvm.Cond.instanceMethod ({ cls := "Dominofs$Game", name := "addToChain", desc := "(IIZ)V" } : Jvm.MethodName)) ∈ lw_gd := gdc_2 211 rfl rfl
theorem ws_7 : Jvm.Cond.selects "Dominofs$Game" ({ cls := "Dominofs$Game", name := "addToChain", desc := "(IIZ)V" } : MethodName) ({ cls := "Dominofs$Game", name := "addToChain", desc := "(IIZ)V" } : MethodName) ∈ lw_gd := gd_s 7 rfl rfl
theorem mk_1_36 : MK 1 36 3 mi_36 := ⟨mt_36, ms_36, by decide +kernel, ⟨w_451, ws_7, rfl⟩⟩
set_option maxRecDepth 4096 in
theorem w_453 : (Jvm.Cond.methodLink "Dominofs$Game" (151 : Nat) ({ cls := "Dominofs$Game", name := "moveOn", desc := "()V" } : Jvm.MethodName)) ∈ lw_gd := gdc_2 213 rfl rfl
set_option maxRecDepth 4096 in
theorem w_456 : (Jvm.Cond.code ({ cls := "Dominofs$Game", name := "moveOn", desc := "()V" } : Jvm.MethodName) prog_6_method_24_code (1 : Nat) (Option.none : Option Jvm.ClassFile.FieldType)) ∈ lw_gd := gdc_2 216 rfl rfl
theorem ms_39 : MS mi_39 := ⟨(List.mem_filter.mp w_456).1, w_7, by decide +kernel, ⟨by decide +kernel, by decide +kernel⟩, Nat.le_of_ble_eq_true rfl⟩
set_option maxRecDepth 4096 in
theorem w_455 : (Jvm.Cond.instanceMethod ({ cls := "Dominofs$Game", name := "moveOn", desc := "()V" } : Jvm.MethodName)) ∈ lw_gd := gdc_2 215 rfl rfl
theorem ws_8 : Jvm.Cond.selects "Dominofs$Game" ({ cls := "Dominofs$Game", name := "moveOn", desc := "()V" } : MethodName) ({ cls := "Dominofs$Game", name := "moveOn", desc := "()V" } : MethodName) ∈ lw_gd := gd_s 8 rfl rfl
theorem mk_1_39 : MK 1 39 0 mi_39 := ⟨mt_39, ms_39, by decide +kernel, ⟨w_455, ws_8, rfl⟩⟩
set_option maxRecDepth 4096 in
theorem w_371 : (Jvm.Cond.methodLink "Dominofs$Game" (154 : Nat) ({ cls := "Dominofs$Game", name := "ruledWinner", desc := "()I" } : Jvm.MethodName)) ∈ lw_gd := gdc_2 131 rfl rfl
set_option maxRecDepth 4096 in
theorem w_374 : (Jvm.Cond.code ({ cls := "Dominofs$Game", name := "ruledWinner", desc := "()I" } : Jvm.MethodName) prog_6_method_26_code (5 : Nat) (Option.some Jvm.ClassFile.FieldType.int)) ∈ lw_gd := gdc_2 134 rfl rfl
theorem ms_41 : MS mi_41 := ⟨(List.mem_filter.mp w_374).1, w_7, by decide +kernel, ⟨by decide +kernel, by decide +kernel⟩, Nat.le_of_ble_eq_true rfl⟩
set_option maxRecDepth 4096 in
theorem w_373 : (Jvm.Cond.instanceMethod ({ cls := "Dominofs$Game", name := "ruledWinner", desc := "()I" } : Jvm.MethodName)) ∈ lw_gd := gdc_2 133 rfl rfl
theorem ws_4 : Jvm.Cond.selects "Dominofs$Game" ({ cls := "Dominofs$Game", name := "ruledWinner", desc := "()I" } : MethodName) ({ cls := "Dominofs$Game", name := "ruledWinner", desc := "()I" } : MethodName) ∈ lw_gd := gd_s 4 rfl rfl
theorem mk_1_41 : MK 1 41 0 mi_41 := ⟨mt_41, ms_41, by decide +kernel, ⟨w_373, ws_4, rfl⟩⟩
set_option maxRecDepth 4096 in
theorem w_375 : (Jvm.Cond.methodLink "Dominofs$Game" (157 : Nat) ({ cls := "Dominofs$House", name := "pipsOn", desc := "(I)I" } : Jvm.MethodName)) ∈ lw_gd := gdc_2 135 rfl rfl
set_option maxRecDepth 4096 in
theorem w_378 : (Jvm.Cond.code ({ cls := "Dominofs$House", name := "pipsOn", desc := "(I)I" } : Jvm.MethodName) prog_8_method_6_code (4 : Nat) (Option.some Jvm.ClassFile.FieldType.int)) ∈ lw_gd := gdc_2 138 rfl rfl
theorem ms_51 : MS mi_51 := ⟨(List.mem_filter.mp w_378).1, w_5, by decide +kernel, ⟨by decide +kernel, by decide +kernel⟩, Nat.le_of_ble_eq_true rfl⟩
set_option maxRecDepth 4096 in
theorem w_376 : (Jvm.Cond.instanceMethod ({ cls := "Dominofs$House", name := "pipsOn", desc := "(I)I" } : Jvm.MethodName)) ∈ lw_gd := gdc_2 136 rfl rfl
set_option maxRecDepth 4096 in
theorem w_377 : (Jvm.Cond.selects "Dominofs$House" ({ cls := "Dominofs$House", name := "pipsOn", desc := "(I)I" } : Jvm.MethodName) ({ cls := "Dominofs$House", name := "pipsOn", desc := "(I)I" } : Jvm.MethodName)) ∈ lw_gd := gdc_2 137 rfl rfl
theorem mk_1_51 : MK 1 51 1 mi_51 := ⟨mt_51, ms_51, by decide +kernel, ⟨w_376, w_377, rfl⟩⟩
set_option maxRecDepth 4096 in
theorem w_495 : (Jvm.Cond.constantLong "Dominofs$Game" (160 : Nat) (31 : Int64)) ∈ lw_gd := gdc_3 15 rfl rfl
set_option maxRecDepth 4096 in
theorem w_500 : (Jvm.Cond.constantLong "Dominofs$Game" (162 : Nat) (1000003 : Int64)) ∈ lw_gd := gdc_3 20 rfl rfl
set_option maxRecDepth 4096 in
theorem w_539 : (Jvm.Cond.methodLink "Dominofs$Game" (164 : Nat) ({ cls := "java/lang/Integer", name := "bitCount", desc := "(I)I" } : Jvm.MethodName)) ∈ lw_gd := gdc_3 59 rfl rfl
set_option maxRecDepth 4096 in
theorem w_541 : (Jvm.Cond.code ({ cls := "java/lang/Integer", name := "bitCount", desc := "(I)I" } : Jvm.MethodName) prog_21_method_49_code (1 : Nat) (Option.some Jvm.ClassFile.FieldType.int)) ∈ lw_gd := gdc_3 61 rfl rfl
set_option maxRecDepth 4096 in
theorem w_31 : (Jvm.Cond.initialized "java/lang/Integer") ∈ lw_gd := gdc_1 31 rfl rfl
theorem ms_191 : MS mi_191 := ⟨(List.mem_filter.mp w_541).1, w_31, by decide +kernel, ⟨by decide +kernel, by decide +kernel⟩, Nat.le_of_ble_eq_true rfl⟩
set_option maxRecDepth 4096 in
theorem w_540 : (Jvm.Cond.static ({ cls := "java/lang/Integer", name := "bitCount", desc := "(I)I" } : Jvm.MethodName)) ∈ lw_gd := gdc_3 60 rfl rfl
theorem mk_0_191 : MK 0 191 1 mi_191 := ⟨mt_191, ms_191, by decide +kernel, w_540⟩
set_option maxRecDepth 4096 in
theorem w_549 : (Jvm.Cond.methodLink "Dominofs$Game" (169 : Nat) ({ cls := "Dominofs$House", name := "tileWith", desc := "(II)I" } : Jvm.MethodName)) ∈ lw_gd := gdc_3 69 rfl rfl
set_option maxRecDepth 4096 in
theorem w_552 : (Jvm.Cond.code ({ cls := "Dominofs$House", name := "tileWith", desc := "(II)I" } : Jvm.MethodName) prog_8_method_7_code (5 : Nat) (Option.some Jvm.ClassFile.FieldType.int)) ∈ lw_gd := gdc_3 72 rfl rfl
theorem ms_52 : MS mi_52 := ⟨(List.mem_filter.mp w_552).1, w_5, by decide +kernel, ⟨by decide +kernel, by decide +kernel⟩, Nat.le_of_ble_eq_true rfl⟩
set_option maxRecDepth 4096 in
theorem w_550 : (Jvm.Cond.instanceMethod ({ cls := "Dominofs$House", name := "tileWith", desc := "(II)I" } : Jvm.MethodName)) ∈ lw_gd := gdc_3 70 rfl rfl
set_option maxRecDepth 4096 in
theorem w_551 : (Jvm.Cond.selects "Dominofs$House" ({ cls := "Dominofs$House", name := "tileWith", desc := "(II)I" } : Jvm.MethodName) ({ cls := "Dominofs$House", name := "tileWith", desc := "(II)I" } : Jvm.MethodName)) ∈ lw_gd := gdc_3 71 rfl rfl
theorem mk_1_52 : MK 1 52 2 mi_52 := ⟨mt_52, ms_52, by decide +kernel, ⟨w_550, w_551, rfl⟩⟩
set_option maxRecDepth 4096 in
theorem w_762 : (Jvm.Cond.methodLink "Dominofs$GameBegun" (1 : Nat) ({ cls := "Dominofs$Entry", name := "<init>", desc := "(CI)V" } : Jvm.MethodName)) ∈ lw_gd := gdc_4 42 rfl rfl
set_option maxRecDepth 4096 in
theorem w_766 : (Jvm.Cond.fieldLink "Dominofs$GameBegun" (7 : Nat) "Dominofs$GameBegun" "house" "LDominofs$House;") ∈ lw_gd := gdc_4 46 rfl rfl
theorem fk_5_7 : FK "Dominofs$GameBegun" 7 5 2 := FK_one rfl (rr := (RX5, TX5, 4)) rfl (by decide) w_766 (Or.inl rfl)
set_option maxRecDepth 4096 in
theorem w_767 : (Jvm.Cond.fieldLink "Dominofs$GameBegun" (13 : Nat) "Dominofs$GameBegun" "seed" "I") ∈ lw_gd := gdc_4 47 rfl rfl
theorem fk_5_13 : FK "Dominofs$GameBegun" 13 5 3 := FK_one rfl (rr := (RX5, TX5, 4)) rfl (by decide) w_767 (Or.inl rfl)
set_option maxRecDepth 4096 in
theorem w_394 : (Jvm.Cond.methodLink "Dominofs$GameBegun" (17 : Nat) ({ cls := "Dominofs$Table", name := "openGame", desc := "()LDominofs$Game;" } : Jvm.MethodName)) ∈ lw_gd := gdc_2 154 rfl rfl
set_option maxRecDepth 4096 in
theorem w_397 : (Jvm.Cond.code ({ cls := "Dominofs$Table", name := "openGame", desc := "()LDominofs$Game;" } : Jvm.MethodName) prog_9_method_9_code (1 : Nat) (Option.some (Jvm.ClassFile.FieldType.object "Dominofs$Game"))) ∈ lw_gd := gdc_2 157 rfl rfl
theorem ms_61 : MS mi_61 := ⟨(List.mem_filter.mp w_397).1, w_6, by decide +kernel, ⟨by decide +kernel, by decide +kernel⟩, Nat.le_of_ble_eq_true rfl⟩
set_option maxRecDepth 4096 in
theorem w_395 : (Jvm.Cond.instanceMethod ({ cls := "Dominofs$Table", name := "openGame", desc := "()LDominofs$Game;" } : Jvm.MethodName)) ∈ lw_gd := gdc_2 155 rfl rfl
set_option maxRecDepth 4096 in
theorem w_396 : (Jvm.Cond.selects "Dominofs$Table" ({ cls := "Dominofs$Table", name := "openGame", desc := "()LDominofs$Game;" } : Jvm.MethodName) ({ cls := "Dominofs$Table", name := "openGame", desc := "()LDominofs$Game;" } : Jvm.MethodName)) ∈ lw_gd := gdc_2 156 rfl rfl
theorem mk_1_61 : MK 1 61 0 mi_61 := ⟨mt_61, ms_61, by decide +kernel, ⟨w_395, w_396, rfl⟩⟩
set_option maxRecDepth 4096 in
theorem w_398 : (Jvm.Cond.methodLink "Dominofs$GameBegun" (23 : Nat) ({ cls := "Dominofs$Game", name := "begin", desc := "(LDominofs$House;I)V" } : Jvm.MethodName)) ∈ lw_gd := gdc_2 158 rfl rfl
set_option maxRecDepth 4096 in
theorem w_401 : (Jvm.Cond.code ({ cls := "Dominofs$Game", name := "begin", desc := "(LDominofs$House;I)V" } : Jvm.MethodName) prog_6_method_2_code (3 : Nat) (Option.none : Option Jvm.ClassFile.FieldType)) ∈ lw_gd := gdc_2 161 rfl rfl
theorem ms_17 : MS mi_17 := ⟨(List.mem_filter.mp w_401).1, w_7, by decide +kernel, ⟨by decide +kernel, by decide +kernel⟩, Nat.le_of_ble_eq_true rfl⟩
set_option maxRecDepth 4096 in
theorem w_399 : (Jvm.Cond.instanceMethod ({ cls := "Dominofs$Game", name := "begin", desc := "(LDominofs$House;I)V" } : Jvm.MethodName)) ∈ lw_gd := gdc_2 159 rfl rfl
set_option maxRecDepth 4096 in
theorem w_400 : (Jvm.Cond.selects "Dominofs$Game" ({ cls := "Dominofs$Game", name := "begin", desc := "(LDominofs$House;I)V" } : Jvm.MethodName) ({ cls := "Dominofs$Game", name := "begin", desc := "(LDominofs$House;I)V" } : Jvm.MethodName)) ∈ lw_gd := gdc_2 160 rfl rfl
theorem mk_1_17 : MK 1 17 2 mi_17 := ⟨mt_17, ms_17, by decide +kernel, ⟨w_399, w_400, rfl⟩⟩
set_option maxRecDepth 4096 in
theorem w_71 : (Jvm.Cond.methodLink "Dominofs$House" (3 : Nat) ({ cls := "java/lang/Object", name := "<init>", desc := "()V" } : Jvm.MethodName)) ∈ lw_gd := gdc_1 71 rfl rfl
set_option maxRecDepth 4096 in
theorem w_75 : (Jvm.Cond.fieldLink "Dominofs$House" (9 : Nat) "Dominofs$House" "pips" "I") ∈ lw_gd := gdc_1 75 rfl rfl
theorem fk_6_9 : FK "Dominofs$House" 9 6 0 := FK_one rfl (rr := (RX6, TX6, 9)) rfl (by decide) w_75 (Or.inl rfl)
set_option maxRecDepth 4096 in
theorem w_76 : (Jvm.Cond.fieldLink "Dominofs$House" (15 : Nat) "Dominofs$House" "players" "I") ∈ lw_gd := gdc_1 76 rfl rfl
theorem fk_6_15 : FK "Dominofs$House" 15 6 1 := FK_one rfl (rr := (RX6, TX6, 9)) rfl (by decide) w_76 (Or.inl rfl)
set_option maxRecDepth 4096 in
theorem w_78 : (Jvm.Cond.fieldLink "Dominofs$House" (18 : Nat) "Dominofs$House" "tiles" "I") ∈ lw_gd := gdc_1 78 rfl rfl
theorem fk_6_18 : FK "Dominofs$House" 18 6 2 := FK_one rfl (rr := (RX6, TX6, 9)) rfl (by decide) w_78 (Or.inl rfl)
set_option maxRecDepth 4096 in
theorem w_80 : (Jvm.Cond.fieldLink "Dominofs$House" (21 : Nat) "Dominofs$House" "areDraws" "Z") ∈ lw_gd := gdc_1 80 rfl rfl
theorem fk_6_21 : FK "Dominofs$House" 21 6 3 := FK_one rfl (rr := (RX6, TX6, 9)) rfl (by decide) w_80 (Or.inl rfl)
set_option maxRecDepth 4096 in
theorem w_82 : (Jvm.Cond.fieldLink "Dominofs$House" (25 : Nat) "Dominofs$House" "ruling" "C") ∈ lw_gd := gdc_1 82 rfl rfl
theorem fk_6_25 : FK "Dominofs$House" 25 6 4 := FK_one rfl (rr := (RX6, TX6, 9)) rfl (by decide) w_82 (Or.inl rfl)
set_option maxRecDepth 4096 in
theorem w_72 : (Jvm.Cond.methodLink "Dominofs$House" (29 : Nat) ({ cls := "Dominofs$House", name := "sizeOfSet", desc := "(I)I" } : Jvm.MethodName)) ∈ lw_gd := gdc_1 72 rfl rfl
set_option maxRecDepth 4096 in
theorem w_74 : (Jvm.Cond.code ({ cls := "Dominofs$House", name := "sizeOfSet", desc := "(I)I" } : Jvm.MethodName) prog_8_method_2_code (1 : Nat) (Option.some Jvm.ClassFile.FieldType.int)) ∈ lw_gd := gdc_1 74 rfl rfl
theorem ms_47 : MS mi_47 := ⟨(List.mem_filter.mp w_74).1, w_5, by decide +kernel, ⟨by decide +kernel, by decide +kernel⟩, Nat.le_of_ble_eq_true rfl⟩
set_option maxRecDepth 4096 in
theorem w_73 : (Jvm.Cond.static ({ cls := "Dominofs$House", name := "sizeOfSet", desc := "(I)I" } : Jvm.MethodName)) ∈ lw_gd := gdc_1 73 rfl rfl
theorem mk_0_47 : MK 0 47 1 mi_47 := ⟨mt_47, ms_47, by decide +kernel, w_73⟩
set_option maxRecDepth 4096 in
theorem w_84 : (Jvm.Cond.fieldLink "Dominofs$House" (33 : Nat) "Dominofs$House" "size" "I") ∈ lw_gd := gdc_1 84 rfl rfl
theorem fk_6_33 : FK "Dominofs$House" 33 6 5 := FK_one rfl (rr := (RX6, TX6, 9)) rfl (by decide) w_84 (Or.inl rfl)
set_option maxRecDepth 4096 in
theorem w_87 : (Jvm.Cond.fieldLink "Dominofs$House" (36 : Nat) "Dominofs$House" "lows" "[I") ∈ lw_gd := gdc_1 87 rfl rfl
theorem fk_6_36 : FK "Dominofs$House" 36 6 6 := FK_one rfl (rr := (RX6, TX6, 9)) rfl (by decide) w_87 (Or.inl rfl)
set_option maxRecDepth 4096 in
theorem w_88 : (Jvm.Cond.fieldLink "Dominofs$House" (40 : Nat) "Dominofs$House" "highs" "[I") ∈ lw_gd := gdc_1 88 rfl rfl
theorem fk_6_40 : FK "Dominofs$House" 40 6 7 := FK_one rfl (rr := (RX6, TX6, 9)) rfl (by decide) w_88 (Or.inl rfl)
set_option maxRecDepth 4096 in
theorem w_89 : (Jvm.Cond.fieldLink "Dominofs$House" (43 : Nat) "Dominofs$House" "bearers" "[I") ∈ lw_gd := gdc_1 89 rfl rfl
theorem fk_6_43 : FK "Dominofs$House" 43 6 8 := FK_one rfl (rr := (RX6, TX6, 9)) rfl (by decide) w_89 (Or.inl rfl)
set_option maxRecDepth 4096 in
theorem w_553 : (Jvm.Cond.methodLink "Dominofs$House" (46 : Nat) ({ cls := "java/lang/Math", name := "min", desc := "(II)I" } : Jvm.MethodName)) ∈ lw_gd := gdc_3 73 rfl rfl
set_option maxRecDepth 4096 in
theorem w_554 : (Jvm.Cond.methodLink "Dominofs$House" (52 : Nat) ({ cls := "java/lang/Math", name := "max", desc := "(II)I" } : Jvm.MethodName)) ∈ lw_gd := gdc_3 74 rfl rfl
set_option maxRecDepth 4096 in
theorem w_555 : (Jvm.Cond.static ({ cls := "java/lang/Math", name := "max", desc := "(II)I" } : Jvm.MethodName)) ∈ lw_gd := gdc_3 75 rfl rfl
set_option maxRecDepth 4096 in
theorem w_556 : (Jvm.Cond.code ({ cls := "java/lang/Math", name := "max", desc := "(II)I" } : Jvm.MethodName) prog_23_method_65_code (2 : Nat) (Option.some Jvm.ClassFile.FieldType.int)) ∈ lw_gd := gdc_3 76 rfl rfl
set_option maxRecDepth 4096 in
theorem w_115 : (Jvm.Cond.methodLink "Dominofs$Table" (3 : Nat) ({ cls := "java/lang/Object", name := "<init>", desc := "()V" } : Jvm.MethodName)) ∈ lw_gd := gdc_1 115 rfl rfl
set_option maxRecDepth 4096 in
theorem w_116 : (Jvm.Cond.classLink "Dominofs$Table" (9 : Nat) "Dominofs$Game") ∈ lw_gd := gdc_1 116 rfl rfl
set_option maxRecDepth 4096 in
theorem w_210 : (Jvm.Cond.fieldLink "Dominofs$Table" (11 : Nat) "Dominofs$Table" "games" "[LDominofs$Game;") ∈ lw_gd := gdc_1 210 rfl rfl
theorem fk_7_11 : FK "Dominofs$Table" 11 7 2 := FK_one rfl (rr := (RX7, TX7, 5)) rfl (by decide) w_210 (Or.inl rfl)
set_option maxRecDepth 4096 in
theorem w_118 : (Jvm.Cond.instantiable "Dominofs$Game" (14 : Nat)) ∈ lw_gd := gdc_1 118 rfl rfl
set_option maxRecDepth 4096 in
theorem w_119 : (Jvm.Cond.methodLink "Dominofs$Table" (17 : Nat) ({ cls := "Dominofs$Game", name := "<init>", desc := "(LDominofs$House;)V" } : Jvm.MethodName)) ∈ lw_gd := gdc_1 119 rfl rfl
set_option maxRecDepth 4096 in
theorem w_121 : (Jvm.Cond.code ({ cls := "Dominofs$Game", name := "<init>", desc := "(LDominofs$House;)V" } : Jvm.MethodName) prog_6_method_1_code (2 : Nat) (Option.none : Option Jvm.ClassFile.FieldType)) ∈ lw_gd := gdc_1 121 rfl rfl
theorem ms_16 : MS mi_16 := ⟨(List.mem_filter.mp w_121).1, w_7, by decide +kernel, ⟨by decide +kernel, by decide +kernel⟩, Nat.le_of_ble_eq_true rfl⟩
set_option maxRecDepth 4096 in
theorem w_120 : (Jvm.Cond.instanceMethod ({ cls := "Dominofs$Game", name := "<init>", desc := "(LDominofs$House;)V" } : Jvm.MethodName)) ∈ lw_gd := gdc_1 120 rfl rfl
theorem mk_2_16 : MK 2 16 1 mi_16 := ⟨mt_16, ms_16, by decide +kernel, ⟨w_120, rfl, rfl, rfl⟩⟩
set_option maxRecDepth 4096 in
theorem w_211 : (Jvm.Cond.fieldLink "Dominofs$Table" (20 : Nat) "Dominofs$Table" "purses" "[I") ∈ lw_gd := gdc_1 211 rfl rfl
theorem fk_7_20 : FK "Dominofs$Table" 20 7 3 := FK_one rfl (rr := (RX7, TX7, 5)) rfl (by decide) w_211 (Or.inl rfl)
set_option maxRecDepth 4096 in
theorem w_206 : (Jvm.Cond.fieldLink "Dominofs$Table" (24 : Nat) "Dominofs$Table" "done" "I") ∈ lw_gd := gdc_1 206 rfl rfl
theorem fk_7_24 : FK "Dominofs$Table" 24 7 0 := FK_one rfl (rr := (RX7, TX7, 5)) rfl (by decide) w_206 (Or.inl rfl)
set_option maxRecDepth 4096 in
theorem w_208 : (Jvm.Cond.fieldLink "Dominofs$Table" (28 : Nat) "Dominofs$Table" "gameCount" "I") ∈ lw_gd := gdc_1 208 rfl rfl
theorem fk_7_28 : FK "Dominofs$Table" 28 7 1 := FK_one rfl (rr := (RX7, TX7, 5)) rfl (by decide) w_208 (Or.inl rfl)
set_option maxRecDepth 4096 in
theorem w_212 : (Jvm.Cond.fieldLink "Dominofs$Table" (31 : Nat) "Dominofs$Table" "clubCoins" "I") ∈ lw_gd := gdc_1 212 rfl rfl
theorem fk_7_31 : FK "Dominofs$Table" 31 7 4 := FK_one rfl (rr := (RX7, TX7, 5)) rfl (by decide) w_212 (Or.inl rfl)
set_option maxRecDepth 4096 in
theorem w_313 : (Jvm.Cond.methodLink "Dominofs$Table" (34 : Nat) ({ cls := "Dominofs$Game", name := "become", desc := "(LDominofs$Game;)V" } : Jvm.MethodName)) ∈ lw_gd := gdc_2 73 rfl rfl
set_option maxRecDepth 4096 in
theorem w_316 : (Jvm.Cond.code ({ cls := "Dominofs$Game", name := "become", desc := "(LDominofs$Game;)V" } : Jvm.MethodName) prog_6_method_5_code (2 : Nat) (Option.none : Option Jvm.ClassFile.FieldType)) ∈ lw_gd := gdc_2 76 rfl rfl
theorem ms_20 : MS mi_20 := ⟨(List.mem_filter.mp w_316).1, w_7, by decide +kernel, ⟨by decide +kernel, by decide +kernel⟩, Nat.le_of_ble_eq_true rfl⟩
set_option maxRecDepth 4096 in
theorem w_314 : (Jvm.Cond.instanceMethod ({ cls := "Dominofs$Game", name := "become", desc := "(LDominofs$Game;)V" } : Jvm.MethodName)) ∈ lw_gd := gdc_2 74 rfl rfl
set_option maxRecDepth 4096 in
theorem w_315 : (Jvm.Cond.selects "Dominofs$Game" ({ cls := "Dominofs$Game", name := "become", desc := "(LDominofs$Game;)V" } : Jvm.MethodName) ({ cls := "Dominofs$Game", name := "become", desc := "(LDominofs$Game;)V" } : Jvm.MethodName)) ∈ lw_gd := gdc_2 75 rfl rfl
theorem mk_1_20 : MK 1 20 1 mi_20 := ⟨mt_20, ms_20, by decide +kernel, ⟨w_314, w_315, rfl⟩⟩
set_option maxRecDepth 4096 in
theorem w_323 : (Jvm.Cond.methodLink "Dominofs$Table" (38 : Nat) ({ cls := "java/lang/System", name := "arraycopy", desc := "(Ljava/lang/Object;ILjava/lang/Object;II)V" } : Jvm.MethodName)) ∈ lw_gd := gdc_2 83 rfl rfl
set_option maxRecDepth 4096 in
theorem w_519 : (Jvm.Cond.methodLink "Dominofs$Table" (44 : Nat) ({ cls := "Dominofs$Game", name := "isLike", desc := "(LDominofs$Game;)Z" } : Jvm.MethodName)) ∈ lw_gd := gdc_3 39 rfl rfl
set_option maxRecDepth 4096 in
theorem w_522 : (Jvm.Cond.code ({ cls := "Dominofs$Game", name := "isLike", desc := "(LDominofs$Game;)Z" } : Jvm.MethodName) prog_6_method_6_code (2 : Nat) (Option.some Jvm.ClassFile.FieldType.boolean)) ∈ lw_gd := gdc_3 42 rfl rfl
theorem ms_21 : MS mi_21 := ⟨(List.mem_filter.mp w_522).1, w_7, by decide +kernel, ⟨by decide +kernel, by decide +kernel⟩, Nat.le_of_ble_eq_true rfl⟩
set_option maxRecDepth 4096 in
theorem w_520 : (Jvm.Cond.instanceMethod ({ cls := "Dominofs$Game", name := "isLike", desc := "(LDominofs$Game;)Z" } : Jvm.MethodName)) ∈ lw_gd := gdc_3 40 rfl rfl
set_option maxRecDepth 4096 in
theorem w_521 : (Jvm.Cond.selects "Dominofs$Game" ({ cls := "Dominofs$Game", name := "isLike", desc := "(LDominofs$Game;)Z" } : Jvm.MethodName) ({ cls := "Dominofs$Game", name := "isLike", desc := "(LDominofs$Game;)Z" } : Jvm.MethodName)) ∈ lw_gd := gdc_3 41 rfl rfl
theorem mk_1_21 : MK 1 21 1 mi_21 := ⟨mt_21, ms_21, by decide +kernel, ⟨w_520, w_521, rfl⟩⟩
set_option maxRecDepth 4096 in
theorem w_333 : (Jvm.Cond.methodLink "Dominofs$Table" (48 : Nat) ({ cls := "Dominofs$Entry", name := "doOn", desc := "(LDominofs$Table;)V" } : Jvm.MethodName)) ∈ lw_gd := gdc_2 93 rfl rfl
set_option maxRecDepth 4096 in
theorem w_338 : (Jvm.Cond.code ({ cls := "Dominofs$BlockAppealed", name := "doOn", desc := "(LDominofs$Table;)V" } : Jvm.MethodName) prog_3_method_2_code (3 : Nat) (Option.none : Option Jvm.ClassFile.FieldType)) ∈ lw_gd := gdc_2 98 rfl rfl
set_option maxRecDepth 4096 in
theorem w_30 : (Jvm.Cond.initialized "Dominofs$BlockAppealed") ∈ lw_gd := gdc_1 30 rfl rfl
theorem ms_12 : MS mi_12 := ⟨(List.mem_filter.mp w_338).1, w_30, by decide +kernel, ⟨by decide +kernel, by decide +kernel⟩, Nat.le_of_ble_eq_true rfl⟩
set_option maxRecDepth 4096 in
theorem w_337 : (Jvm.Cond.instanceMethod ({ cls := "Dominofs$BlockAppealed", name := "doOn", desc := "(LDominofs$Table;)V" } : Jvm.MethodName)) ∈ lw_gd := gdc_2 97 rfl rfl
set_option maxRecDepth 4096 in
theorem w_336 : (Jvm.Cond.selects "Dominofs$BlockAppealed" ({ cls := "Dominofs$Entry", name := "doOn", desc := "(LDominofs$Table;)V" } : Jvm.MethodName) ({ cls := "Dominofs$BlockAppealed", name := "doOn", desc := "(LDominofs$Table;)V" } : Jvm.MethodName)) ∈ lw_gd := gdc_2 96 rfl rfl
set_option maxRecDepth 4096 in
theorem w_381 : (Jvm.Cond.code ({ cls := "Dominofs$CoinsBet", name := "doOn", desc := "(LDominofs$Table;)V" } : Jvm.MethodName) prog_4_method_2_code (3 : Nat) (Option.none : Option Jvm.ClassFile.FieldType)) ∈ lw_gd := gdc_2 141 rfl rfl
set_option maxRecDepth 4096 in
theorem w_29 : (Jvm.Cond.initialized "Dominofs$CoinsBet") ∈ lw_gd := gdc_1 29 rfl rfl
theorem ms_14 : MS mi_14 := ⟨(List.mem_filter.mp w_381).1, w_29, by decide +kernel, ⟨by decide +kernel, by decide +kernel⟩, Nat.le_of_ble_eq_true rfl⟩
set_option maxRecDepth 4096 in
theorem w_380 : (Jvm.Cond.instanceMethod ({ cls := "Dominofs$CoinsBet", name := "doOn", desc := "(LDominofs$Table;)V" } : Jvm.MethodName)) ∈ lw_gd := gdc_2 140 rfl rfl
set_option maxRecDepth 4096 in
theorem w_379 : (Jvm.Cond.selects "Dominofs$CoinsBet" ({ cls := "Dominofs$Entry", name := "doOn", desc := "(LDominofs$Table;)V" } : Jvm.MethodName) ({ cls := "Dominofs$CoinsBet", name := "doOn", desc := "(LDominofs$Table;)V" } : Jvm.MethodName)) ∈ lw_gd := gdc_2 139 rfl rfl
set_option maxRecDepth 4096 in
theorem w_393 : (Jvm.Cond.code ({ cls := "Dominofs$GameBegun", name := "doOn", desc := "(LDominofs$Table;)V" } : Jvm.MethodName) prog_7_method_2_code (3 : Nat) (Option.none : Option Jvm.ClassFile.FieldType)) ∈ lw_gd := gdc_2 153 rfl rfl
set_option maxRecDepth 4096 in
theorem w_21 : (Jvm.Cond.initialized "Dominofs$GameBegun") ∈ lw_gd := gdc_1 21 rfl rfl
theorem ms_45 : MS mi_45 := ⟨(List.mem_filter.mp w_393).1, w_21, by decide +kernel, ⟨by decide +kernel, by decide +kernel⟩, Nat.le_of_ble_eq_true rfl⟩
set_option maxRecDepth 4096 in
theorem w_392 : (Jvm.Cond.instanceMethod ({ cls := "Dominofs$GameBegun", name := "doOn", desc := "(LDominofs$Table;)V" } : Jvm.MethodName)) ∈ lw_gd := gdc_2 152 rfl rfl
set_option maxRecDepth 4096 in
theorem w_391 : (Jvm.Cond.selects "Dominofs$GameBegun" ({ cls := "Dominofs$Entry", name := "doOn", desc := "(LDominofs$Table;)V" } : Jvm.MethodName) ({ cls := "Dominofs$GameBegun", name := "doOn", desc := "(LDominofs$Table;)V" } : Jvm.MethodName)) ∈ lw_gd := gdc_2 151 rfl rfl
set_option maxRecDepth 4096 in
theorem w_427 : (Jvm.Cond.code ({ cls := "Dominofs$TileDrawn", name := "doOn", desc := "(LDominofs$Table;)V" } : Jvm.MethodName) prog_10_method_2_code (3 : Nat) (Option.none : Option Jvm.ClassFile.FieldType)) ∈ lw_gd := gdc_2 187 rfl rfl
set_option maxRecDepth 4096 in
theorem w_26 : (Jvm.Cond.initialized "Dominofs$TileDrawn") ∈ lw_gd := gdc_1 26 rfl rfl
theorem ms_74 : MS mi_74 := ⟨(List.mem_filter.mp w_427).1, w_26, by decide +kernel, ⟨by decide +kernel, by decide +kernel⟩, Nat.le_of_ble_eq_true rfl⟩
set_option maxRecDepth 4096 in
theorem w_426 : (Jvm.Cond.instanceMethod ({ cls := "Dominofs$TileDrawn", name := "doOn", desc := "(LDominofs$Table;)V" } : Jvm.MethodName)) ∈ lw_gd := gdc_2 186 rfl rfl
set_option maxRecDepth 4096 in
theorem w_425 : (Jvm.Cond.selects "Dominofs$TileDrawn" ({ cls := "Dominofs$Entry", name := "doOn", desc := "(LDominofs$Table;)V" } : Jvm.MethodName) ({ cls := "Dominofs$TileDrawn", name := "doOn", desc := "(LDominofs$Table;)V" } : Jvm.MethodName)) ∈ lw_gd := gdc_2 185 rfl rfl
set_option maxRecDepth 4096 in
theorem w_435 : (Jvm.Cond.code ({ cls := "Dominofs$TileLaid", name := "doOn", desc := "(LDominofs$Table;)V" } : Jvm.MethodName) prog_11_method_2_code (3 : Nat) (Option.none : Option Jvm.ClassFile.FieldType)) ∈ lw_gd := gdc_2 195 rfl rfl
set_option maxRecDepth 4096 in
theorem w_25 : (Jvm.Cond.initialized "Dominofs$TileLaid") ∈ lw_gd := gdc_1 25 rfl rfl
theorem ms_76 : MS mi_76 := ⟨(List.mem_filter.mp w_435).1, w_25, by decide +kernel, ⟨by decide +kernel, by decide +kernel⟩, Nat.le_of_ble_eq_true rfl⟩
set_option maxRecDepth 4096 in
theorem w_434 : (Jvm.Cond.instanceMethod ({ cls := "Dominofs$TileLaid", name := "doOn", desc := "(LDominofs$Table;)V" } : Jvm.MethodName)) ∈ lw_gd := gdc_2 194 rfl rfl
set_option maxRecDepth 4096 in
theorem w_433 : (Jvm.Cond.selects "Dominofs$TileLaid" ({ cls := "Dominofs$Entry", name := "doOn", desc := "(LDominofs$Table;)V" } : Jvm.MethodName) ({ cls := "Dominofs$TileLaid", name := "doOn", desc := "(LDominofs$Table;)V" } : Jvm.MethodName)) ∈ lw_gd := gdc_2 193 rfl rfl
set_option maxRecDepth 4096 in
theorem w_459 : (Jvm.Cond.code ({ cls := "Dominofs$TurnPassed", name := "doOn", desc := "(LDominofs$Table;)V" } : Jvm.MethodName) prog_12_method_2_code (3 : Nat) (Option.none : Option Jvm.ClassFile.FieldType)) ∈ lw_gd := gdc_2 219 rfl rfl
set_option maxRecDepth 4096 in
theorem w_27 : (Jvm.Cond.initialized "Dominofs$TurnPassed") ∈ lw_gd := gdc_1 27 rfl rfl
theorem ms_78 : MS mi_78 := ⟨(List.mem_filter.mp w_459).1, w_27, by decide +kernel, ⟨by decide +kernel, by decide +kernel⟩, Nat.le_of_ble_eq_true rfl⟩
set_option maxRecDepth 4096 in
theorem w_458 : (Jvm.Cond.instanceMethod ({ cls := "Dominofs$TurnPassed", name := "doOn", desc := "(LDominofs$Table;)V" } : Jvm.MethodName)) ∈ lw_gd := gdc_2 218 rfl rfl
set_option maxRecDepth 4096 in
theorem w_457 : (Jvm.Cond.selects "Dominofs$TurnPassed" ({ cls := "Dominofs$Entry", name := "doOn", desc := "(LDominofs$Table;)V" } : Jvm.MethodName) ({ cls := "Dominofs$TurnPassed", name := "doOn", desc := "(LDominofs$Table;)V" } : Jvm.MethodName)) ∈ lw_gd := gdc_2 217 rfl rfl
theorem vdo50 : ¬ subc 50 50 = false := by decide
set_option maxRecDepth 4096 in
theorem w_335 : (Jvm.Cond.sameMethod "Dominofs$Entry" "Dominofs$Entry" "doOn" "(LDominofs$Table;)V") ∈ lw_gd := gdc_2 95 rfl rfl
theorem do_7_48 : DOW "Dominofs$Table" 48 := ⟨w_333, w_335, (List.mem_of_getElem? (i := 0) rfl), fun ci hs hr => by rcases sub50 hs hr with rfl | rfl | rfl | rfl | rfl | rfl <;> first | exact ⟨(RX1, TX1, 3), mi_12, rfl, mt_12, ms_12, w_337, w_336, rfl⟩ | exact ⟨(RX2, TX2, 5), mi_14, rfl, mt_14, ms_14, w_380, w_379, rfl⟩ | exact ⟨(RX5, TX5, 4), mi_45, rfl, mt_45, ms_45, w_392, w_391, rfl⟩ | exact ⟨(RX8, TX8, 2), mi_74, rfl, mt_74, ms_74, w_426, w_425, rfl⟩ | exact ⟨(RX9, TX9, 4), mi_76, rfl, mt_76, ms_76, w_434, w_433, rfl⟩ | exact ⟨(RX10, TX10, 2), mi_78, rfl, mt_78, ms_78, w_458, w_457, rfl⟩⟩
set_option maxRecDepth 4096 in
theorem w_781 : (Jvm.Cond.fieldLink "Dominofs$Table" (54 : Nat) "Dominofs$Entry" "game" "I") ∈ lw_gd := gdc_4 61 rfl rfl
theorem fk_7_54 : FK "Dominofs$Table" 54 50 1 := FK_e w_781 (all6 (fun rr h => by cases h; exact ⟨by decide, rfl, rfl, rfl⟩) (fun rr h => by cases h; exact ⟨by decide, rfl, rfl, rfl⟩) (fun rr h => by cases h; exact ⟨by decide, rfl, rfl, rfl⟩) (fun rr h => by cases h; exact ⟨by decide, rfl, rfl, rfl⟩) (fun rr h => by cases h; exact ⟨by decide, rfl, rfl, rfl⟩) (fun rr h => by cases h; exact ⟨by decide, rfl, rfl, rfl⟩))
set_option maxRecDepth 4096 in
theorem w_465 : (Jvm.Cond.methodLink "Dominofs$Table" (57 : Nat) ({ cls := "Dominofs$Table", name := "gameAt", desc := "(I)LDominofs$Game;" } : Jvm.MethodName)) ∈ lw_gd := gdc_2 225 rfl rfl
set_option maxRecDepth 4096 in
theorem w_466 : (Jvm.Cond.methodLink "Dominofs$Table" (61 : Nat) ({ cls := "Dominofs$Game", name := "isDone", desc := "()Z" } : Jvm.MethodName)) ∈ lw_gd := gdc_2 226 rfl rfl
set_option maxRecDepth 4096 in
theorem w_469 : (Jvm.Cond.code ({ cls := "Dominofs$Game", name := "isDone", desc := "()Z" } : Jvm.MethodName) prog_6_method_9_code (1 : Nat) (Option.some Jvm.ClassFile.FieldType.boolean)) ∈ lw_gd := gdc_2 229 rfl rfl
theorem ms_24 : MS mi_24 := ⟨(List.mem_filter.mp w_469).1, w_7, by decide +kernel, ⟨by decide +kernel, by decide +kernel⟩, Nat.le_of_ble_eq_true rfl⟩
set_option maxRecDepth 4096 in
theorem w_467 : (Jvm.Cond.instanceMethod ({ cls := "Dominofs$Game", name := "isDone", desc := "()Z" } : Jvm.MethodName)) ∈ lw_gd := gdc_2 227 rfl rfl
set_option maxRecDepth 4096 in
theorem w_468 : (Jvm.Cond.selects "Dominofs$Game" ({ cls := "Dominofs$Game", name := "isDone", desc := "()Z" } : Jvm.MethodName) ({ cls := "Dominofs$Game", name := "isDone", desc := "()Z" } : Jvm.MethodName)) ∈ lw_gd := gdc_2 228 rfl rfl
theorem mk_1_24 : MK 1 24 0 mi_24 := ⟨mt_24, ms_24, by decide +kernel, ⟨w_467, w_468, rfl⟩⟩
set_option maxRecDepth 4096 in
theorem w_470 : (Jvm.Cond.methodLink "Dominofs$Table" (65 : Nat) ({ cls := "Dominofs$Table", name := "pay", desc := "(LDominofs$Game;)V" } : Jvm.MethodName)) ∈ lw_gd := gdc_2 230 rfl rfl
set_option maxRecDepth 4096 in
theorem w_473 : (Jvm.Cond.code ({ cls := "Dominofs$Table", name := "pay", desc := "(LDominofs$Game;)V" } : Jvm.MethodName) prog_9_method_11_code (2 : Nat) (Option.none : Option Jvm.ClassFile.FieldType)) ∈ lw_gd := gdc_2 233 rfl rfl
theorem ms_63 : MS mi_63 := ⟨(List.mem_filter.mp w_473).1, w_6, by decide +kernel, ⟨by decide +kernel, by decide +kernel⟩, Nat.le_of_ble_eq_true rfl⟩
set_option maxRecDepth 4096 in
theorem w_472 : (Jvm.Cond.instanceMethod ({ cls := "Dominofs$Table", name := "pay", desc := "(LDominofs$Game;)V" } : Jvm.MethodName)) ∈ lw_gd := gdc_2 232 rfl rfl
theorem ws_9 : Jvm.Cond.selects "Dominofs$Table" ({ cls := "Dominofs$Table", name := "pay", desc := "(LDominofs$Game;)V" } : MethodName) ({ cls := "Dominofs$Table", name := "pay", desc := "(LDominofs$Game;)V" } : MethodName) ∈ lw_gd := gd_s 9 rfl rfl
theorem mk_1_63 : MK 1 63 1 mi_63 := ⟨mt_63, ms_63, by decide +kernel, ⟨w_472, ws_9, rfl⟩⟩
set_option maxRecDepth 4096 in
theorem w_363 : (Jvm.Cond.methodLink "Dominofs$Table" (68 : Nat) ({ cls := "Dominofs$Table", name := "addToPurse", desc := "(II)V" } : Jvm.MethodName)) ∈ lw_gd := gdc_2 123 rfl rfl
set_option maxRecDepth 4096 in
theorem w_366 : (Jvm.Cond.code ({ cls := "Dominofs$Table", name := "addToPurse", desc := "(II)V" } : Jvm.MethodName) prog_9_method_7_code (3 : Nat) (Option.none : Option Jvm.ClassFile.FieldType)) ∈ lw_gd := gdc_2 126 rfl rfl
theorem ms_59 : MS mi_59 := ⟨(List.mem_filter.mp w_366).1, w_6, by decide +kernel, ⟨by decide +kernel, by decide +kernel⟩, Nat.le_of_ble_eq_true rfl⟩
set_option maxRecDepth 4096 in
theorem w_365 : (Jvm.Cond.instanceMethod ({ cls := "Dominofs$Table", name := "addToPurse", desc := "(II)V" } : Jvm.MethodName)) ∈ lw_gd := gdc_2 125 rfl rfl
theorem ws_3 : Jvm.Cond.selects "Dominofs$Table" ({ cls := "Dominofs$Table", name := "addToPurse", desc := "(II)V" } : MethodName) ({ cls := "Dominofs$Table", name := "addToPurse", desc := "(II)V" } : MethodName) ∈ lw_gd := gd_s 3 rfl rfl
theorem mk_1_59 : MK 1 59 2 mi_59 := ⟨mt_59, ms_59, by decide +kernel, ⟨w_365, ws_3, rfl⟩⟩
set_option maxRecDepth 4096 in
theorem w_175 : (Jvm.Cond.fieldLink "Dominofs$Table" (72 : Nat) "Dominofs$Game" "bets" "LDominofs$Bets;") ∈ lw_gd := gdc_1 175 rfl rfl
theorem fk_7_72 : FK "Dominofs$Table" 72 4 13 := FK_one rfl (rr := (RX4, TX4, 14)) rfl (by decide) w_175 (Or.inl rfl)
set_option maxRecDepth 4096 in
theorem w_387 : (Jvm.Cond.methodLink "Dominofs$Table" (76 : Nat) ({ cls := "Dominofs$Bets", name := "add", desc := "(III)V" } : Jvm.MethodName)) ∈ lw_gd := gdc_2 147 rfl rfl
set_option maxRecDepth 4096 in
theorem w_390 : (Jvm.Cond.code ({ cls := "Dominofs$Bets", name := "add", desc := "(III)V" } : Jvm.MethodName) prog_2_method_5_code (4 : Nat) (Option.none : Option Jvm.ClassFile.FieldType)) ∈ lw_gd := gdc_2 150 rfl rfl
theorem ms_5 : MS mi_5 := ⟨(List.mem_filter.mp w_390).1, w_8, by decide +kernel, ⟨by decide +kernel, by decide +kernel⟩, Nat.le_of_ble_eq_true rfl⟩
set_option maxRecDepth 4096 in
theorem w_388 : (Jvm.Cond.instanceMethod ({ cls := "Dominofs$Bets", name := "add", desc := "(III)V" } : Jvm.MethodName)) ∈ lw_gd := gdc_2 148 rfl rfl
set_option maxRecDepth 4096 in
theorem w_389 : (Jvm.Cond.selects "Dominofs$Bets" ({ cls := "Dominofs$Bets", name := "add", desc := "(III)V" } : Jvm.MethodName) ({ cls := "Dominofs$Bets", name := "add", desc := "(III)V" } : Jvm.MethodName)) ∈ lw_gd := gdc_2 149 rfl rfl
theorem mk_1_5 : MK 1 5 3 mi_5 := ⟨mt_5, ms_5, by decide +kernel, ⟨w_388, w_389, rfl⟩⟩
set_option maxRecDepth 4096 in
theorem w_168 : (Jvm.Cond.fieldLink "Dominofs$Table" (82 : Nat) "Dominofs$Game" "winner" "I") ∈ lw_gd := gdc_1 168 rfl rfl
theorem fk_7_82 : FK "Dominofs$Table" 82 4 10 := FK_one rfl (rr := (RX4, TX4, 14)) rfl (by decide) w_168 (Or.inl rfl)
set_option maxRecDepth 4096 in
theorem w_474 : (Jvm.Cond.methodLink "Dominofs$Table" (85 : Nat) ({ cls := "Dominofs$Bets", name := "share", desc := "(I)I" } : Jvm.MethodName)) ∈ lw_gd := gdc_2 234 rfl rfl
set_option maxRecDepth 4096 in
theorem w_477 : (Jvm.Cond.code ({ cls := "Dominofs$Bets", name := "share", desc := "(I)I" } : Jvm.MethodName) prog_2_method_8_code (5 : Nat) (Option.some Jvm.ClassFile.FieldType.int)) ∈ lw_gd := gdc_2 237 rfl rfl
theorem ms_8 : MS mi_8 := ⟨(List.mem_filter.mp w_477).1, w_8, by decide +kernel, ⟨by decide +kernel, by decide +kernel⟩, Nat.le_of_ble_eq_true rfl⟩
set_option maxRecDepth 4096 in
theorem w_475 : (Jvm.Cond.instanceMethod ({ cls := "Dominofs$Bets", name := "share", desc := "(I)I" } : Jvm.MethodName)) ∈ lw_gd := gdc_2 235 rfl rfl
set_option maxRecDepth 4096 in
theorem w_476 : (Jvm.Cond.selects "Dominofs$Bets" ({ cls := "Dominofs$Bets", name := "share", desc := "(I)I" } : Jvm.MethodName) ({ cls := "Dominofs$Bets", name := "share", desc := "(I)I" } : Jvm.MethodName)) ∈ lw_gd := gdc_2 236 rfl rfl
theorem mk_1_8 : MK 1 8 1 mi_8 := ⟨mt_8, ms_8, by decide +kernel, ⟨w_475, w_476, rfl⟩⟩
set_option maxRecDepth 4096 in
theorem w_351 : (Jvm.Cond.methodLink "Dominofs$Table" (89 : Nat) ({ cls := "Dominofs$Table", name := "movePayments", desc := "(LDominofs$Game;I)V" } : Jvm.MethodName)) ∈ lw_gd := gdc_2 111 rfl rfl
set_option maxRecDepth 4096 in
theorem w_354 : (Jvm.Cond.code ({ cls := "Dominofs$Table", name := "movePayments", desc := "(LDominofs$Game;I)V" } : Jvm.MethodName) prog_9_method_13_code (4 : Nat) (Option.none : Option Jvm.ClassFile.FieldType)) ∈ lw_gd := gdc_2 114 rfl rfl
theorem ms_65 : MS mi_65 := ⟨(List.mem_filter.mp w_354).1, w_6, by decide +kernel, ⟨by decide +kernel, by decide +kernel⟩, Nat.le_of_ble_eq_true rfl⟩
set_option maxRecDepth 4096 in
theorem w_353 : (Jvm.Cond.instanceMethod ({ cls := "Dominofs$Table", name := "movePayments", desc := "(LDominofs$Game;I)V" } : Jvm.MethodName)) ∈ lw_gd := gdc_2 113 rfl rfl
theorem ws_2 : Jvm.Cond.selects "Dominofs$Table" ({ cls := "Dominofs$Table", name := "movePayments", desc := "(LDominofs$Game;I)V" } : MethodName) ({ cls := "Dominofs$Table", name := "movePayments", desc := "(LDominofs$Game;I)V" } : MethodName) ∈ lw_gd := gd_s 2 rfl rfl
theorem mk_1_65 : MK 1 65 2 mi_65 := ⟨mt_65, ms_65, by decide +kernel, ⟨w_353, ws_2, rfl⟩⟩
set_option maxRecDepth 4096 in
theorem w_347 : (Jvm.Cond.methodLink "Dominofs$Table" (93 : Nat) ({ cls := "Dominofs$Bets", name := "coinsLeft", desc := "()I" } : Jvm.MethodName)) ∈ lw_gd := gdc_2 107 rfl rfl
set_option maxRecDepth 4096 in
theorem w_350 : (Jvm.Cond.code ({ cls := "Dominofs$Bets", name := "coinsLeft", desc := "()I" } : Jvm.MethodName) prog_2_method_9_code (3 : Nat) (Option.some Jvm.ClassFile.FieldType.int)) ∈ lw_gd := gdc_2 110 rfl rfl
theorem ms_9 : MS mi_9 := ⟨(List.mem_filter.mp w_350).1, w_8, by decide +kernel, ⟨by decide +kernel, by decide +kernel⟩, Nat.le_of_ble_eq_true rfl⟩
set_option maxRecDepth 4096 in
theorem w_348 : (Jvm.Cond.instanceMethod ({ cls := "Dominofs$Bets", name := "coinsLeft", desc := "()I" } : Jvm.MethodName)) ∈ lw_gd := gdc_2 108 rfl rfl
set_option maxRecDepth 4096 in
theorem w_349 : (Jvm.Cond.selects "Dominofs$Bets" ({ cls := "Dominofs$Bets", name := "coinsLeft", desc := "()I" } : Jvm.MethodName) ({ cls := "Dominofs$Bets", name := "coinsLeft", desc := "()I" } : Jvm.MethodName)) ∈ lw_gd := gdc_2 109 rfl rfl
theorem mk_1_9 : MK 1 9 0 mi_9 := ⟨mt_9, ms_9, by decide +kernel, ⟨w_348, w_349, rfl⟩⟩
set_option maxRecDepth 4096 in
theorem w_130 : (Jvm.Cond.fieldLink "Dominofs$Table" (97 : Nat) "Dominofs$Bets" "count" "I") ∈ lw_gd := gdc_1 130 rfl rfl
theorem fk_7_97 : FK "Dominofs$Table" 97 1 0 := FK_one rfl (rr := (RX0, TX0, 6)) rfl (by decide) w_130 (Or.inl rfl)
set_option maxRecDepth 4096 in
theorem w_355 : (Jvm.Cond.methodLink "Dominofs$Table" (100 : Nat) ({ cls := "Dominofs$Bets", name := "betterOf", desc := "(I)I" } : Jvm.MethodName)) ∈ lw_gd := gdc_2 115 rfl rfl
set_option maxRecDepth 4096 in
theorem w_358 : (Jvm.Cond.code ({ cls := "Dominofs$Bets", name := "betterOf", desc := "(I)I" } : Jvm.MethodName) prog_2_method_6_code (2 : Nat) (Option.some Jvm.ClassFile.FieldType.int)) ∈ lw_gd := gdc_2 118 rfl rfl
theorem ms_6 : MS mi_6 := ⟨(List.mem_filter.mp w_358).1, w_8, by decide +kernel, ⟨by decide +kernel, by decide +kernel⟩, Nat.le_of_ble_eq_true rfl⟩
set_option maxRecDepth 4096 in
theorem w_356 : (Jvm.Cond.instanceMethod ({ cls := "Dominofs$Bets", name := "betterOf", desc := "(I)I" } : Jvm.MethodName)) ∈ lw_gd := gdc_2 116 rfl rfl
set_option maxRecDepth 4096 in
theorem w_357 : (Jvm.Cond.selects "Dominofs$Bets" ({ cls := "Dominofs$Bets", name := "betterOf", desc := "(I)I" } : Jvm.MethodName) ({ cls := "Dominofs$Bets", name := "betterOf", desc := "(I)I" } : Jvm.MethodName)) ∈ lw_gd := gdc_2 117 rfl rfl
theorem mk_1_6 : MK 1 6 1 mi_6 := ⟨mt_6, ms_6, by decide +kernel, ⟨w_356, w_357, rfl⟩⟩
set_option maxRecDepth 4096 in
theorem w_359 : (Jvm.Cond.methodLink "Dominofs$Table" (103 : Nat) ({ cls := "Dominofs$Bets", name := "paymentOf", desc := "(I)I" } : Jvm.MethodName)) ∈ lw_gd := gdc_2 119 rfl rfl
set_option maxRecDepth 4096 in
theorem w_362 : (Jvm.Cond.code ({ cls := "Dominofs$Bets", name := "paymentOf", desc := "(I)I" } : Jvm.MethodName) prog_2_method_7_code (2 : Nat) (Option.some Jvm.ClassFile.FieldType.int)) ∈ lw_gd := gdc_2 122 rfl rfl
theorem ms_7 : MS mi_7 := ⟨(List.mem_filter.mp w_362).1, w_8, by decide +kernel, ⟨by decide +kernel, by decide +kernel⟩, Nat.le_of_ble_eq_true rfl⟩
set_option maxRecDepth 4096 in
theorem w_360 : (Jvm.Cond.instanceMethod ({ cls := "Dominofs$Bets", name := "paymentOf", desc := "(I)I" } : Jvm.MethodName)) ∈ lw_gd := gdc_2 120 rfl rfl
set_option maxRecDepth 4096 in
theorem w_361 : (Jvm.Cond.selects "Dominofs$Bets" ({ cls := "Dominofs$Bets", name := "paymentOf", desc := "(I)I" } : Jvm.MethodName) ({ cls := "Dominofs$Bets", name := "paymentOf", desc := "(I)I" } : Jvm.MethodName)) ∈ lw_gd := gdc_2 121 rfl rfl
theorem mk_1_7 : MK 1 7 1 mi_7 := ⟨mt_7, ms_7, by decide +kernel, ⟨w_360, w_361, rfl⟩⟩
set_option maxRecDepth 4096 in
theorem w_562 : (Jvm.Cond.methodLink "Dominofs$Table" (106 : Nat) ({ cls := "Dominofs$Table", name := "openCoins", desc := "()I" } : Jvm.MethodName)) ∈ lw_gd := gdc_3 82 rfl rfl
set_option maxRecDepth 4096 in
theorem w_565 : (Jvm.Cond.code ({ cls := "Dominofs$Table", name := "openCoins", desc := "()I" } : Jvm.MethodName) prog_9_method_15_code (3 : Nat) (Option.some Jvm.ClassFile.FieldType.int)) ∈ lw_gd := gdc_3 85 rfl rfl
theorem ms_67 : MS mi_67 := ⟨(List.mem_filter.mp w_565).1, w_6, by decide +kernel, ⟨by decide +kernel, by decide +kernel⟩, Nat.le_of_ble_eq_true rfl⟩
set_option maxRecDepth 4096 in
theorem w_564 : (Jvm.Cond.instanceMethod ({ cls := "Dominofs$Table", name := "openCoins", desc := "()I" } : Jvm.MethodName)) ∈ lw_gd := gdc_3 84 rfl rfl
theorem ws_13 : Jvm.Cond.selects "Dominofs$Table" ({ cls := "Dominofs$Table", name := "openCoins", desc := "()I" } : MethodName) ({ cls := "Dominofs$Table", name := "openCoins", desc := "()I" } : MethodName) ∈ lw_gd := gd_s 13 rfl rfl
theorem mk_1_67 : MK 1 67 0 mi_67 := ⟨mt_67, ms_67, by decide +kernel, ⟨w_564, ws_13, rfl⟩⟩
set_option maxRecDepth 4096 in
theorem w_133 : (Jvm.Cond.fieldLink "Dominofs$Table" (109 : Nat) "Dominofs$Bets" "coins" "I") ∈ lw_gd := gdc_1 133 rfl rfl
theorem fk_7_109 : FK "Dominofs$Table" 109 1 1 := FK_one rfl (rr := (RX0, TX0, 6)) rfl (by decide) w_133 (Or.inl rfl)
set_option maxRecDepth 4096 in
theorem w_561 : (Jvm.Cond.methodLink "Dominofs$Table" (112 : Nat) ({ cls := "Dominofs$Table", name := "coinsInPurses", desc := "()I" } : Jvm.MethodName)) ∈ lw_gd := gdc_3 81 rfl rfl
set_option maxRecDepth 4096 in
theorem w_509 : (Jvm.Cond.code ({ cls := "Dominofs$Table", name := "coinsInPurses", desc := "()I" } : Jvm.MethodName) prog_9_method_16_code (3 : Nat) (Option.some Jvm.ClassFile.FieldType.int)) ∈ lw_gd := gdc_3 29 rfl rfl
theorem ms_68 : MS mi_68 := ⟨(List.mem_filter.mp w_509).1, w_6, by decide +kernel, ⟨by decide +kernel, by decide +kernel⟩, Nat.le_of_ble_eq_true rfl⟩
set_option maxRecDepth 4096 in
theorem w_507 : (Jvm.Cond.instanceMethod ({ cls := "Dominofs$Table", name := "coinsInPurses", desc := "()I" } : Jvm.MethodName)) ∈ lw_gd := gdc_3 27 rfl rfl
set_option maxRecDepth 4096 in
theorem w_508 : (Jvm.Cond.selects "Dominofs$Table" ({ cls := "Dominofs$Table", name := "coinsInPurses", desc := "()I" } : Jvm.MethodName) ({ cls := "Dominofs$Table", name := "coinsInPurses", desc := "()I" } : Jvm.MethodName)) ∈ lw_gd := gdc_3 28 rfl rfl
theorem mk_1_68 : MK 1 68 0 mi_68 := ⟨mt_68, ms_68, by decide +kernel, ⟨w_507, w_508, rfl⟩⟩
set_option maxRecDepth 4096 in
theorem w_535 : (Jvm.Cond.methodLink "Dominofs$Table" (115 : Nat) ({ cls := "Dominofs$Game", name := "areTilesInPlace", desc := "()Z" } : Jvm.MethodName)) ∈ lw_gd := gdc_3 55 rfl rfl
set_option maxRecDepth 4096 in
theorem w_538 : (Jvm.Cond.code ({ cls := "Dominofs$Game", name := "areTilesInPlace", desc := "()Z" } : Jvm.MethodName) prog_6_method_28_code (4 : Nat) (Option.some Jvm.ClassFile.FieldType.boolean)) ∈ lw_gd := gdc_3 58 rfl rfl
theorem ms_43 : MS mi_43 := ⟨(List.mem_filter.mp w_538).1, w_7, by decide +kernel, ⟨by decide +kernel, by decide +kernel⟩, Nat.le_of_ble_eq_true rfl⟩
set_option maxRecDepth 4096 in
theorem w_536 : (Jvm.Cond.instanceMethod ({ cls := "Dominofs$Game", name := "areTilesInPlace", desc := "()Z" } : Jvm.MethodName)) ∈ lw_gd := gdc_3 56 rfl rfl
set_option maxRecDepth 4096 in
theorem w_537 : (Jvm.Cond.selects "Dominofs$Game" ({ cls := "Dominofs$Game", name := "areTilesInPlace", desc := "()Z" } : Jvm.MethodName) ({ cls := "Dominofs$Game", name := "areTilesInPlace", desc := "()Z" } : Jvm.MethodName)) ∈ lw_gd := gdc_3 57 rfl rfl
theorem mk_1_43 : MK 1 43 0 mi_43 := ⟨mt_43, ms_43, by decide +kernel, ⟨w_536, w_537, rfl⟩⟩
set_option maxRecDepth 4096 in
theorem w_490 : (Jvm.Cond.constantLong "Dominofs$Table" (118 : Nat) (7 : Int64)) ∈ lw_gd := gdc_3 10 rfl rfl
set_option maxRecDepth 4096 in
theorem w_491 : (Jvm.Cond.methodLink "Dominofs$Table" (120 : Nat) ({ cls := "Dominofs$Game", name := "addTo", desc := "(J)J" } : Jvm.MethodName)) ∈ lw_gd := gdc_3 11 rfl rfl
set_option maxRecDepth 4096 in
theorem w_494 : (Jvm.Cond.code ({ cls := "Dominofs$Game", name := "addTo", desc := "(J)J" } : Jvm.MethodName) prog_6_method_27_code (6 : Nat) (Option.some Jvm.ClassFile.FieldType.long)) ∈ lw_gd := gdc_3 14 rfl rfl
theorem ms_42 : MS mi_42 := ⟨(List.mem_filter.mp w_494).1, w_7, by decide +kernel, ⟨by decide +kernel, by decide +kernel⟩, Nat.le_of_ble_eq_true rfl⟩
set_option maxRecDepth 4096 in
theorem w_492 : (Jvm.Cond.instanceMethod ({ cls := "Dominofs$Game", name := "addTo", desc := "(J)J" } : Jvm.MethodName)) ∈ lw_gd := gdc_3 12 rfl rfl
set_option maxRecDepth 4096 in
theorem w_493 : (Jvm.Cond.selects "Dominofs$Game" ({ cls := "Dominofs$Game", name := "addTo", desc := "(J)J" } : Jvm.MethodName) ({ cls := "Dominofs$Game", name := "addTo", desc := "(J)J" } : Jvm.MethodName)) ∈ lw_gd := gdc_3 13 rfl rfl
theorem mk_1_42 : MK 1 42 1 mi_42 := ⟨mt_42, ms_42, by decide +kernel, ⟨w_492, w_493, rfl⟩⟩
set_option maxRecDepth 4096 in
theorem w_501 : (Jvm.Cond.constantLong "Dominofs$Table" (124 : Nat) (31 : Int64)) ∈ lw_gd := gdc_3 21 rfl rfl
set_option maxRecDepth 4096 in
theorem w_892 : (Jvm.Cond.methodLink "Dominofs$TileDrawn" (1 : Nat) ({ cls := "Dominofs$Entry", name := "<init>", desc := "(CI)V" } : Jvm.MethodName)) ∈ lw_gd := gdc_4 172 rfl rfl
set_option maxRecDepth 4096 in
theorem w_775 : (Jvm.Cond.fieldLink "Dominofs$TileDrawn" (7 : Nat) "Dominofs$TileDrawn" "game" "I") ∈ lw_gd := gdc_4 55 rfl rfl
set_option maxRecDepth 4096 in
theorem w_776 : (Jvm.Cond.sameField "Dominofs$TileDrawn" "Dominofs$Entry" "game" "I") ∈ lw_gd := gdc_4 56 rfl rfl
theorem fk_8_7 : FK "Dominofs$TileDrawn" 7 8 1 := FK_one rfl (rr := (RX8, TX8, 2)) rfl (by decide) w_775 (Or.inr w_776)
set_option maxRecDepth 4096 in
theorem w_428 : (Jvm.Cond.methodLink "Dominofs$TileDrawn" (13 : Nat) ({ cls := "Dominofs$Table", name := "gameAt", desc := "(I)LDominofs$Game;" } : Jvm.MethodName)) ∈ lw_gd := gdc_2 188 rfl rfl
set_option maxRecDepth 4096 in
theorem w_429 : (Jvm.Cond.methodLink "Dominofs$TileDrawn" (19 : Nat) ({ cls := "Dominofs$Game", name := "take", desc := "()V" } : Jvm.MethodName)) ∈ lw_gd := gdc_2 189 rfl rfl
set_option maxRecDepth 4096 in
theorem w_432 : (Jvm.Cond.code ({ cls := "Dominofs$Game", name := "take", desc := "()V" } : Jvm.MethodName) prog_6_method_22_code (1 : Nat) (Option.none : Option Jvm.ClassFile.FieldType)) ∈ lw_gd := gdc_2 192 rfl rfl
theorem ms_37 : MS mi_37 := ⟨(List.mem_filter.mp w_432).1, w_7, by decide +kernel, ⟨by decide +kernel, by decide +kernel⟩, Nat.le_of_ble_eq_true rfl⟩
set_option maxRecDepth 4096 in
theorem w_430 : (Jvm.Cond.instanceMethod ({ cls := "Dominofs$Game", name := "take", desc := "()V" } : Jvm.MethodName)) ∈ lw_gd := gdc_2 190 rfl rfl
set_option maxRecDepth 4096 in
theorem w_431 : (Jvm.Cond.selects "Dominofs$Game" ({ cls := "Dominofs$Game", name := "take", desc := "()V" } : Jvm.MethodName) ({ cls := "Dominofs$Game", name := "take", desc := "()V" } : Jvm.MethodName)) ∈ lw_gd := gdc_2 191 rfl rfl
theorem mk_1_37 : MK 1 37 0 mi_37 := ⟨mt_37, ms_37, by decide +kernel, ⟨w_430, w_431, rfl⟩⟩
set_option maxRecDepth 4096 in
theorem w_860 : (Jvm.Cond.methodLink "Dominofs$TileLaid" (1 : Nat) ({ cls := "Dominofs$Entry", name := "<init>", desc := "(CI)V" } : Jvm.MethodName)) ∈ lw_gd := gdc_4 140 rfl rfl
set_option maxRecDepth 4096 in
theorem w_861 : (Jvm.Cond.fieldLink "Dominofs$TileLaid" (7 : Nat) "Dominofs$TileLaid" "tile" "I") ∈ lw_gd := gdc_4 141 rfl rfl
theorem fk_9_7 : FK "Dominofs$TileLaid" 7 9 2 := FK_one rfl (rr := (RX9, TX9, 4)) rfl (by decide) w_861 (Or.inl rfl)
set_option maxRecDepth 4096 in
theorem w_862 : (Jvm.Cond.fieldLink "Dominofs$TileLaid" (13 : Nat) "Dominofs$TileLaid" "isLeft" "Z") ∈ lw_gd := gdc_4 142 rfl rfl
theorem fk_9_13 : FK "Dominofs$TileLaid" 13 9 3 := FK_one rfl (rr := (RX9, TX9, 4)) rfl (by decide) w_862 (Or.inl rfl)
set_option maxRecDepth 4096 in
theorem w_777 : (Jvm.Cond.fieldLink "Dominofs$TileLaid" (17 : Nat) "Dominofs$TileLaid" "game" "I") ∈ lw_gd := gdc_4 57 rfl rfl
set_option maxRecDepth 4096 in
theorem w_778 : (Jvm.Cond.sameField "Dominofs$TileLaid" "Dominofs$Entry" "game" "I") ∈ lw_gd := gdc_4 58 rfl rfl
theorem fk_9_17 : FK "Dominofs$TileLaid" 17 9 1 := FK_one rfl (rr := (RX9, TX9, 4)) rfl (by decide) w_777 (Or.inr w_778)
set_option maxRecDepth 4096 in
theorem w_436 : (Jvm.Cond.methodLink "Dominofs$TileLaid" (20 : Nat) ({ cls := "Dominofs$Table", name := "gameAt", desc := "(I)LDominofs$Game;" } : Jvm.MethodName)) ∈ lw_gd := gdc_2 196 rfl rfl
set_option maxRecDepth 4096 in
theorem w_437 : (Jvm.Cond.methodLink "Dominofs$TileLaid" (26 : Nat) ({ cls := "Dominofs$Game", name := "place", desc := "(IZ)V" } : Jvm.MethodName)) ∈ lw_gd := gdc_2 197 rfl rfl
set_option maxRecDepth 4096 in
theorem w_440 : (Jvm.Cond.code ({ cls := "Dominofs$Game", name := "place", desc := "(IZ)V" } : Jvm.MethodName) prog_6_method_20_code (3 : Nat) (Option.none : Option Jvm.ClassFile.FieldType)) ∈ lw_gd := gdc_2 200 rfl rfl
theorem ms_35 : MS mi_35 := ⟨(List.mem_filter.mp w_440).1, w_7, by decide +kernel, ⟨by decide +kernel, by decide +kernel⟩, Nat.le_of_ble_eq_true rfl⟩
set_option maxRecDepth 4096 in
theorem w_438 : (Jvm.Cond.instanceMethod ({ cls := "Dominofs$Game", name := "place", desc := "(IZ)V" } : Jvm.MethodName)) ∈ lw_gd := gdc_2 198 rfl rfl
set_option maxRecDepth 4096 in
theorem w_439 : (Jvm.Cond.selects "Dominofs$Game" ({ cls := "Dominofs$Game", name := "place", desc := "(IZ)V" } : Jvm.MethodName) ({ cls := "Dominofs$Game", name := "place", desc := "(IZ)V" } : Jvm.MethodName)) ∈ lw_gd := gdc_2 199 rfl rfl
theorem mk_1_35 : MK 1 35 2 mi_35 := ⟨mt_35, ms_35, by decide +kernel, ⟨w_438, w_439, rfl⟩⟩
set_option maxRecDepth 4096 in
theorem w_909 : (Jvm.Cond.methodLink "Dominofs$TurnPassed" (1 : Nat) ({ cls := "Dominofs$Entry", name := "<init>", desc := "(CI)V" } : Jvm.MethodName)) ∈ lw_gd := gdc_4 189 rfl rfl
set_option maxRecDepth 4096 in
theorem w_779 : (Jvm.Cond.fieldLink "Dominofs$TurnPassed" (7 : Nat) "Dominofs$TurnPassed" "game" "I") ∈ lw_gd := gdc_4 59 rfl rfl
set_option maxRecDepth 4096 in
theorem w_780 : (Jvm.Cond.sameField "Dominofs$TurnPassed" "Dominofs$Entry" "game" "I") ∈ lw_gd := gdc_4 60 rfl rfl
theorem fk_10_7 : FK "Dominofs$TurnPassed" 7 10 1 := FK_one rfl (rr := (RX10, TX10, 2)) rfl (by decide) w_779 (Or.inr w_780)
set_option maxRecDepth 4096 in
theorem w_460 : (Jvm.Cond.methodLink "Dominofs$TurnPassed" (13 : Nat) ({ cls := "Dominofs$Table", name := "gameAt", desc := "(I)LDominofs$Game;" } : Jvm.MethodName)) ∈ lw_gd := gdc_2 220 rfl rfl
set_option maxRecDepth 4096 in
theorem w_461 : (Jvm.Cond.methodLink "Dominofs$TurnPassed" (19 : Nat) ({ cls := "Dominofs$Game", name := "skip", desc := "()V" } : Jvm.MethodName)) ∈ lw_gd := gdc_2 221 rfl rfl
set_option maxRecDepth 4096 in
theorem w_464 : (Jvm.Cond.code ({ cls := "Dominofs$Game", name := "skip", desc := "()V" } : Jvm.MethodName) prog_6_method_23_code (1 : Nat) (Option.none : Option Jvm.ClassFile.FieldType)) ∈ lw_gd := gdc_2 224 rfl rfl
theorem ms_38 : MS mi_38 := ⟨(List.mem_filter.mp w_464).1, w_7, by decide +kernel, ⟨by decide +kernel, by decide +kernel⟩, Nat.le_of_ble_eq_true rfl⟩
set_option maxRecDepth 4096 in
theorem w_462 : (Jvm.Cond.instanceMethod ({ cls := "Dominofs$Game", name := "skip", desc := "()V" } : Jvm.MethodName)) ∈ lw_gd := gdc_2 222 rfl rfl
set_option maxRecDepth 4096 in
theorem w_463 : (Jvm.Cond.selects "Dominofs$Game" ({ cls := "Dominofs$Game", name := "skip", desc := "()V" } : Jvm.MethodName) ({ cls := "Dominofs$Game", name := "skip", desc := "()V" } : Jvm.MethodName)) ∈ lw_gd := gdc_2 223 rfl rfl
theorem mk_1_38 : MK 1 38 0 mi_38 := ⟨mt_38, ms_38, by decide +kernel, ⟨w_462, w_463, rfl⟩⟩
set_option maxRecDepth 4096 in
theorem w_37 : (Jvm.Cond.methodLink "Dominofs" (1 : Nat) ({ cls := "java/lang/Object", name := "<init>", desc := "()V" } : Jvm.MethodName)) ∈ lw_gd := gdc_1 37 rfl rfl
set_option maxRecDepth 4096 in
theorem w_40 : (Jvm.Cond.classLink "Dominofs" (7 : Nat) "java/util/ArrayList") ∈ lw_gd := gdc_1 40 rfl rfl
set_option maxRecDepth 4096 in
theorem w_41 : (Jvm.Cond.instantiable "java/util/ArrayList" (3 : Nat)) ∈ lw_gd := gdc_1 41 rfl rfl
set_option maxRecDepth 4096 in
theorem w_4 : (Jvm.Cond.initialized "java/util/ArrayList") ∈ lw_gd := gdc_1 4 rfl rfl
set_option maxRecDepth 4096 in
theorem w_42 : (Jvm.Cond.methodLink "Dominofs" (9 : Nat) ({ cls := "java/util/ArrayList", name := "<init>", desc := "()V" } : Jvm.MethodName)) ∈ lw_gd := gdc_1 42 rfl rfl
set_option maxRecDepth 4096 in
theorem w_44 : (Jvm.Cond.code ({ cls := "java/util/ArrayList", name := "<init>", desc := "()V" } : Jvm.MethodName) prog_31_method_2_code (1 : Nat) (Option.none : Option Jvm.ClassFile.FieldType)) ∈ lw_gd := gdc_1 44 rfl rfl
theorem ms_196 : MS mi_196 := ⟨(List.mem_filter.mp w_44).1, w_4, by decide +kernel, ⟨by decide +kernel, by decide +kernel⟩, Nat.le_of_ble_eq_true rfl⟩
set_option maxRecDepth 4096 in
theorem w_43 : (Jvm.Cond.instanceMethod ({ cls := "java/util/ArrayList", name := "<init>", desc := "()V" } : Jvm.MethodName)) ∈ lw_gd := gdc_1 43 rfl rfl
theorem mk_2_196 : MK 2 196 0 mi_196 := ⟨mt_196, ms_196, by decide +kernel, ⟨w_43, rfl, rfl, rfl⟩⟩
set_option maxRecDepth 4096 in
theorem w_225 : (Jvm.Cond.fieldLink "Dominofs" (10 : Nat) "Dominofs" "houses" "Ljava/util/ArrayList;") ∈ lw_gd := gdc_1 225 rfl rfl
theorem fk_11_10 : FK "Dominofs" 10 11 0 := FK_one rfl (rr := (RX11, TX11, 10)) rfl (by decide) w_225 (Or.inl rfl)
set_option maxRecDepth 4096 in
theorem w_226 : (Jvm.Cond.fieldLink "Dominofs" (16 : Nat) "Dominofs" "journal" "Ljava/util/ArrayList;") ∈ lw_gd := gdc_1 226 rfl rfl
theorem fk_11_16 : FK "Dominofs" 16 11 1 := FK_one rfl (rr := (RX11, TX11, 10)) rfl (by decide) w_226 (Or.inl rfl)
set_option maxRecDepth 4096 in
theorem w_228 : (Jvm.Cond.fieldLink "Dominofs" (19 : Nat) "Dominofs" "checkpoints" "Ljava/util/ArrayList;") ∈ lw_gd := gdc_1 228 rfl rfl
theorem fk_11_19 : FK "Dominofs" 19 11 3 := FK_one rfl (rr := (RX11, TX11, 10)) rfl (by decide) w_228 (Or.inl rfl)
set_option maxRecDepth 4096 in
theorem w_66 : (Jvm.Cond.classLink "Dominofs" (22 : Nat) "Dominofs$House") ∈ lw_gd := gdc_1 66 rfl rfl
set_option maxRecDepth 4096 in
theorem w_67 : (Jvm.Cond.instantiable "Dominofs$House" (9 : Nat)) ∈ lw_gd := gdc_1 67 rfl rfl
set_option maxRecDepth 4096 in
theorem w_68 : (Jvm.Cond.methodLink "Dominofs" (24 : Nat) ({ cls := "Dominofs$House", name := "<init>", desc := "(IIIZC)V" } : Jvm.MethodName)) ∈ lw_gd := gdc_1 68 rfl rfl
set_option maxRecDepth 4096 in
theorem w_70 : (Jvm.Cond.code ({ cls := "Dominofs$House", name := "<init>", desc := "(IIIZC)V" } : Jvm.MethodName) prog_8_method_1_code (9 : Nat) (Option.none : Option Jvm.ClassFile.FieldType)) ∈ lw_gd := gdc_1 70 rfl rfl
theorem ms_46 : MS mi_46 := ⟨(List.mem_filter.mp w_70).1, w_5, by decide +kernel, ⟨by decide +kernel, by decide +kernel⟩, Nat.le_of_ble_eq_true rfl⟩
set_option maxRecDepth 4096 in
theorem w_69 : (Jvm.Cond.instanceMethod ({ cls := "Dominofs$House", name := "<init>", desc := "(IIIZC)V" } : Jvm.MethodName)) ∈ lw_gd := gdc_1 69 rfl rfl
theorem mk_2_46 : MK 2 46 5 mi_46 := ⟨mt_46, ms_46, by decide +kernel, ⟨w_69, rfl, rfl, rfl⟩⟩
set_option maxRecDepth 4096 in
theorem w_231 : (Jvm.Cond.fieldLink "Dominofs" (27 : Nat) "Dominofs" "noHouse" "LDominofs$House;") ∈ lw_gd := gdc_1 231 rfl rfl
theorem fk_11_27 : FK "Dominofs" 27 11 6 := FK_one rfl (rr := (RX11, TX11, 10)) rfl (by decide) w_231 (Or.inl rfl)
set_option maxRecDepth 4096 in
theorem w_110 : (Jvm.Cond.classLink "Dominofs" (31 : Nat) "Dominofs$Table") ∈ lw_gd := gdc_1 110 rfl rfl
set_option maxRecDepth 4096 in
theorem w_111 : (Jvm.Cond.instantiable "Dominofs$Table" (5 : Nat)) ∈ lw_gd := gdc_1 111 rfl rfl
set_option maxRecDepth 4096 in
theorem w_112 : (Jvm.Cond.methodLink "Dominofs" (33 : Nat) ({ cls := "Dominofs$Table", name := "<init>", desc := "(LDominofs$House;)V" } : Jvm.MethodName)) ∈ lw_gd := gdc_1 112 rfl rfl
set_option maxRecDepth 4096 in
theorem w_114 : (Jvm.Cond.code ({ cls := "Dominofs$Table", name := "<init>", desc := "(LDominofs$House;)V" } : Jvm.MethodName) prog_9_method_1_code (3 : Nat) (Option.none : Option Jvm.ClassFile.FieldType)) ∈ lw_gd := gdc_1 114 rfl rfl
theorem ms_53 : MS mi_53 := ⟨(List.mem_filter.mp w_114).1, w_6, by decide +kernel, ⟨by decide +kernel, by decide +kernel⟩, Nat.le_of_ble_eq_true rfl⟩
set_option maxRecDepth 4096 in
theorem w_113 : (Jvm.Cond.instanceMethod ({ cls := "Dominofs$Table", name := "<init>", desc := "(LDominofs$House;)V" } : Jvm.MethodName)) ∈ lw_gd := gdc_1 113 rfl rfl
theorem mk_2_53 : MK 2 53 1 mi_53 := ⟨mt_53, ms_53, by decide +kernel, ⟨w_113, rfl, rfl, rfl⟩⟩
set_option maxRecDepth 4096 in
theorem w_229 : (Jvm.Cond.fieldLink "Dominofs" (36 : Nat) "Dominofs" "now" "LDominofs$Table;") ∈ lw_gd := gdc_1 229 rfl rfl
theorem fk_11_36 : FK "Dominofs" 36 11 4 := FK_one rfl (rr := (RX11, TX11, 10)) rfl (by decide) w_229 (Or.inl rfl)
set_option maxRecDepth 4096 in
theorem w_230 : (Jvm.Cond.fieldLink "Dominofs" (40 : Nat) "Dominofs" "again" "LDominofs$Table;") ∈ lw_gd := gdc_1 230 rfl rfl
theorem fk_11_40 : FK "Dominofs" 40 11 5 := FK_one rfl (rr := (RX11, TX11, 10)) rfl (by decide) w_230 (Or.inl rfl)
set_option maxRecDepth 4096 in
theorem w_575 : (Jvm.Cond.classLink "Dominofs" (43 : Nat) "java/lang/IllegalArgumentException") ∈ lw_gd := gdc_3 95 rfl rfl
set_option maxRecDepth 4096 in
theorem w_13 : (Jvm.Cond.initialized "java/lang/IllegalArgumentException") ∈ lw_gd := gdc_1 13 rfl rfl
theorem th_47 : ∀ w ∈ nx_at "Dominofs" 47 (exn 1) 7 Bundle.six ["java/lang/RuntimeException", "java/lang/Exception"], w ∈ lw_gd ∨ w ∈ dclL := ot_in [10, 597, 606, 612, 615, 617, 598, 599, 38, 39, 600, 605, 613, 633, 587, 634, 589, 635, 591, 601, 603, 593, 629, 630, 632, 593, 620, 621, 622, 623, 623, 624, 625, 626, 626, 627, 628, 629, 619, 576, 584, 585, 586, 588, 590, 592, 596, 595, 594] [3, 5, 7, 1] (by decide +kernel) (by decide +kernel)
set_option maxRecDepth 4096 in
theorem w_645 : (Jvm.Cond.methodLink "Dominofs" (50 : Nat) ({ cls := "Dominofs", name := "isRuling", desc := "(C)Z" } : Jvm.MethodName)) ∈ lw_gd := gdc_3 165 rfl rfl
set_option maxRecDepth 4096 in
theorem w_647 : (Jvm.Cond.code ({ cls := "Dominofs", name := "isRuling", desc := "(C)Z" } : Jvm.MethodName) prog_1_method_37_code (1 : Nat) (Option.some Jvm.ClassFile.FieldType.boolean)) ∈ lw_gd := gdc_3 167 rfl rfl
set_option maxRecDepth 4096 in
theorem w_1 : (Jvm.Cond.initialized "Dominofs") ∈ lw_gd := gdc_1 1 rfl rfl
theorem ms_115 : MS mi_115 := ⟨(List.mem_filter.mp w_647).1, w_1, by decide +kernel, ⟨by decide +kernel, by decide +kernel⟩, Nat.le_of_ble_eq_true rfl⟩
set_option maxRecDepth 4096 in
theorem w_646 : (Jvm.Cond.static ({ cls := "Dominofs", name := "isRuling", desc := "(C)Z" } : Jvm.MethodName)) ∈ lw_gd := gdc_3 166 rfl rfl
theorem mk_0_115 : MK 0 115 1 mi_115 := ⟨mt_115, ms_115, by decide +kernel, w_646⟩
set_option maxRecDepth 4096 in
theorem w_649 : (Jvm.Cond.methodLink "Dominofs" (56 : Nat) ({ cls := "Dominofs$House", name := "sizeOfSet", desc := "(I)I" } : Jvm.MethodName)) ∈ lw_gd := gdc_3 169 rfl rfl
set_option maxRecDepth 4096 in
theorem w_264 : (Jvm.Cond.methodLink "Dominofs" (62 : Nat) ({ cls := "java/util/ArrayList", name := "size", desc := "()I" } : Jvm.MethodName)) ∈ lw_gd := gdc_2 24 rfl rfl
set_option maxRecDepth 4096 in
theorem w_267 : (Jvm.Cond.code ({ cls := "java/util/ArrayList", name := "size", desc := "()I" } : Jvm.MethodName) prog_31_method_8_code (1 : Nat) (Option.some Jvm.ClassFile.FieldType.int)) ∈ lw_gd := gdc_2 27 rfl rfl
theorem ms_199 : MS mi_199 := ⟨(List.mem_filter.mp w_267).1, w_4, by decide +kernel, ⟨by decide +kernel, by decide +kernel⟩, Nat.le_of_ble_eq_true rfl⟩
set_option maxRecDepth 4096 in
theorem w_265 : (Jvm.Cond.instanceMethod ({ cls := "java/util/ArrayList", name := "size", desc := "()I" } : Jvm.MethodName)) ∈ lw_gd := gdc_2 25 rfl rfl
set_option maxRecDepth 4096 in
theorem w_266 : (Jvm.Cond.selects "java/util/ArrayList" ({ cls := "java/util/ArrayList", name := "size", desc := "()I" } : Jvm.MethodName) ({ cls := "java/util/ArrayList", name := "size", desc := "()I" } : Jvm.MethodName)) ∈ lw_gd := gdc_2 26 rfl rfl
theorem mk_1_199 : MK 1 199 0 mi_199 := ⟨mt_199, ms_199, by decide +kernel, ⟨w_265, w_266, rfl⟩⟩
set_option maxRecDepth 4096 in
theorem w_651 : (Jvm.Cond.classLink "Dominofs" (66 : Nat) "java/lang/IllegalStateException") ∈ lw_gd := gdc_3 171 rfl rfl
set_option maxRecDepth 4096 in
theorem w_14 : (Jvm.Cond.initialized "java/lang/IllegalStateException") ∈ lw_gd := gdc_1 14 rfl rfl
theorem th_70 : ∀ w ∈ nx_at "Dominofs" 70 (exn 2) 7 Bundle.six ["java/lang/RuntimeException", "java/lang/Exception"], w ∈ lw_gd ∨ w ∈ dclL := ot_in [10, 597, 606, 612, 615, 617, 598, 599, 38, 39, 600, 605, 613, 633, 587, 634, 589, 635, 591, 601, 603, 593, 629, 630, 632, 593, 662, 663, 664, 623, 623, 624, 625, 626, 626, 627, 628, 629, 661, 652, 654, 608, 655, 656, 657, 658, 596, 595, 659] [3, 5, 7, 8] (by decide +kernel) (by decide +kernel)
set_option maxRecDepth 4096 in
theorem w_667 : (Jvm.Cond.methodLink "Dominofs" (71 : Nat) ({ cls := "java/util/ArrayList", name := "add", desc := "(Ljava/lang/Object;)Z" } : Jvm.MethodName)) ∈ lw_gd := gdc_3 187 rfl rfl
set_option maxRecDepth 4096 in
theorem w_670 : (Jvm.Cond.code ({ cls := "java/util/ArrayList", name := "add", desc := "(Ljava/lang/Object;)Z" } : Jvm.MethodName) prog_31_method_25_code (2 : Nat) (Option.some Jvm.ClassFile.FieldType.boolean)) ∈ lw_gd := gdc_3 190 rfl rfl
theorem ms_203 : MS mi_203 := ⟨(List.mem_filter.mp w_670).1, w_4, by decide +kernel, ⟨by decide +kernel, by decide +kernel⟩, Nat.le_of_ble_eq_true rfl⟩
set_option maxRecDepth 4096 in
theorem w_668 : (Jvm.Cond.instanceMethod ({ cls := "java/util/ArrayList", name := "add", desc := "(Ljava/lang/Object;)Z" } : Jvm.MethodName)) ∈ lw_gd := gdc_3 188 rfl rfl
set_option maxRecDepth 4096 in
theorem w_669 : (Jvm.Cond.selects "java/util/ArrayList" ({ cls := "java/util/ArrayList", name := "add", desc := "(Ljava/lang/Object;)Z" } : Jvm.MethodName) ({ cls := "java/util/ArrayList", name := "add", desc := "(Ljava/lang/Object;)Z" } : Jvm.MethodName)) ∈ lw_gd := gdc_3 189 rfl rfl
theorem mk_1_203 : MK 1 203 1 mi_203 := ⟨mt_203, ms_203, by decide +kernel, ⟨w_668, w_669, rfl⟩⟩
set_option maxRecDepth 4096 in
theorem w_734 : (Jvm.Cond.classLink "Dominofs" (75 : Nat) "java/lang/IndexOutOfBoundsException") ∈ lw_gd := gdc_4 14 rfl rfl
set_option maxRecDepth 4096 in
theorem w_19 : (Jvm.Cond.initialized "java/lang/IndexOutOfBoundsException") ∈ lw_gd := gdc_1 19 rfl rfl
theorem th_79 : ∀ w ∈ nx_at "Dominofs" 79 (exn 0) 7 Bundle.six ["java/lang/RuntimeException", "java/lang/Exception"], w ∈ lw_gd ∨ w ∈ dclL := ot_in [10, 597, 606, 612, 615, 617, 598, 599, 38, 39, 600, 605, 613, 633, 587, 634, 589, 635, 591, 601, 603, 593, 629, 630, 632, 593, 745, 746, 747, 623, 623, 624, 625, 626, 626, 627, 628, 629, 744, 735, 737, 609, 738, 739, 740, 741, 596, 595, 742] [3, 5, 7, 9] (by decide +kernel) (by decide +kernel)
set_option maxRecDepth 4096 in
theorem w_750 : (Jvm.Cond.constant "Dominofs" (80 : Nat) (999999 : Int32)) ∈ lw_gd := gdc_4 30 rfl rfl
set_option maxRecDepth 4096 in
theorem w_209 : (Jvm.Cond.fieldLink "Dominofs" (83 : Nat) "Dominofs$Table" "gameCount" "I") ∈ lw_gd := gdc_1 209 rfl rfl
theorem fk_11_83 : FK "Dominofs" 83 7 1 := FK_one rfl (rr := (RX7, TX7, 5)) rfl (by decide) w_209 (Or.inl rfl)
set_option maxRecDepth 4096 in
theorem w_752 : (Jvm.Cond.methodLink "Dominofs" (87 : Nat) ({ cls := "Dominofs", name := "isJournalFull", desc := "()Z" } : Jvm.MethodName)) ∈ lw_gd := gdc_4 32 rfl rfl
set_option maxRecDepth 4096 in
theorem w_755 : (Jvm.Cond.code ({ cls := "Dominofs", name := "isJournalFull", desc := "()Z" } : Jvm.MethodName) prog_1_method_40_code (1 : Nat) (Option.some Jvm.ClassFile.FieldType.boolean)) ∈ lw_gd := gdc_4 35 rfl rfl
theorem ms_118 : MS mi_118 := ⟨(List.mem_filter.mp w_755).1, w_1, by decide +kernel, ⟨by decide +kernel, by decide +kernel⟩, Nat.le_of_ble_eq_true rfl⟩
set_option maxRecDepth 4096 in
theorem w_754 : (Jvm.Cond.instanceMethod ({ cls := "Dominofs", name := "isJournalFull", desc := "()Z" } : Jvm.MethodName)) ∈ lw_gd := gdc_4 34 rfl rfl
theorem ws_18 : Jvm.Cond.selects "Dominofs" ({ cls := "Dominofs", name := "isJournalFull", desc := "()Z" } : MethodName) ({ cls := "Dominofs", name := "isJournalFull", desc := "()Z" } : MethodName) ∈ lw_gd := gd_s 18 rfl rfl
theorem mk_1_118 : MK 1 118 0 mi_118 := ⟨mt_118, ms_118, by decide +kernel, ⟨w_754, ws_18, rfl⟩⟩
set_option maxRecDepth 4096 in
theorem w_757 : (Jvm.Cond.classLink "Dominofs" (93 : Nat) "Dominofs$GameBegun") ∈ lw_gd := gdc_4 37 rfl rfl
set_option maxRecDepth 4096 in
theorem w_758 : (Jvm.Cond.instantiable "Dominofs$GameBegun" (4 : Nat)) ∈ lw_gd := gdc_4 38 rfl rfl
set_option maxRecDepth 4096 in
theorem w_301 : (Jvm.Cond.methodLink "Dominofs" (95 : Nat) ({ cls := "java/util/ArrayList", name := "get", desc := "(I)Ljava/lang/Object;" } : Jvm.MethodName)) ∈ lw_gd := gdc_2 61 rfl rfl
set_option maxRecDepth 4096 in
theorem w_304 : (Jvm.Cond.code ({ cls := "java/util/ArrayList", name := "get", desc := "(I)Ljava/lang/Object;" } : Jvm.MethodName) prog_31_method_20_code (2 : Nat) (Option.some (Jvm.ClassFile.FieldType.object "java/lang/Object"))) ∈ lw_gd := gdc_2 64 rfl rfl
theorem ms_201 : MS mi_201 := ⟨(List.mem_filter.mp w_304).1, w_4, by decide +kernel, ⟨by decide +kernel, by decide +kernel⟩, Nat.le_of_ble_eq_true rfl⟩
set_option maxRecDepth 4096 in
theorem w_302 : (Jvm.Cond.instanceMethod ({ cls := "java/util/ArrayList", name := "get", desc := "(I)Ljava/lang/Object;" } : Jvm.MethodName)) ∈ lw_gd := gdc_2 62 rfl rfl
set_option maxRecDepth 4096 in
theorem w_303 : (Jvm.Cond.selects "java/util/ArrayList" ({ cls := "java/util/ArrayList", name := "get", desc := "(I)Ljava/lang/Object;" } : Jvm.MethodName) ({ cls := "java/util/ArrayList", name := "get", desc := "(I)Ljava/lang/Object;" } : Jvm.MethodName)) ∈ lw_gd := gdc_2 63 rfl rfl
theorem mk_1_201 : MK 1 201 1 mi_201 := ⟨mt_201, ms_201, by decide +kernel, ⟨w_302, w_303, rfl⟩⟩
set_option maxRecDepth 4096 in
theorem w_759 : (Jvm.Cond.methodLink "Dominofs" (99 : Nat) ({ cls := "Dominofs$GameBegun", name := "<init>", desc := "(ILDominofs$House;I)V" } : Jvm.MethodName)) ∈ lw_gd := gdc_4 39 rfl rfl
set_option maxRecDepth 4096 in
theorem w_761 : (Jvm.Cond.code ({ cls := "Dominofs$GameBegun", name := "<init>", desc := "(ILDominofs$House;I)V" } : Jvm.MethodName) prog_7_method_1_code (4 : Nat) (Option.none : Option Jvm.ClassFile.FieldType)) ∈ lw_gd := gdc_4 41 rfl rfl
theorem ms_44 : MS mi_44 := ⟨(List.mem_filter.mp w_761).1, w_21, by decide +kernel, ⟨by decide +kernel, by decide +kernel⟩, Nat.le_of_ble_eq_true rfl⟩
set_option maxRecDepth 4096 in
theorem w_760 : (Jvm.Cond.instanceMethod ({ cls := "Dominofs$GameBegun", name := "<init>", desc := "(ILDominofs$House;I)V" } : Jvm.MethodName)) ∈ lw_gd := gdc_4 40 rfl rfl
theorem mk_2_44 : MK 2 44 3 mi_44 := ⟨mt_44, ms_44, by decide +kernel, ⟨w_760, rfl, rfl, rfl⟩⟩
set_option maxRecDepth 4096 in
theorem w_792 : (Jvm.Cond.methodLink "Dominofs" (102 : Nat) ({ cls := "Dominofs", name := "enter", desc := "(LDominofs$Entry;)V" } : Jvm.MethodName)) ∈ lw_gd := gdc_4 72 rfl rfl
set_option maxRecDepth 4096 in
theorem w_795 : (Jvm.Cond.code ({ cls := "Dominofs", name := "enter", desc := "(LDominofs$Entry;)V" } : Jvm.MethodName) prog_1_method_43_code (2 : Nat) (Option.none : Option Jvm.ClassFile.FieldType)) ∈ lw_gd := gdc_4 75 rfl rfl
theorem ms_121 : MS mi_121 := ⟨(List.mem_filter.mp w_795).1, w_1, by decide +kernel, ⟨by decide +kernel, by decide +kernel⟩, Nat.le_of_ble_eq_true rfl⟩
set_option maxRecDepth 4096 in
theorem w_794 : (Jvm.Cond.instanceMethod ({ cls := "Dominofs", name := "enter", desc := "(LDominofs$Entry;)V" } : Jvm.MethodName)) ∈ lw_gd := gdc_4 74 rfl rfl
theorem ws_19 : Jvm.Cond.selects "Dominofs" ({ cls := "Dominofs", name := "enter", desc := "(LDominofs$Entry;)V" } : MethodName) ({ cls := "Dominofs", name := "enter", desc := "(LDominofs$Entry;)V" } : MethodName) ∈ lw_gd := gd_s 19 rfl rfl
theorem mk_1_121 : MK 1 121 1 mi_121 := ⟨mt_121, ms_121, by decide +kernel, ⟨w_794, ws_19, rfl⟩⟩
set_option maxRecDepth 4096 in
theorem w_804 : (Jvm.Cond.methodLink "Dominofs" (106 : Nat) ({ cls := "Dominofs", name := "findGame", desc := "(I)LDominofs$Game;" } : Jvm.MethodName)) ∈ lw_gd := gdc_4 84 rfl rfl
set_option maxRecDepth 4096 in
theorem w_807 : (Jvm.Cond.code ({ cls := "Dominofs", name := "findGame", desc := "(I)LDominofs$Game;" } : Jvm.MethodName) prog_1_method_38_code (3 : Nat) (Option.some (Jvm.ClassFile.FieldType.object "Dominofs$Game"))) ∈ lw_gd := gdc_4 87 rfl rfl
theorem ms_116 : MS mi_116 := ⟨(List.mem_filter.mp w_807).1, w_1, by decide +kernel, ⟨by decide +kernel, by decide +kernel⟩, Nat.le_of_ble_eq_true rfl⟩
set_option maxRecDepth 4096 in
theorem w_806 : (Jvm.Cond.instanceMethod ({ cls := "Dominofs", name := "findGame", desc := "(I)LDominofs$Game;" } : Jvm.MethodName)) ∈ lw_gd := gdc_4 86 rfl rfl
theorem ws_20 : Jvm.Cond.selects "Dominofs" ({ cls := "Dominofs", name := "findGame", desc := "(I)LDominofs$Game;" } : MethodName) ({ cls := "Dominofs", name := "findGame", desc := "(I)LDominofs$Game;" } : MethodName) ∈ lw_gd := gd_s 20 rfl rfl
theorem mk_1_116 : MK 1 116 1 mi_116 := ⟨mt_116, ms_116, by decide +kernel, ⟨w_806, ws_20, rfl⟩⟩
set_option maxRecDepth 4096 in
theorem w_153 : (Jvm.Cond.fieldLink "Dominofs" (110 : Nat) "Dominofs$Game" "house" "LDominofs$House;") ∈ lw_gd := gdc_1 153 rfl rfl
theorem fk_11_110 : FK "Dominofs" 110 4 0 := FK_one rfl (rr := (RX4, TX4, 14)) rfl (by decide) w_153 (Or.inl rfl)
set_option maxRecDepth 4096 in
theorem w_86 : (Jvm.Cond.fieldLink "Dominofs" (115 : Nat) "Dominofs$House" "size" "I") ∈ lw_gd := gdc_1 86 rfl rfl
theorem fk_11_115 : FK "Dominofs" 115 6 5 := FK_one rfl (rr := (RX6, TX6, 9)) rfl (by decide) w_86 (Or.inl rfl)
set_option maxRecDepth 4096 in
theorem w_811 : (Jvm.Cond.methodLink "Dominofs" (119 : Nat) ({ cls := "Dominofs", name := "refuseIfOverOrFull", desc := "(LDominofs$Game;)V" } : Jvm.MethodName)) ∈ lw_gd := gdc_4 91 rfl rfl
set_option maxRecDepth 4096 in
theorem w_814 : (Jvm.Cond.code ({ cls := "Dominofs", name := "refuseIfOverOrFull", desc := "(LDominofs$Game;)V" } : Jvm.MethodName) prog_1_method_41_code (2 : Nat) (Option.none : Option Jvm.ClassFile.FieldType)) ∈ lw_gd := gdc_4 94 rfl rfl
theorem ms_119 : MS mi_119 := ⟨(List.mem_filter.mp w_814).1, w_1, by decide +kernel, ⟨by decide +kernel, by decide +kernel⟩, Nat.le_of_ble_eq_true rfl⟩
set_option maxRecDepth 4096 in
theorem w_813 : (Jvm.Cond.instanceMethod ({ cls := "Dominofs", name := "refuseIfOverOrFull", desc := "(LDominofs$Game;)V" } : Jvm.MethodName)) ∈ lw_gd := gdc_4 93 rfl rfl
theorem ws_21 : Jvm.Cond.selects "Dominofs" ({ cls := "Dominofs", name := "refuseIfOverOrFull", desc := "(LDominofs$Game;)V" } : MethodName) ({ cls := "Dominofs", name := "refuseIfOverOrFull", desc := "(LDominofs$Game;)V" } : MethodName) ∈ lw_gd := gd_s 21 rfl rfl
theorem mk_1_119 : MK 1 119 1 mi_119 := ⟨mt_119, ms_119, by decide +kernel, ⟨w_813, ws_21, rfl⟩⟩
set_option maxRecDepth 4096 in
theorem w_817 : (Jvm.Cond.methodLink "Dominofs" (123 : Nat) ({ cls := "Dominofs$Game", name := "isInHand", desc := "(I)Z" } : Jvm.MethodName)) ∈ lw_gd := gdc_4 97 rfl rfl
set_option maxRecDepth 4096 in
theorem w_820 : (Jvm.Cond.code ({ cls := "Dominofs$Game", name := "isInHand", desc := "(I)Z" } : Jvm.MethodName) prog_6_method_11_code (2 : Nat) (Option.some Jvm.ClassFile.FieldType.boolean)) ∈ lw_gd := gdc_4 100 rfl rfl
theorem ms_26 : MS mi_26 := ⟨(List.mem_filter.mp w_820).1, w_7, by decide +kernel, ⟨by decide +kernel, by decide +kernel⟩, Nat.le_of_ble_eq_true rfl⟩
set_option maxRecDepth 4096 in
theorem w_818 : (Jvm.Cond.instanceMethod ({ cls := "Dominofs$Game", name := "isInHand", desc := "(I)Z" } : Jvm.MethodName)) ∈ lw_gd := gdc_4 98 rfl rfl
set_option maxRecDepth 4096 in
theorem w_819 : (Jvm.Cond.selects "Dominofs$Game" ({ cls := "Dominofs$Game", name := "isInHand", desc := "(I)Z" } : Jvm.MethodName) ({ cls := "Dominofs$Game", name := "isInHand", desc := "(I)Z" } : Jvm.MethodName)) ∈ lw_gd := gdc_4 99 rfl rfl
theorem mk_1_26 : MK 1 26 1 mi_26 := ⟨mt_26, ms_26, by decide +kernel, ⟨w_818, w_819, rfl⟩⟩
set_option maxRecDepth 4096 in
theorem w_821 : (Jvm.Cond.methodLink "Dominofs" (127 : Nat) ({ cls := "Dominofs", name := "noteRefusal", desc := "(ZI)V" } : Jvm.MethodName)) ∈ lw_gd := gdc_4 101 rfl rfl
set_option maxRecDepth 4096 in
theorem w_824 : (Jvm.Cond.code ({ cls := "Dominofs", name := "noteRefusal", desc := "(ZI)V" } : Jvm.MethodName) prog_1_method_42_code (3 : Nat) (Option.none : Option Jvm.ClassFile.FieldType)) ∈ lw_gd := gdc_4 104 rfl rfl
theorem ms_120 : MS mi_120 := ⟨(List.mem_filter.mp w_824).1, w_1, by decide +kernel, ⟨by decide +kernel, by decide +kernel⟩, Nat.le_of_ble_eq_true rfl⟩
set_option maxRecDepth 4096 in
theorem w_823 : (Jvm.Cond.instanceMethod ({ cls := "Dominofs", name := "noteRefusal", desc := "(ZI)V" } : Jvm.MethodName)) ∈ lw_gd := gdc_4 103 rfl rfl
theorem ws_22 : Jvm.Cond.selects "Dominofs" ({ cls := "Dominofs", name := "noteRefusal", desc := "(ZI)V" } : MethodName) ({ cls := "Dominofs", name := "noteRefusal", desc := "(ZI)V" } : MethodName) ∈ lw_gd := gd_s 22 rfl rfl
theorem mk_1_120 : MK 1 120 2 mi_120 := ⟨mt_120, ms_120, by decide +kernel, ⟨w_823, ws_22, rfl⟩⟩
set_option maxRecDepth 4096 in
theorem w_825 : (Jvm.Cond.classLink "Dominofs" (131 : Nat) "java/lang/UnsupportedOperationException") ∈ lw_gd := gdc_4 105 rfl rfl
set_option maxRecDepth 4096 in
theorem w_24 : (Jvm.Cond.initialized "java/lang/UnsupportedOperationException") ∈ lw_gd := gdc_1 24 rfl rfl
theorem th_135 : ∀ w ∈ nx_at "Dominofs" 135 (exn 3) 7 Bundle.six ["java/lang/RuntimeException", "java/lang/Exception"], w ∈ lw_gd ∨ w ∈ dclL := ot_in [10, 597, 606, 612, 615, 617, 598, 599, 38, 39, 600, 605, 613, 633, 587, 634, 589, 635, 591, 601, 603, 593, 629, 630, 632, 593, 836, 837, 838, 623, 623, 624, 625, 626, 626, 627, 628, 629, 835, 826, 828, 610, 829, 830, 831, 832, 596, 595, 833] [3, 5, 7, 10] (by decide +kernel) (by decide +kernel)
set_option maxRecDepth 4096 in
theorem w_841 : (Jvm.Cond.methodLink "Dominofs" (136 : Nat) ({ cls := "Dominofs$Game", name := "isFitting", desc := "(IZ)Z" } : Jvm.MethodName)) ∈ lw_gd := gdc_4 121 rfl rfl
set_option maxRecDepth 4096 in
theorem w_844 : (Jvm.Cond.code ({ cls := "Dominofs$Game", name := "isFitting", desc := "(IZ)Z" } : Jvm.MethodName) prog_6_method_14_code (3 : Nat) (Option.some Jvm.ClassFile.FieldType.boolean)) ∈ lw_gd := gdc_4 124 rfl rfl
theorem ms_29 : MS mi_29 := ⟨(List.mem_filter.mp w_844).1, w_7, by decide +kernel, ⟨by decide +kernel, by decide +kernel⟩, Nat.le_of_ble_eq_true rfl⟩
set_option maxRecDepth 4096 in
theorem w_842 : (Jvm.Cond.instanceMethod ({ cls := "Dominofs$Game", name := "isFitting", desc := "(IZ)Z" } : Jvm.MethodName)) ∈ lw_gd := gdc_4 122 rfl rfl
set_option maxRecDepth 4096 in
theorem w_843 : (Jvm.Cond.selects "Dominofs$Game" ({ cls := "Dominofs$Game", name := "isFitting", desc := "(IZ)Z" } : Jvm.MethodName) ({ cls := "Dominofs$Game", name := "isFitting", desc := "(IZ)Z" } : Jvm.MethodName)) ∈ lw_gd := gdc_4 123 rfl rfl
theorem mk_1_29 : MK 1 29 2 mi_29 := ⟨mt_29, ms_29, by decide +kernel, ⟨w_842, w_843, rfl⟩⟩
set_option maxRecDepth 4096 in
theorem w_853 : (Jvm.Cond.methodLink "Dominofs" (140 : Nat) ({ cls := "Dominofs$Game", name := "numberAt", desc := "(Z)I" } : Jvm.MethodName)) ∈ lw_gd := gdc_4 133 rfl rfl
set_option maxRecDepth 4096 in
theorem w_855 : (Jvm.Cond.classLink "Dominofs" (146 : Nat) "Dominofs$TileLaid") ∈ lw_gd := gdc_4 135 rfl rfl
set_option maxRecDepth 4096 in
theorem w_856 : (Jvm.Cond.instantiable "Dominofs$TileLaid" (4 : Nat)) ∈ lw_gd := gdc_4 136 rfl rfl
set_option maxRecDepth 4096 in
theorem w_857 : (Jvm.Cond.methodLink "Dominofs" (148 : Nat) ({ cls := "Dominofs$TileLaid", name := "<init>", desc := "(IIZ)V" } : Jvm.MethodName)) ∈ lw_gd := gdc_4 137 rfl rfl
set_option maxRecDepth 4096 in
theorem w_859 : (Jvm.Cond.code ({ cls := "Dominofs$TileLaid", name := "<init>", desc := "(IIZ)V" } : Jvm.MethodName) prog_11_method_1_code (4 : Nat) (Option.none : Option Jvm.ClassFile.FieldType)) ∈ lw_gd := gdc_4 139 rfl rfl
theorem ms_75 : MS mi_75 := ⟨(List.mem_filter.mp w_859).1, w_25, by decide +kernel, ⟨by decide +kernel, by decide +kernel⟩, Nat.le_of_ble_eq_true rfl⟩
set_option maxRecDepth 4096 in
theorem w_858 : (Jvm.Cond.instanceMethod ({ cls := "Dominofs$TileLaid", name := "<init>", desc := "(IIZ)V" } : Jvm.MethodName)) ∈ lw_gd := gdc_4 138 rfl rfl
theorem mk_2_75 : MK 2 75 3 mi_75 := ⟨mt_75, ms_75, by decide +kernel, ⟨w_858, rfl, rfl, rfl⟩⟩
set_option maxRecDepth 4096 in
theorem w_815 : (Jvm.Cond.methodLink "Dominofs" (151 : Nat) ({ cls := "Dominofs$Game", name := "isDone", desc := "()Z" } : Jvm.MethodName)) ∈ lw_gd := gdc_4 95 rfl rfl
set_option maxRecDepth 4096 in
theorem w_877 : (Jvm.Cond.methodLink "Dominofs" (154 : Nat) ({ cls := "Dominofs$Game", name := "canLay", desc := "()Z" } : Jvm.MethodName)) ∈ lw_gd := gdc_4 157 rfl rfl
set_option maxRecDepth 4096 in
theorem w_880 : (Jvm.Cond.code ({ cls := "Dominofs$Game", name := "canLay", desc := "()Z" } : Jvm.MethodName) prog_6_method_15_code (2 : Nat) (Option.some Jvm.ClassFile.FieldType.boolean)) ∈ lw_gd := gdc_4 160 rfl rfl
theorem ms_30 : MS mi_30 := ⟨(List.mem_filter.mp w_880).1, w_7, by decide +kernel, ⟨by decide +kernel, by decide +kernel⟩, Nat.le_of_ble_eq_true rfl⟩
set_option maxRecDepth 4096 in
theorem w_878 : (Jvm.Cond.instanceMethod ({ cls := "Dominofs$Game", name := "canLay", desc := "()Z" } : Jvm.MethodName)) ∈ lw_gd := gdc_4 158 rfl rfl
set_option maxRecDepth 4096 in
theorem w_879 : (Jvm.Cond.selects "Dominofs$Game" ({ cls := "Dominofs$Game", name := "canLay", desc := "()Z" } : Jvm.MethodName) ({ cls := "Dominofs$Game", name := "canLay", desc := "()Z" } : Jvm.MethodName)) ∈ lw_gd := gdc_4 159 rfl rfl
theorem mk_1_30 : MK 1 30 0 mi_30 := ⟨mt_30, ms_30, by decide +kernel, ⟨w_878, w_879, rfl⟩⟩
set_option maxRecDepth 4096 in
theorem w_881 : (Jvm.Cond.methodLink "Dominofs" (157 : Nat) ({ cls := "Dominofs$Game", name := "canTake", desc := "()Z" } : Jvm.MethodName)) ∈ lw_gd := gdc_4 161 rfl rfl
set_option maxRecDepth 4096 in
theorem w_884 : (Jvm.Cond.code ({ cls := "Dominofs$Game", name := "canTake", desc := "()Z" } : Jvm.MethodName) prog_6_method_16_code (1 : Nat) (Option.some Jvm.ClassFile.FieldType.boolean)) ∈ lw_gd := gdc_4 164 rfl rfl
theorem ms_31 : MS mi_31 := ⟨(List.mem_filter.mp w_884).1, w_7, by decide +kernel, ⟨by decide +kernel, by decide +kernel⟩, Nat.le_of_ble_eq_true rfl⟩
set_option maxRecDepth 4096 in
theorem w_882 : (Jvm.Cond.instanceMethod ({ cls := "Dominofs$Game", name := "canTake", desc := "()Z" } : Jvm.MethodName)) ∈ lw_gd := gdc_4 162 rfl rfl
set_option maxRecDepth 4096 in
theorem w_883 : (Jvm.Cond.selects "Dominofs$Game" ({ cls := "Dominofs$Game", name := "canTake", desc := "()Z" } : Jvm.MethodName) ({ cls := "Dominofs$Game", name := "canTake", desc := "()Z" } : Jvm.MethodName)) ∈ lw_gd := gdc_4 163 rfl rfl
theorem mk_1_31 : MK 1 31 0 mi_31 := ⟨mt_31, ms_31, by decide +kernel, ⟨w_882, w_883, rfl⟩⟩
set_option maxRecDepth 4096 in
theorem w_886 : (Jvm.Cond.methodLink "Dominofs" (162 : Nat) ({ cls := "Dominofs$Game", name := "firstOfStock", desc := "()I" } : Jvm.MethodName)) ∈ lw_gd := gdc_4 166 rfl rfl
set_option maxRecDepth 4096 in
theorem w_887 : (Jvm.Cond.classLink "Dominofs" (165 : Nat) "Dominofs$TileDrawn") ∈ lw_gd := gdc_4 167 rfl rfl
set_option maxRecDepth 4096 in
theorem w_888 : (Jvm.Cond.instantiable "Dominofs$TileDrawn" (2 : Nat)) ∈ lw_gd := gdc_4 168 rfl rfl
set_option maxRecDepth 4096 in
theorem w_889 : (Jvm.Cond.methodLink "Dominofs" (167 : Nat) ({ cls := "Dominofs$TileDrawn", name := "<init>", desc := "(I)V" } : Jvm.MethodName)) ∈ lw_gd := gdc_4 169 rfl rfl
set_option maxRecDepth 4096 in
theorem w_891 : (Jvm.Cond.code ({ cls := "Dominofs$TileDrawn", name := "<init>", desc := "(I)V" } : Jvm.MethodName) prog_10_method_1_code (2 : Nat) (Option.none : Option Jvm.ClassFile.FieldType)) ∈ lw_gd := gdc_4 171 rfl rfl
theorem ms_73 : MS mi_73 := ⟨(List.mem_filter.mp w_891).1, w_26, by decide +kernel, ⟨by decide +kernel, by decide +kernel⟩, Nat.le_of_ble_eq_true rfl⟩
set_option maxRecDepth 4096 in
theorem w_890 : (Jvm.Cond.instanceMethod ({ cls := "Dominofs$TileDrawn", name := "<init>", desc := "(I)V" } : Jvm.MethodName)) ∈ lw_gd := gdc_4 170 rfl rfl
theorem mk_2_73 : MK 2 73 1 mi_73 := ⟨mt_73, ms_73, by decide +kernel, ⟨w_890, rfl, rfl, rfl⟩⟩
set_option maxRecDepth 4096 in
theorem w_904 : (Jvm.Cond.classLink "Dominofs" (172 : Nat) "Dominofs$TurnPassed") ∈ lw_gd := gdc_4 184 rfl rfl
set_option maxRecDepth 4096 in
theorem w_905 : (Jvm.Cond.instantiable "Dominofs$TurnPassed" (2 : Nat)) ∈ lw_gd := gdc_4 185 rfl rfl
set_option maxRecDepth 4096 in
theorem w_906 : (Jvm.Cond.methodLink "Dominofs" (174 : Nat) ({ cls := "Dominofs$TurnPassed", name := "<init>", desc := "(I)V" } : Jvm.MethodName)) ∈ lw_gd := gdc_4 186 rfl rfl
set_option maxRecDepth 4096 in
theorem w_908 : (Jvm.Cond.code ({ cls := "Dominofs$TurnPassed", name := "<init>", desc := "(I)V" } : Jvm.MethodName) prog_12_method_1_code (2 : Nat) (Option.none : Option Jvm.ClassFile.FieldType)) ∈ lw_gd := gdc_4 188 rfl rfl
theorem ms_77 : MS mi_77 := ⟨(List.mem_filter.mp w_908).1, w_27, by decide +kernel, ⟨by decide +kernel, by decide +kernel⟩, Nat.le_of_ble_eq_true rfl⟩
set_option maxRecDepth 4096 in
theorem w_907 : (Jvm.Cond.instanceMethod ({ cls := "Dominofs$TurnPassed", name := "<init>", desc := "(I)V" } : Jvm.MethodName)) ∈ lw_gd := gdc_4 187 rfl rfl
theorem mk_2_77 : MK 2 77 1 mi_77 := ⟨mt_77, ms_77, by decide +kernel, ⟨w_907, rfl, rfl, rfl⟩⟩
set_option maxRecDepth 4096 in
theorem w_162 : (Jvm.Cond.fieldLink "Dominofs" (177 : Nat) "Dominofs$Game" "mover" "I") ∈ lw_gd := gdc_1 162 rfl rfl
theorem fk_11_177 : FK "Dominofs" 177 4 6 := FK_one rfl (rr := (RX4, TX4, 14)) rfl (by decide) w_162 (Or.inl rfl)
set_option maxRecDepth 4096 in
theorem w_928 : (Jvm.Cond.methodLink "Dominofs" (180 : Nat) ({ cls := "Dominofs$Game", name := "hasPlayer", desc := "(I)Z" } : Jvm.MethodName)) ∈ lw_gd := gdc_4 208 rfl rfl
set_option maxRecDepth 4096 in
theorem w_931 : (Jvm.Cond.code ({ cls := "Dominofs$Game", name := "hasPlayer", desc := "(I)Z" } : Jvm.MethodName) prog_6_method_8_code (2 : Nat) (Option.some Jvm.ClassFile.FieldType.boolean)) ∈ lw_gd := gdc_4 211 rfl rfl
theorem ms_23 : MS mi_23 := ⟨(List.mem_filter.mp w_931).1, w_7, by decide +kernel, ⟨by decide +kernel, by decide +kernel⟩, Nat.le_of_ble_eq_true rfl⟩
set_option maxRecDepth 4096 in
theorem w_929 : (Jvm.Cond.instanceMethod ({ cls := "Dominofs$Game", name := "hasPlayer", desc := "(I)Z" } : Jvm.MethodName)) ∈ lw_gd := gdc_4 209 rfl rfl
set_option maxRecDepth 4096 in
theorem w_930 : (Jvm.Cond.selects "Dominofs$Game" ({ cls := "Dominofs$Game", name := "hasPlayer", desc := "(I)Z" } : Jvm.MethodName) ({ cls := "Dominofs$Game", name := "hasPlayer", desc := "(I)Z" } : Jvm.MethodName)) ∈ lw_gd := gdc_4 210 rfl rfl
theorem mk_1_23 : MK 1 23 1 mi_23 := ⟨mt_23, ms_23, by decide +kernel, ⟨w_929, w_930, rfl⟩⟩
set_option maxRecDepth 4096 in
theorem w_933 : (Jvm.Cond.methodLink "Dominofs" (185 : Nat) ({ cls := "Dominofs$Game", name := "handOf", desc := "(I)I" } : Jvm.MethodName)) ∈ lw_gd := gdc_4 213 rfl rfl
set_option maxRecDepth 4096 in
theorem w_156 : (Jvm.Cond.fieldLink "Dominofs" (188 : Nat) "Dominofs$Game" "dealt" "I") ∈ lw_gd := gdc_1 156 rfl rfl
theorem fk_11_188 : FK "Dominofs" 188 4 2 := FK_one rfl (rr := (RX4, TX4, 14)) rfl (by decide) w_156 (Or.inl rfl)
set_option maxRecDepth 4096 in
theorem w_160 : (Jvm.Cond.fieldLink "Dominofs" (191 : Nat) "Dominofs$Game" "laid" "I") ∈ lw_gd := gdc_1 160 rfl rfl
theorem fk_11_191 : FK "Dominofs" 191 4 5 := FK_one rfl (rr := (RX4, TX4, 14)) rfl (by decide) w_160 (Or.inl rfl)
set_option maxRecDepth 4096 in
theorem w_949 : (Jvm.Cond.classLink "Dominofs" (194 : Nat) "java/util/NoSuchElementException") ∈ lw_gd := gdc_4 229 rfl rfl
set_option maxRecDepth 4096 in
theorem w_28 : (Jvm.Cond.initialized "java/util/NoSuchElementException") ∈ lw_gd := gdc_1 28 rfl rfl
theorem th_198 : ∀ w ∈ nx_at "Dominofs" 198 (exn 4) 13 nse6 ["java/lang/RuntimeException", "java/lang/Exception"], w ∈ lw_gd ∨ w ∈ dclL := ot_in [10, 597, 606, 612, 615, 617, 598, 599, 38, 39, 600, 605, 613, 633, 587, 634, 589, 635, 591, 601, 603, 593, 629, 630, 632, 593, 960, 961, 962, 623, 623, 624, 625, 626, 626, 627, 628, 629, 959, 950, 952, 611, 953, 954, 955, 956, 596, 595, 957] [3, 5, 7, 11] (by decide +kernel) (by decide +kernel)
set_option maxRecDepth 4096 in
theorem w_980 : (Jvm.Cond.methodLink "Dominofs" (201 : Nat) ({ cls := "Dominofs$Game", name := "signAt", desc := "(IZ)C" } : Jvm.MethodName)) ∈ lw_gd := gdc_5 20 rfl rfl
set_option maxRecDepth 4096 in
theorem w_983 : (Jvm.Cond.code ({ cls := "Dominofs$Game", name := "signAt", desc := "(IZ)C" } : Jvm.MethodName) prog_6_method_18_code (4 : Nat) (Option.some Jvm.ClassFile.FieldType.char)) ∈ lw_gd := gdc_5 23 rfl rfl
theorem ms_33 : MS mi_33 := ⟨(List.mem_filter.mp w_983).1, w_7, by decide +kernel, ⟨by decide +kernel, by decide +kernel⟩, Nat.le_of_ble_eq_true rfl⟩
set_option maxRecDepth 4096 in
theorem w_981 : (Jvm.Cond.instanceMethod ({ cls := "Dominofs$Game", name := "signAt", desc := "(IZ)C" } : Jvm.MethodName)) ∈ lw_gd := gdc_5 21 rfl rfl
set_option maxRecDepth 4096 in
theorem w_982 : (Jvm.Cond.selects "Dominofs$Game" ({ cls := "Dominofs$Game", name := "signAt", desc := "(IZ)C" } : Jvm.MethodName) ({ cls := "Dominofs$Game", name := "signAt", desc := "(IZ)C" } : Jvm.MethodName)) ∈ lw_gd := gdc_5 22 rfl rfl
theorem mk_1_33 : MK 1 33 2 mi_33 := ⟨mt_33, ms_33, by decide +kernel, ⟨w_981, w_982, rfl⟩⟩
set_option maxRecDepth 4096 in
theorem w_166 : (Jvm.Cond.fieldLink "Dominofs" (205 : Nat) "Dominofs$Game" "isStuck" "Z") ∈ lw_gd := gdc_1 166 rfl rfl
theorem fk_11_205 : FK "Dominofs" 205 4 9 := FK_one rfl (rr := (RX4, TX4, 14)) rfl (by decide) w_166 (Or.inl rfl)
set_option maxRecDepth 4096 in
theorem w_169 : (Jvm.Cond.fieldLink "Dominofs" (211 : Nat) "Dominofs$Game" "winner" "I") ∈ lw_gd := gdc_1 169 rfl rfl
theorem fk_11_211 : FK "Dominofs" 211 4 10 := FK_one rfl (rr := (RX4, TX4, 14)) rfl (by decide) w_169 (Or.inl rfl)
set_option maxRecDepth 4096 in
theorem w_232 : (Jvm.Cond.fieldLink "Dominofs" (214 : Nat) "Dominofs" "isRefused" "Z") ∈ lw_gd := gdc_1 232 rfl rfl
theorem fk_11_214 : FK "Dominofs" 214 11 7 := FK_one rfl (rr := (RX11, TX11, 10)) rfl (by decide) w_232 (Or.inl rfl)
set_option maxRecDepth 4096 in
theorem w_233 : (Jvm.Cond.fieldLink "Dominofs" (217 : Nat) "Dominofs" "isUnfit" "Z") ∈ lw_gd := gdc_1 233 rfl rfl
theorem fk_11_217 : FK "Dominofs" 217 11 8 := FK_one rfl (rr := (RX11, TX11, 10)) rfl (by decide) w_233 (Or.inl rfl)
set_option maxRecDepth 4096 in
theorem w_234 : (Jvm.Cond.fieldLink "Dominofs" (220 : Nat) "Dominofs" "unfitEnd" "I") ∈ lw_gd := gdc_1 234 rfl rfl
theorem fk_11_220 : FK "Dominofs" 220 11 9 := FK_one rfl (rr := (RX11, TX11, 10)) rfl (by decide) w_234 (Or.inl rfl)
set_option maxRecDepth 4096 in
theorem w_1026 : (Jvm.Cond.methodLink "Dominofs" (227 : Nat) ({ cls := "Dominofs$Table", name := "purseOf", desc := "(I)I" } : Jvm.MethodName)) ∈ lw_gd := gdc_5 66 rfl rfl
set_option maxRecDepth 4096 in
theorem w_1029 : (Jvm.Cond.code ({ cls := "Dominofs$Table", name := "purseOf", desc := "(I)I" } : Jvm.MethodName) prog_9_method_6_code (2 : Nat) (Option.some Jvm.ClassFile.FieldType.int)) ∈ lw_gd := gdc_5 69 rfl rfl
theorem ms_58 : MS mi_58 := ⟨(List.mem_filter.mp w_1029).1, w_6, by decide +kernel, ⟨by decide +kernel, by decide +kernel⟩, Nat.le_of_ble_eq_true rfl⟩
set_option maxRecDepth 4096 in
theorem w_1027 : (Jvm.Cond.instanceMethod ({ cls := "Dominofs$Table", name := "purseOf", desc := "(I)I" } : Jvm.MethodName)) ∈ lw_gd := gdc_5 67 rfl rfl
set_option maxRecDepth 4096 in
theorem w_1028 : (Jvm.Cond.selects "Dominofs$Table" ({ cls := "Dominofs$Table", name := "purseOf", desc := "(I)I" } : Jvm.MethodName) ({ cls := "Dominofs$Table", name := "purseOf", desc := "(I)I" } : Jvm.MethodName)) ∈ lw_gd := gdc_5 68 rfl rfl
theorem mk_1_58 : MK 1 58 1 mi_58 := ⟨mt_58, ms_58, by decide +kernel, ⟨w_1027, w_1028, rfl⟩⟩
set_option maxRecDepth 4096 in
theorem w_176 : (Jvm.Cond.fieldLink "Dominofs" (232 : Nat) "Dominofs$Game" "bets" "LDominofs$Bets;") ∈ lw_gd := gdc_1 176 rfl rfl
theorem fk_11_232 : FK "Dominofs" 232 4 13 := FK_one rfl (rr := (RX4, TX4, 14)) rfl (by decide) w_176 (Or.inl rfl)
set_option maxRecDepth 4096 in
theorem w_131 : (Jvm.Cond.fieldLink "Dominofs" (236 : Nat) "Dominofs$Bets" "count" "I") ∈ lw_gd := gdc_1 131 rfl rfl
theorem fk_11_236 : FK "Dominofs" 236 1 0 := FK_one rfl (rr := (RX0, TX0, 6)) rfl (by decide) w_131 (Or.inl rfl)
set_option maxRecDepth 4096 in
theorem w_1032 : (Jvm.Cond.classLink "Dominofs" (243 : Nat) "Dominofs$CoinsBet") ∈ lw_gd := gdc_5 72 rfl rfl
set_option maxRecDepth 4096 in
theorem w_1033 : (Jvm.Cond.instantiable "Dominofs$CoinsBet" (5 : Nat)) ∈ lw_gd := gdc_5 73 rfl rfl
set_option maxRecDepth 4096 in
theorem w_1034 : (Jvm.Cond.methodLink "Dominofs" (245 : Nat) ({ cls := "Dominofs$CoinsBet", name := "<init>", desc := "(IIII)V" } : Jvm.MethodName)) ∈ lw_gd := gdc_5 74 rfl rfl
set_option maxRecDepth 4096 in
theorem w_1036 : (Jvm.Cond.code ({ cls := "Dominofs$CoinsBet", name := "<init>", desc := "(IIII)V" } : Jvm.MethodName) prog_4_method_1_code (5 : Nat) (Option.none : Option Jvm.ClassFile.FieldType)) ∈ lw_gd := gdc_5 76 rfl rfl
theorem ms_13 : MS mi_13 := ⟨(List.mem_filter.mp w_1036).1, w_29, by decide +kernel, ⟨by decide +kernel, by decide +kernel⟩, Nat.le_of_ble_eq_true rfl⟩
set_option maxRecDepth 4096 in
theorem w_1035 : (Jvm.Cond.instanceMethod ({ cls := "Dominofs$CoinsBet", name := "<init>", desc := "(IIII)V" } : Jvm.MethodName)) ∈ lw_gd := gdc_5 75 rfl rfl
theorem mk_2_13 : MK 2 13 4 mi_13 := ⟨mt_13, ms_13, by decide +kernel, ⟨w_1035, rfl, rfl, rfl⟩⟩
set_option maxRecDepth 4096 in
theorem w_134 : (Jvm.Cond.fieldLink "Dominofs" (248 : Nat) "Dominofs$Bets" "coins" "I") ∈ lw_gd := gdc_1 134 rfl rfl
theorem fk_11_248 : FK "Dominofs" 248 1 1 := FK_one rfl (rr := (RX0, TX0, 6)) rfl (by decide) w_134 (Or.inl rfl)
set_option maxRecDepth 4096 in
theorem w_1072 : (Jvm.Cond.methodLink "Dominofs" (253 : Nat) ({ cls := "Dominofs$Bets", name := "paymentOf", desc := "(I)I" } : Jvm.MethodName)) ∈ lw_gd := gdc_5 112 rfl rfl
set_option maxRecDepth 4096 in
theorem w_213 : (Jvm.Cond.fieldLink "Dominofs" (256 : Nat) "Dominofs$Table" "clubCoins" "I") ∈ lw_gd := gdc_1 213 rfl rfl
theorem fk_11_256 : FK "Dominofs" 256 7 4 := FK_one rfl (rr := (RX7, TX7, 5)) rfl (by decide) w_213 (Or.inl rfl)
set_option maxRecDepth 4096 in
theorem w_171 : (Jvm.Cond.fieldLink "Dominofs" (261 : Nat) "Dominofs$Game" "ruling" "C") ∈ lw_gd := gdc_1 171 rfl rfl
theorem fk_11_261 : FK "Dominofs" 261 4 11 := FK_one rfl (rr := (RX4, TX4, 14)) rfl (by decide) w_171 (Or.inl rfl)
set_option maxRecDepth 4096 in
theorem w_173 : (Jvm.Cond.fieldLink "Dominofs" (265 : Nat) "Dominofs$Game" "appeals" "I") ∈ lw_gd := gdc_1 173 rfl rfl
theorem fk_11_265 : FK "Dominofs" 265 4 12 := FK_one rfl (rr := (RX4, TX4, 14)) rfl (by decide) w_173 (Or.inl rfl)
set_option maxRecDepth 4096 in
theorem w_1082 : (Jvm.Cond.methodLink "Dominofs" (270 : Nat) ({ cls := "Dominofs", name := "isOverInCheckpoint", desc := "(I)Z" } : Jvm.MethodName)) ∈ lw_gd := gdc_5 122 rfl rfl
set_option maxRecDepth 4096 in
theorem w_1085 : (Jvm.Cond.code ({ cls := "Dominofs", name := "isOverInCheckpoint", desc := "(I)Z" } : Jvm.MethodName) prog_1_method_44_code (4 : Nat) (Option.some Jvm.ClassFile.FieldType.boolean)) ∈ lw_gd := gdc_5 125 rfl rfl
theorem ms_122 : MS mi_122 := ⟨(List.mem_filter.mp w_1085).1, w_1, by decide +kernel, ⟨by decide +kernel, by decide +kernel⟩, Nat.le_of_ble_eq_true rfl⟩
set_option maxRecDepth 4096 in
theorem w_1084 : (Jvm.Cond.instanceMethod ({ cls := "Dominofs", name := "isOverInCheckpoint", desc := "(I)Z" } : Jvm.MethodName)) ∈ lw_gd := gdc_5 124 rfl rfl
theorem ws_24 : Jvm.Cond.selects "Dominofs" ({ cls := "Dominofs", name := "isOverInCheckpoint", desc := "(I)Z" } : MethodName) ({ cls := "Dominofs", name := "isOverInCheckpoint", desc := "(I)Z" } : MethodName) ∈ lw_gd := gd_s 24 rfl rfl
theorem mk_1_122 : MK 1 122 1 mi_122 := ⟨mt_122, ms_122, by decide +kernel, ⟨w_1084, ws_24, rfl⟩⟩
set_option maxRecDepth 4096 in
theorem w_1087 : (Jvm.Cond.classLink "Dominofs" (275 : Nat) "Dominofs$BlockAppealed") ∈ lw_gd := gdc_5 127 rfl rfl
set_option maxRecDepth 4096 in
theorem w_1088 : (Jvm.Cond.instantiable "Dominofs$BlockAppealed" (3 : Nat)) ∈ lw_gd := gdc_5 128 rfl rfl
set_option maxRecDepth 4096 in
theorem w_1089 : (Jvm.Cond.methodLink "Dominofs" (277 : Nat) ({ cls := "Dominofs$BlockAppealed", name := "<init>", desc := "(IC)V" } : Jvm.MethodName)) ∈ lw_gd := gdc_5 129 rfl rfl
set_option maxRecDepth 4096 in
theorem w_1091 : (Jvm.Cond.code ({ cls := "Dominofs$BlockAppealed", name := "<init>", desc := "(IC)V" } : Jvm.MethodName) prog_3_method_1_code (3 : Nat) (Option.none : Option Jvm.ClassFile.FieldType)) ∈ lw_gd := gdc_5 131 rfl rfl
theorem ms_11 : MS mi_11 := ⟨(List.mem_filter.mp w_1091).1, w_30, by decide +kernel, ⟨by decide +kernel, by decide +kernel⟩, Nat.le_of_ble_eq_true rfl⟩
set_option maxRecDepth 4096 in
theorem w_1090 : (Jvm.Cond.instanceMethod ({ cls := "Dominofs$BlockAppealed", name := "<init>", desc := "(IC)V" } : Jvm.MethodName)) ∈ lw_gd := gdc_5 130 rfl rfl
theorem mk_2_11 : MK 2 11 2 mi_11 := ⟨mt_11, ms_11, by decide +kernel, ⟨w_1090, rfl, rfl, rfl⟩⟩
set_option maxRecDepth 4096 in
theorem w_227 : (Jvm.Cond.fieldLink "Dominofs" (280 : Nat) "Dominofs" "flushed" "I") ∈ lw_gd := gdc_1 227 rfl rfl
theorem fk_11_280 : FK "Dominofs" 280 11 2 := FK_one rfl (rr := (RX11, TX11, 10)) rfl (by decide) w_227 (Or.inl rfl)
set_option maxRecDepth 4096 in
theorem w_1113 : (Jvm.Cond.methodLink "Dominofs" (283 : Nat) ({ cls := "Dominofs", name := "findEntry", desc := "(I)LDominofs$Entry;" } : Jvm.MethodName)) ∈ lw_gd := gdc_5 153 rfl rfl
set_option maxRecDepth 4096 in
theorem w_1116 : (Jvm.Cond.code ({ cls := "Dominofs", name := "findEntry", desc := "(I)LDominofs$Entry;" } : Jvm.MethodName) prog_1_method_39_code (2 : Nat) (Option.some (Jvm.ClassFile.FieldType.object "Dominofs$Entry"))) ∈ lw_gd := gdc_5 156 rfl rfl
theorem ms_117 : MS mi_117 := ⟨(List.mem_filter.mp w_1116).1, w_1, by decide +kernel, ⟨by decide +kernel, by decide +kernel⟩, Nat.le_of_ble_eq_true rfl⟩
set_option maxRecDepth 4096 in
theorem w_1115 : (Jvm.Cond.instanceMethod ({ cls := "Dominofs", name := "findEntry", desc := "(I)LDominofs$Entry;" } : Jvm.MethodName)) ∈ lw_gd := gdc_5 155 rfl rfl
theorem ws_25 : Jvm.Cond.selects "Dominofs" ({ cls := "Dominofs", name := "findEntry", desc := "(I)LDominofs$Entry;" } : MethodName) ({ cls := "Dominofs", name := "findEntry", desc := "(I)LDominofs$Entry;" } : MethodName) ∈ lw_gd := gd_s 25 rfl rfl
theorem mk_1_117 : MK 1 117 1 mi_117 := ⟨mt_117, ms_117, by decide +kernel, ⟨w_1115, ws_25, rfl⟩⟩
set_option maxRecDepth 4096 in
theorem w_769 : (Jvm.Cond.fieldLink "Dominofs" (287 : Nat) "Dominofs$Entry" "kind" "C") ∈ lw_gd := gdc_4 49 rfl rfl
theorem fk_11_287 : FK "Dominofs" 287 50 0 := FK_e w_769 (all6 (fun rr h => by cases h; exact ⟨by decide, rfl, rfl, rfl⟩) (fun rr h => by cases h; exact ⟨by decide, rfl, rfl, rfl⟩) (fun rr h => by cases h; exact ⟨by decide, rfl, rfl, rfl⟩) (fun rr h => by cases h; exact ⟨by decide, rfl, rfl, rfl⟩) (fun rr h => by cases h; exact ⟨by decide, rfl, rfl, rfl⟩) (fun rr h => by cases h; exact ⟨by decide, rfl, rfl, rfl⟩))
set_option maxRecDepth 4096 in
theorem w_782 : (Jvm.Cond.fieldLink "Dominofs" (292 : Nat) "Dominofs$Entry" "game" "I") ∈ lw_gd := gdc_4 62 rfl rfl
theorem fk_11_292 : FK "Dominofs" 292 50 1 := FK_e w_782 (all6 (fun rr h => by cases h; exact ⟨by decide, rfl, rfl, rfl⟩) (fun rr h => by cases h; exact ⟨by decide, rfl, rfl, rfl⟩) (fun rr h => by cases h; exact ⟨by decide, rfl, rfl, rfl⟩) (fun rr h => by cases h; exact ⟨by decide, rfl, rfl, rfl⟩) (fun rr h => by cases h; exact ⟨by decide, rfl, rfl, rfl⟩) (fun rr h => by cases h; exact ⟨by decide, rfl, rfl, rfl⟩))
set_option maxRecDepth 4096 in
theorem w_280 : (Jvm.Cond.methodLink "Dominofs" (295 : Nat) ({ cls := "java/util/ArrayList", name := "remove", desc := "(I)Ljava/lang/Object;" } : Jvm.MethodName)) ∈ lw_gd := gdc_2 40 rfl rfl
set_option maxRecDepth 4096 in
theorem w_283 : (Jvm.Cond.code ({ cls := "java/util/ArrayList", name := "remove", desc := "(I)Ljava/lang/Object;" } : Jvm.MethodName) prog_31_method_29_code (4 : Nat) (Option.some (Jvm.ClassFile.FieldType.object "java/lang/Object"))) ∈ lw_gd := gdc_2 43 rfl rfl
theorem ms_204 : MS mi_204 := ⟨(List.mem_filter.mp w_283).1, w_4, by decide +kernel, ⟨by decide +kernel, by decide +kernel⟩, Nat.le_of_ble_eq_true rfl⟩
set_option maxRecDepth 4096 in
theorem w_281 : (Jvm.Cond.instanceMethod ({ cls := "java/util/ArrayList", name := "remove", desc := "(I)Ljava/lang/Object;" } : Jvm.MethodName)) ∈ lw_gd := gdc_2 41 rfl rfl
set_option maxRecDepth 4096 in
theorem w_282 : (Jvm.Cond.selects "java/util/ArrayList" ({ cls := "java/util/ArrayList", name := "remove", desc := "(I)Ljava/lang/Object;" } : Jvm.MethodName) ({ cls := "java/util/ArrayList", name := "remove", desc := "(I)Ljava/lang/Object;" } : Jvm.MethodName)) ∈ lw_gd := gdc_2 42 rfl rfl
theorem mk_1_204 : MK 1 204 1 mi_204 := ⟨mt_204, ms_204, by decide +kernel, ⟨w_281, w_282, rfl⟩⟩
set_option maxRecDepth 4096 in
theorem w_297 : (Jvm.Cond.methodLink "Dominofs" (298 : Nat) ({ cls := "Dominofs", name := "redoFrom", desc := "(ILDominofs$Table;)V" } : Jvm.MethodName)) ∈ lw_gd := gdc_2 57 rfl rfl
set_option maxRecDepth 4096 in
theorem w_300 : (Jvm.Cond.code ({ cls := "Dominofs", name := "redoFrom", desc := "(ILDominofs$Table;)V" } : Jvm.MethodName) prog_1_method_45_code (4 : Nat) (Option.none : Option Jvm.ClassFile.FieldType)) ∈ lw_gd := gdc_2 60 rfl rfl
theorem ms_123 : MS mi_123 := ⟨(List.mem_filter.mp w_300).1, w_1, by decide +kernel, ⟨by decide +kernel, by decide +kernel⟩, Nat.le_of_ble_eq_true rfl⟩
set_option maxRecDepth 4096 in
theorem w_299 : (Jvm.Cond.instanceMethod ({ cls := "Dominofs", name := "redoFrom", desc := "(ILDominofs$Table;)V" } : Jvm.MethodName)) ∈ lw_gd := gdc_2 59 rfl rfl
theorem ws_1 : Jvm.Cond.selects "Dominofs" ({ cls := "Dominofs", name := "redoFrom", desc := "(ILDominofs$Table;)V" } : MethodName) ({ cls := "Dominofs", name := "redoFrom", desc := "(ILDominofs$Table;)V" } : MethodName) ∈ lw_gd := gd_s 1 rfl rfl
theorem mk_1_123 : MK 1 123 2 mi_123 := ⟨mt_123, ms_123, by decide +kernel, ⟨w_299, ws_1, rfl⟩⟩
set_option maxRecDepth 4096 in
theorem w_1132 : (Jvm.Cond.methodLink "Dominofs" (302 : Nat) ({ cls := "Dominofs$Table", name := "hasOpenBets", desc := "()Z" } : Jvm.MethodName)) ∈ lw_gd := gdc_5 172 rfl rfl
set_option maxRecDepth 4096 in
theorem w_1135 : (Jvm.Cond.code ({ cls := "Dominofs$Table", name := "hasOpenBets", desc := "()Z" } : Jvm.MethodName) prog_9_method_14_code (1 : Nat) (Option.some Jvm.ClassFile.FieldType.boolean)) ∈ lw_gd := gdc_5 175 rfl rfl
theorem ms_66 : MS mi_66 := ⟨(List.mem_filter.mp w_1135).1, w_6, by decide +kernel, ⟨by decide +kernel, by decide +kernel⟩, Nat.le_of_ble_eq_true rfl⟩
set_option maxRecDepth 4096 in
theorem w_1133 : (Jvm.Cond.instanceMethod ({ cls := "Dominofs$Table", name := "hasOpenBets", desc := "()Z" } : Jvm.MethodName)) ∈ lw_gd := gdc_5 173 rfl rfl
set_option maxRecDepth 4096 in
theorem w_1134 : (Jvm.Cond.selects "Dominofs$Table" ({ cls := "Dominofs$Table", name := "hasOpenBets", desc := "()Z" } : Jvm.MethodName) ({ cls := "Dominofs$Table", name := "hasOpenBets", desc := "()Z" } : Jvm.MethodName)) ∈ lw_gd := gdc_5 174 rfl rfl
theorem mk_1_66 : MK 1 66 0 mi_66 := ⟨mt_66, ms_66, by decide +kernel, ⟨w_1133, w_1134, rfl⟩⟩
set_option maxRecDepth 4096 in
theorem w_309 : (Jvm.Cond.methodLink "Dominofs" (309 : Nat) ({ cls := "Dominofs$Table", name := "become", desc := "(LDominofs$Table;)V" } : Jvm.MethodName)) ∈ lw_gd := gdc_2 69 rfl rfl
set_option maxRecDepth 4096 in
theorem w_312 : (Jvm.Cond.code ({ cls := "Dominofs$Table", name := "become", desc := "(LDominofs$Table;)V" } : Jvm.MethodName) prog_9_method_3_code (3 : Nat) (Option.none : Option Jvm.ClassFile.FieldType)) ∈ lw_gd := gdc_2 72 rfl rfl
theorem ms_55 : MS mi_55 := ⟨(List.mem_filter.mp w_312).1, w_6, by decide +kernel, ⟨by decide +kernel, by decide +kernel⟩, Nat.le_of_ble_eq_true rfl⟩
set_option maxRecDepth 4096 in
theorem w_310 : (Jvm.Cond.instanceMethod ({ cls := "Dominofs$Table", name := "become", desc := "(LDominofs$Table;)V" } : Jvm.MethodName)) ∈ lw_gd := gdc_2 70 rfl rfl
set_option maxRecDepth 4096 in
theorem w_311 : (Jvm.Cond.selects "Dominofs$Table" ({ cls := "Dominofs$Table", name := "become", desc := "(LDominofs$Table;)V" } : Jvm.MethodName) ({ cls := "Dominofs$Table", name := "become", desc := "(LDominofs$Table;)V" } : Jvm.MethodName)) ∈ lw_gd := gdc_2 71 rfl rfl
theorem mk_1_55 : MK 1 55 1 mi_55 := ⟨mt_55, ms_55, by decide +kernel, ⟨w_310, w_311, rfl⟩⟩
set_option maxRecDepth 4096 in
theorem w_207 : (Jvm.Cond.fieldLink "Dominofs" (315 : Nat) "Dominofs$Table" "done" "I") ∈ lw_gd := gdc_1 207 rfl rfl
theorem fk_11_315 : FK "Dominofs" 315 7 0 := FK_one rfl (rr := (RX7, TX7, 5)) rfl (by decide) w_207 (Or.inl rfl)
set_option maxRecDepth 4096 in
theorem w_486 : (Jvm.Cond.methodLink "Dominofs" (318 : Nat) ({ cls := "Dominofs$Table", name := "sum", desc := "()J" } : Jvm.MethodName)) ∈ lw_gd := gdc_3 6 rfl rfl
set_option maxRecDepth 4096 in
theorem w_489 : (Jvm.Cond.code ({ cls := "Dominofs$Table", name := "sum", desc := "()J" } : Jvm.MethodName) prog_9_method_20_code (4 : Nat) (Option.some Jvm.ClassFile.FieldType.long)) ∈ lw_gd := gdc_3 9 rfl rfl
theorem ms_72 : MS mi_72 := ⟨(List.mem_filter.mp w_489).1, w_6, by decide +kernel, ⟨by decide +kernel, by decide +kernel⟩, Nat.le_of_ble_eq_true rfl⟩
set_option maxRecDepth 4096 in
theorem w_487 : (Jvm.Cond.instanceMethod ({ cls := "Dominofs$Table", name := "sum", desc := "()J" } : Jvm.MethodName)) ∈ lw_gd := gdc_3 7 rfl rfl
set_option maxRecDepth 4096 in
theorem w_488 : (Jvm.Cond.selects "Dominofs$Table" ({ cls := "Dominofs$Table", name := "sum", desc := "()J" } : Jvm.MethodName) ({ cls := "Dominofs$Table", name := "sum", desc := "()J" } : Jvm.MethodName)) ∈ lw_gd := gdc_3 8 rfl rfl
theorem mk_1_72 : MK 1 72 0 mi_72 := ⟨mt_72, ms_72, by decide +kernel, ⟨w_487, w_488, rfl⟩⟩
set_option maxRecDepth 4096 in
theorem w_1161 : (Jvm.Cond.methodLink "Dominofs" (324 : Nat) ({ cls := "Dominofs$Table", name := "countDone", desc := "()I" } : Jvm.MethodName)) ∈ lw_gd := gdc_5 201 rfl rfl
set_option maxRecDepth 4096 in
theorem w_1164 : (Jvm.Cond.code ({ cls := "Dominofs$Table", name := "countDone", desc := "()I" } : Jvm.MethodName) prog_9_method_18_code (3 : Nat) (Option.some Jvm.ClassFile.FieldType.int)) ∈ lw_gd := gdc_5 204 rfl rfl
theorem ms_70 : MS mi_70 := ⟨(List.mem_filter.mp w_1164).1, w_6, by decide +kernel, ⟨by decide +kernel, by decide +kernel⟩, Nat.le_of_ble_eq_true rfl⟩
set_option maxRecDepth 4096 in
theorem w_1162 : (Jvm.Cond.instanceMethod ({ cls := "Dominofs$Table", name := "countDone", desc := "()I" } : Jvm.MethodName)) ∈ lw_gd := gdc_5 202 rfl rfl
set_option maxRecDepth 4096 in
theorem w_1163 : (Jvm.Cond.selects "Dominofs$Table" ({ cls := "Dominofs$Table", name := "countDone", desc := "()I" } : Jvm.MethodName) ({ cls := "Dominofs$Table", name := "countDone", desc := "()I" } : Jvm.MethodName)) ∈ lw_gd := gdc_5 203 rfl rfl
theorem mk_1_70 : MK 1 70 0 mi_70 := ⟨mt_70, ms_70, by decide +kernel, ⟨w_1162, w_1163, rfl⟩⟩
set_option maxRecDepth 4096 in
theorem w_506 : (Jvm.Cond.methodLink "Dominofs" (327 : Nat) ({ cls := "Dominofs$Table", name := "coinsInPurses", desc := "()I" } : Jvm.MethodName)) ∈ lw_gd := gdc_3 26 rfl rfl
set_option maxRecDepth 4096 in
theorem w_510 : (Jvm.Cond.constantDouble "Dominofs" (330 : Nat) (4616189618054758400 : UInt64)) ∈ lw_gd := gdc_3 30 rfl rfl
set_option maxRecDepth 4096 in
theorem w_515 : (Jvm.Cond.methodLink "Dominofs" (332 : Nat) ({ cls := "Dominofs$Table", name := "isLike", desc := "(LDominofs$Table;)Z" } : Jvm.MethodName)) ∈ lw_gd := gdc_3 35 rfl rfl
set_option maxRecDepth 4096 in
theorem w_518 : (Jvm.Cond.code ({ cls := "Dominofs$Table", name := "isLike", desc := "(LDominofs$Table;)Z" } : Jvm.MethodName) prog_9_method_4_code (4 : Nat) (Option.some Jvm.ClassFile.FieldType.boolean)) ∈ lw_gd := gdc_3 38 rfl rfl
theorem ms_56 : MS mi_56 := ⟨(List.mem_filter.mp w_518).1, w_6, by decide +kernel, ⟨by decide +kernel, by decide +kernel⟩, Nat.le_of_ble_eq_true rfl⟩
set_option maxRecDepth 4096 in
theorem w_516 : (Jvm.Cond.instanceMethod ({ cls := "Dominofs$Table", name := "isLike", desc := "(LDominofs$Table;)Z" } : Jvm.MethodName)) ∈ lw_gd := gdc_3 36 rfl rfl
set_option maxRecDepth 4096 in
theorem w_517 : (Jvm.Cond.selects "Dominofs$Table" ({ cls := "Dominofs$Table", name := "isLike", desc := "(LDominofs$Table;)Z" } : Jvm.MethodName) ({ cls := "Dominofs$Table", name := "isLike", desc := "(LDominofs$Table;)Z" } : Jvm.MethodName)) ∈ lw_gd := gdc_3 37 rfl rfl
theorem mk_1_56 : MK 1 56 1 mi_56 := ⟨mt_56, ms_56, by decide +kernel, ⟨w_516, w_517, rfl⟩⟩
set_option maxRecDepth 4096 in
theorem w_531 : (Jvm.Cond.methodLink "Dominofs" (336 : Nat) ({ cls := "Dominofs$Table", name := "areTilesInPlace", desc := "()Z" } : Jvm.MethodName)) ∈ lw_gd := gdc_3 51 rfl rfl
set_option maxRecDepth 4096 in
theorem w_534 : (Jvm.Cond.code ({ cls := "Dominofs$Table", name := "areTilesInPlace", desc := "()Z" } : Jvm.MethodName) prog_9_method_19_code (3 : Nat) (Option.some Jvm.ClassFile.FieldType.boolean)) ∈ lw_gd := gdc_3 54 rfl rfl
theorem ms_71 : MS mi_71 := ⟨(List.mem_filter.mp w_534).1, w_6, by decide +kernel, ⟨by decide +kernel, by decide +kernel⟩, Nat.le_of_ble_eq_true rfl⟩
set_option maxRecDepth 4096 in
theorem w_532 : (Jvm.Cond.instanceMethod ({ cls := "Dominofs$Table", name := "areTilesInPlace", desc := "()Z" } : Jvm.MethodName)) ∈ lw_gd := gdc_3 52 rfl rfl
set_option maxRecDepth 4096 in
theorem w_533 : (Jvm.Cond.selects "Dominofs$Table" ({ cls := "Dominofs$Table", name := "areTilesInPlace", desc := "()Z" } : Jvm.MethodName) ({ cls := "Dominofs$Table", name := "areTilesInPlace", desc := "()Z" } : Jvm.MethodName)) ∈ lw_gd := gdc_3 53 rfl rfl
theorem mk_1_71 : MK 1 71 0 mi_71 := ⟨mt_71, ms_71, by decide +kernel, ⟨w_532, w_533, rfl⟩⟩
set_option maxRecDepth 4096 in
theorem w_557 : (Jvm.Cond.methodLink "Dominofs" (339 : Nat) ({ cls := "Dominofs$Table", name := "coinsInAll", desc := "()I" } : Jvm.MethodName)) ∈ lw_gd := gdc_3 77 rfl rfl
set_option maxRecDepth 4096 in
theorem w_560 : (Jvm.Cond.code ({ cls := "Dominofs$Table", name := "coinsInAll", desc := "()I" } : Jvm.MethodName) prog_9_method_17_code (1 : Nat) (Option.some Jvm.ClassFile.FieldType.int)) ∈ lw_gd := gdc_3 80 rfl rfl
theorem ms_69 : MS mi_69 := ⟨(List.mem_filter.mp w_560).1, w_6, by decide +kernel, ⟨by decide +kernel, by decide +kernel⟩, Nat.le_of_ble_eq_true rfl⟩
set_option maxRecDepth 4096 in
theorem w_558 : (Jvm.Cond.instanceMethod ({ cls := "Dominofs$Table", name := "coinsInAll", desc := "()I" } : Jvm.MethodName)) ∈ lw_gd := gdc_3 78 rfl rfl
set_option maxRecDepth 4096 in
theorem w_559 : (Jvm.Cond.selects "Dominofs$Table" ({ cls := "Dominofs$Table", name := "coinsInAll", desc := "()I" } : Jvm.MethodName) ({ cls := "Dominofs$Table", name := "coinsInAll", desc := "()I" } : Jvm.MethodName)) ∈ lw_gd := gdc_3 79 rfl rfl
theorem mk_1_69 : MK 1 69 0 mi_69 := ⟨mt_69, ms_69, by decide +kernel, ⟨w_558, w_559, rfl⟩⟩
set_option maxRecDepth 4096 in
theorem w_808 : (Jvm.Cond.methodLink "Dominofs" (342 : Nat) ({ cls := "Dominofs$Table", name := "gameAt", desc := "(I)LDominofs$Game;" } : Jvm.MethodName)) ∈ lw_gd := gdc_4 88 rfl rfl
set_option maxRecDepth 4096 in
theorem w_328 : (Jvm.Cond.classLink "Dominofs" (288 : Nat) "Dominofs$Entry") ∈ lw_gd := gdc_2 88 rfl rfl
set_option maxRecDepth 4096 in
theorem w_329 : (Jvm.Cond.methodLink "Dominofs" (351 : Nat) ({ cls := "Dominofs$Table", name := "perform", desc := "(LDominofs$Entry;)V" } : Jvm.MethodName)) ∈ lw_gd := gdc_2 89 rfl rfl
set_option maxRecDepth 4096 in
theorem w_332 : (Jvm.Cond.code ({ cls := "Dominofs$Table", name := "perform", desc := "(LDominofs$Entry;)V" } : Jvm.MethodName) prog_9_method_8_code (3 : Nat) (Option.none : Option Jvm.ClassFile.FieldType)) ∈ lw_gd := gdc_2 92 rfl rfl
theorem ms_60 : MS mi_60 := ⟨(List.mem_filter.mp w_332).1, w_6, by decide +kernel, ⟨by decide +kernel, by decide +kernel⟩, Nat.le_of_ble_eq_true rfl⟩
set_option maxRecDepth 4096 in
theorem w_330 : (Jvm.Cond.instanceMethod ({ cls := "Dominofs$Table", name := "perform", desc := "(LDominofs$Entry;)V" } : Jvm.MethodName)) ∈ lw_gd := gdc_2 90 rfl rfl
set_option maxRecDepth 4096 in
theorem w_331 : (Jvm.Cond.selects "Dominofs$Table" ({ cls := "Dominofs$Table", name := "perform", desc := "(LDominofs$Entry;)V" } : Jvm.MethodName) ({ cls := "Dominofs$Table", name := "perform", desc := "(LDominofs$Entry;)V" } : Jvm.MethodName)) ∈ lw_gd := gdc_2 91 rfl rfl
theorem mk_1_60 : MK 1 60 1 mi_60 := ⟨mt_60, ms_60, by decide +kernel, ⟨w_330, w_331, rfl⟩⟩
set_option maxRecDepth 4096 in
theorem w_324 : (Jvm.Cond.methodLink "Dominofs" (354 : Nat) ({ cls := "Dominofs$Table", name := "clear", desc := "()V" } : Jvm.MethodName)) ∈ lw_gd := gdc_2 84 rfl rfl
set_option maxRecDepth 4096 in
theorem w_327 : (Jvm.Cond.code ({ cls := "Dominofs$Table", name := "clear", desc := "()V" } : Jvm.MethodName) prog_9_method_2_code (2 : Nat) (Option.none : Option Jvm.ClassFile.FieldType)) ∈ lw_gd := gdc_2 87 rfl rfl
theorem ms_54 : MS mi_54 := ⟨(List.mem_filter.mp w_327).1, w_6, by decide +kernel, ⟨by decide +kernel, by decide +kernel⟩, Nat.le_of_ble_eq_true rfl⟩
set_option maxRecDepth 4096 in
theorem w_325 : (Jvm.Cond.instanceMethod ({ cls := "Dominofs$Table", name := "clear", desc := "()V" } : Jvm.MethodName)) ∈ lw_gd := gdc_2 85 rfl rfl
set_option maxRecDepth 4096 in
theorem w_326 : (Jvm.Cond.selects "Dominofs$Table" ({ cls := "Dominofs$Table", name := "clear", desc := "()V" } : Jvm.MethodName) ({ cls := "Dominofs$Table", name := "clear", desc := "()V" } : Jvm.MethodName)) ∈ lw_gd := gdc_2 86 rfl rfl
theorem mk_1_54 : MK 1 54 0 mi_54 := ⟨mt_54, ms_54, by decide +kernel, ⟨w_325, w_326, rfl⟩⟩
set_option maxRecDepth 4096 in
theorem w_1170 : (Jvm.Cond.methodLink "DominofsModel" (1 : Nat) ({ cls := "java/lang/Object", name := "<init>", desc := "()V" } : Jvm.MethodName)) ∈ lw_gd := gdc_5 210 rfl rfl
set_option maxRecDepth 4096 in
theorem w_1173 : (Jvm.Cond.fieldLink "DominofsModel" (7 : Nat) "DominofsModel" "pips" "[I") ∈ lw_gd := gdc_5 213 rfl rfl
theorem fk_12_7 : FK "DominofsModel" 7 12 2 := FK_one rfl (rr := (RX12, TX12, 41)) rfl (by decide) w_1173 (Or.inl rfl)
set_option maxRecDepth 4096 in
theorem w_1174 : (Jvm.Cond.fieldLink "DominofsModel" (13 : Nat) "DominofsModel" "players" "[I") ∈ lw_gd := gdc_5 214 rfl rfl
theorem fk_12_13 : FK "DominofsModel" 13 12 3 := FK_one rfl (rr := (RX12, TX12, 41)) rfl (by decide) w_1174 (Or.inl rfl)
set_option maxRecDepth 4096 in
theorem w_1175 : (Jvm.Cond.fieldLink "DominofsModel" (16 : Nat) "DominofsModel" "tiles" "[I") ∈ lw_gd := gdc_5 215 rfl rfl
theorem fk_12_16 : FK "DominofsModel" 16 12 4 := FK_one rfl (rr := (RX12, TX12, 41)) rfl (by decide) w_1175 (Or.inl rfl)
set_option maxRecDepth 4096 in
theorem w_1295 : (Jvm.Cond.arrayClass Jvm.ClassFile.FieldType.boolean) ∈ lw_gd := gdc_6 95 rfl rfl
set_option maxRecDepth 4096 in
theorem w_1176 : (Jvm.Cond.fieldLink "DominofsModel" (19 : Nat) "DominofsModel" "hasDraws" "[Z") ∈ lw_gd := gdc_5 216 rfl rfl
theorem fk_12_19 : FK "DominofsModel" 19 12 5 := FK_one rfl (rr := (RX12, TX12, 41)) rfl (by decide) w_1176 (Or.inl rfl)
set_option maxRecDepth 4096 in
theorem w_1177 : (Jvm.Cond.fieldLink "DominofsModel" (23 : Nat) "DominofsModel" "rule" "[I") ∈ lw_gd := gdc_5 217 rfl rfl
theorem fk_12_23 : FK "DominofsModel" 23 12 6 := FK_one rfl (rr := (RX12, TX12, 41)) rfl (by decide) w_1177 (Or.inl rfl)
set_option maxRecDepth 4096 in
theorem w_1180 : (Jvm.Cond.fieldLink "DominofsModel" (26 : Nat) "DominofsModel" "letter" "[I") ∈ lw_gd := gdc_5 220 rfl rfl
theorem fk_12_26 : FK "DominofsModel" 26 12 9 := FK_one rfl (rr := (RX12, TX12, 41)) rfl (by decide) w_1180 (Or.inl rfl)
set_option maxRecDepth 4096 in
theorem w_1181 : (Jvm.Cond.fieldLink "DominofsModel" (29 : Nat) "DominofsModel" "gameAt" "[I") ∈ lw_gd := gdc_5 221 rfl rfl
theorem fk_12_29 : FK "DominofsModel" 29 12 10 := FK_one rfl (rr := (RX12, TX12, 41)) rfl (by decide) w_1181 (Or.inl rfl)
set_option maxRecDepth 4096 in
theorem w_1182 : (Jvm.Cond.fieldLink "DominofsModel" (32 : Nat) "DominofsModel" "one" "[I") ∈ lw_gd := gdc_5 222 rfl rfl
theorem fk_12_32 : FK "DominofsModel" 32 12 11 := FK_one rfl (rr := (RX12, TX12, 41)) rfl (by decide) w_1182 (Or.inl rfl)
set_option maxRecDepth 4096 in
theorem w_1183 : (Jvm.Cond.fieldLink "DominofsModel" (35 : Nat) "DominofsModel" "two" "[I") ∈ lw_gd := gdc_5 223 rfl rfl
theorem fk_12_35 : FK "DominofsModel" 35 12 12 := FK_one rfl (rr := (RX12, TX12, 41)) rfl (by decide) w_1183 (Or.inl rfl)
set_option maxRecDepth 4096 in
theorem w_1184 : (Jvm.Cond.fieldLink "DominofsModel" (38 : Nat) "DominofsModel" "three" "[I") ∈ lw_gd := gdc_5 224 rfl rfl
theorem fk_12_38 : FK "DominofsModel" 38 12 13 := FK_one rfl (rr := (RX12, TX12, 41)) rfl (by decide) w_1184 (Or.inl rfl)
set_option maxRecDepth 4096 in
theorem w_1186 : (Jvm.Cond.fieldLink "DominofsModel" (41 : Nat) "DominofsModel" "until" "[I") ∈ lw_gd := gdc_5 226 rfl rfl
theorem fk_12_41 : FK "DominofsModel" 41 12 15 := FK_one rfl (rr := (RX12, TX12, 41)) rfl (by decide) w_1186 (Or.inl rfl)
set_option maxRecDepth 4096 in
theorem w_1188 : (Jvm.Cond.fieldLink "DominofsModel" (44 : Nat) "DominofsModel" "house" "[I") ∈ lw_gd := gdc_5 228 rfl rfl
theorem fk_12_44 : FK "DominofsModel" 44 12 17 := FK_one rfl (rr := (RX12, TX12, 41)) rfl (by decide) w_1188 (Or.inl rfl)
set_option maxRecDepth 4096 in
theorem w_1189 : (Jvm.Cond.fieldLink "DominofsModel" (47 : Nat) "DominofsModel" "row" "[I") ∈ lw_gd := gdc_5 229 rfl rfl
theorem fk_12_47 : FK "DominofsModel" 47 12 18 := FK_one rfl (rr := (RX12, TX12, 41)) rfl (by decide) w_1189 (Or.inl rfl)
set_option maxRecDepth 4096 in
theorem w_1190 : (Jvm.Cond.fieldLink "DominofsModel" (50 : Nat) "DominofsModel" "hand" "[I") ∈ lw_gd := gdc_5 230 rfl rfl
theorem fk_12_50 : FK "DominofsModel" 50 12 19 := FK_one rfl (rr := (RX12, TX12, 41)) rfl (by decide) w_1190 (Or.inl rfl)
set_option maxRecDepth 4096 in
theorem w_1191 : (Jvm.Cond.fieldLink "DominofsModel" (53 : Nat) "DominofsModel" "next" "[I") ∈ lw_gd := gdc_5 231 rfl rfl
theorem fk_12_53 : FK "DominofsModel" 53 12 20 := FK_one rfl (rr := (RX12, TX12, 41)) rfl (by decide) w_1191 (Or.inl rfl)
set_option maxRecDepth 4096 in
theorem w_1192 : (Jvm.Cond.fieldLink "DominofsModel" (56 : Nat) "DominofsModel" "turn" "[I") ∈ lw_gd := gdc_5 232 rfl rfl
theorem fk_12_56 : FK "DominofsModel" 56 12 21 := FK_one rfl (rr := (RX12, TX12, 41)) rfl (by decide) w_1192 (Or.inl rfl)
set_option maxRecDepth 4096 in
theorem w_1193 : (Jvm.Cond.fieldLink "DominofsModel" (59 : Nat) "DominofsModel" "passes" "[I") ∈ lw_gd := gdc_5 233 rfl rfl
theorem fk_12_59 : FK "DominofsModel" 59 12 22 := FK_one rfl (rr := (RX12, TX12, 41)) rfl (by decide) w_1193 (Or.inl rfl)
set_option maxRecDepth 4096 in
theorem w_1194 : (Jvm.Cond.fieldLink "DominofsModel" (62 : Nat) "DominofsModel" "lastLaid" "[I") ∈ lw_gd := gdc_5 234 rfl rfl
theorem fk_12_62 : FK "DominofsModel" 62 12 23 := FK_one rfl (rr := (RX12, TX12, 41)) rfl (by decide) w_1194 (Or.inl rfl)
set_option maxRecDepth 4096 in
theorem w_1195 : (Jvm.Cond.fieldLink "DominofsModel" (65 : Nat) "DominofsModel" "line" "[I") ∈ lw_gd := gdc_5 235 rfl rfl
theorem fk_12_65 : FK "DominofsModel" 65 12 24 := FK_one rfl (rr := (RX12, TX12, 41)) rfl (by decide) w_1195 (Or.inl rfl)
set_option maxRecDepth 4096 in
theorem w_1196 : (Jvm.Cond.fieldLink "DominofsModel" (68 : Nat) "DominofsModel" "first" "[I") ∈ lw_gd := gdc_5 236 rfl rfl
theorem fk_12_68 : FK "DominofsModel" 68 12 25 := FK_one rfl (rr := (RX12, TX12, 41)) rfl (by decide) w_1196 (Or.inl rfl)
set_option maxRecDepth 4096 in
theorem w_1197 : (Jvm.Cond.fieldLink "DominofsModel" (71 : Nat) "DominofsModel" "laid" "[I") ∈ lw_gd := gdc_5 237 rfl rfl
theorem fk_12_71 : FK "DominofsModel" 71 12 26 := FK_one rfl (rr := (RX12, TX12, 41)) rfl (by decide) w_1197 (Or.inl rfl)
set_option maxRecDepth 4096 in
theorem w_1198 : (Jvm.Cond.fieldLink "DominofsModel" (74 : Nat) "DominofsModel" "isBlocked" "[Z") ∈ lw_gd := gdc_5 238 rfl rfl
theorem fk_12_74 : FK "DominofsModel" 74 12 27 := FK_one rfl (rr := (RX12, TX12, 41)) rfl (by decide) w_1198 (Or.inl rfl)
set_option maxRecDepth 4096 in
theorem w_1199 : (Jvm.Cond.fieldLink "DominofsModel" (77 : Nat) "DominofsModel" "winner" "[I") ∈ lw_gd := gdc_5 239 rfl rfl
theorem fk_12_77 : FK "DominofsModel" 77 12 28 := FK_one rfl (rr := (RX12, TX12, 41)) rfl (by decide) w_1199 (Or.inl rfl)
set_option maxRecDepth 4096 in
theorem w_1200 : (Jvm.Cond.fieldLink "DominofsModel" (80 : Nat) "DominofsModel" "ruling" "[I") ∈ lw_gd := gdc_6 0 rfl rfl
theorem fk_12_80 : FK "DominofsModel" 80 12 29 := FK_one rfl (rr := (RX12, TX12, 41)) rfl (by decide) w_1200 (Or.inl rfl)
set_option maxRecDepth 4096 in
theorem w_1201 : (Jvm.Cond.fieldLink "DominofsModel" (83 : Nat) "DominofsModel" "appeals" "[I") ∈ lw_gd := gdc_6 1 rfl rfl
theorem fk_12_83 : FK "DominofsModel" 83 12 30 := FK_one rfl (rr := (RX12, TX12, 41)) rfl (by decide) w_1201 (Or.inl rfl)
set_option maxRecDepth 4096 in
theorem w_1202 : (Jvm.Cond.fieldLink "DominofsModel" (86 : Nat) "DominofsModel" "over" "[I") ∈ lw_gd := gdc_6 2 rfl rfl
theorem fk_12_86 : FK "DominofsModel" 86 12 31 := FK_one rfl (rr := (RX12, TX12, 41)) rfl (by decide) w_1202 (Or.inl rfl)
set_option maxRecDepth 4096 in
theorem w_1203 : (Jvm.Cond.fieldLink "DominofsModel" (89 : Nat) "DominofsModel" "bets" "[I") ∈ lw_gd := gdc_6 3 rfl rfl
theorem fk_12_89 : FK "DominofsModel" 89 12 32 := FK_one rfl (rr := (RX12, TX12, 41)) rfl (by decide) w_1203 (Or.inl rfl)
set_option maxRecDepth 4096 in
theorem w_1204 : (Jvm.Cond.fieldLink "DominofsModel" (92 : Nat) "DominofsModel" "better" "[I") ∈ lw_gd := gdc_6 4 rfl rfl
theorem fk_12_92 : FK "DominofsModel" 92 12 33 := FK_one rfl (rr := (RX12, TX12, 41)) rfl (by decide) w_1204 (Or.inl rfl)
set_option maxRecDepth 4096 in
theorem w_1205 : (Jvm.Cond.fieldLink "DominofsModel" (95 : Nat) "DominofsModel" "betOn" "[I") ∈ lw_gd := gdc_6 5 rfl rfl
theorem fk_12_95 : FK "DominofsModel" 95 12 34 := FK_one rfl (rr := (RX12, TX12, 41)) rfl (by decide) w_1205 (Or.inl rfl)
set_option maxRecDepth 4096 in
theorem w_1206 : (Jvm.Cond.fieldLink "DominofsModel" (98 : Nat) "DominofsModel" "coins" "[I") ∈ lw_gd := gdc_6 6 rfl rfl
theorem fk_12_98 : FK "DominofsModel" 98 12 35 := FK_one rfl (rr := (RX12, TX12, 41)) rfl (by decide) w_1206 (Or.inl rfl)
set_option maxRecDepth 4096 in
theorem w_1207 : (Jvm.Cond.fieldLink "DominofsModel" (101 : Nat) "DominofsModel" "paid" "[I") ∈ lw_gd := gdc_6 7 rfl rfl
theorem fk_12_101 : FK "DominofsModel" 101 12 36 := FK_one rfl (rr := (RX12, TX12, 41)) rfl (by decide) w_1207 (Or.inl rfl)
set_option maxRecDepth 4096 in
theorem w_1208 : (Jvm.Cond.fieldLink "DominofsModel" (104 : Nat) "DominofsModel" "purse" "[I") ∈ lw_gd := gdc_6 8 rfl rfl
theorem fk_12_104 : FK "DominofsModel" 104 12 37 := FK_one rfl (rr := (RX12, TX12, 41)) rfl (by decide) w_1208 (Or.inl rfl)
set_option maxRecDepth 4096 in
theorem w_1210 : (Jvm.Cond.fieldLink "DominofsModel" (107 : Nat) "DominofsModel" "why" "I") ∈ lw_gd := gdc_6 10 rfl rfl
theorem fk_12_107 : FK "DominofsModel" 107 12 39 := FK_one rfl (rr := (RX12, TX12, 41)) rfl (by decide) w_1210 (Or.inl rfl)
set_option maxRecDepth 4096 in
theorem w_1211 : (Jvm.Cond.fieldLink "DominofsModel" (111 : Nat) "DominofsModel" "whyEnd" "I") ∈ lw_gd := gdc_6 11 rfl rfl
theorem fk_12_111 : FK "DominofsModel" 111 12 40 := FK_one rfl (rr := (RX12, TX12, 41)) rfl (by decide) w_1211 (Or.inl rfl)
set_option maxRecDepth 4096 in
theorem w_1171 : (Jvm.Cond.fieldLink "DominofsModel" (114 : Nat) "DominofsModel" "thrown" "I") ∈ lw_gd := gdc_5 211 rfl rfl
theorem fk_12_114 : FK "DominofsModel" 114 12 0 := FK_one rfl (rr := (RX12, TX12, 41)) rfl (by decide) w_1171 (Or.inl rfl)
set_option maxRecDepth 4096 in
theorem w_1187 : (Jvm.Cond.fieldLink "DominofsModel" (117 : Nat) "DominofsModel" "games" "I") ∈ lw_gd := gdc_5 227 rfl rfl
theorem fk_12_117 : FK "DominofsModel" 117 12 16 := FK_one rfl (rr := (RX12, TX12, 41)) rfl (by decide) w_1187 (Or.inl rfl)
set_option maxRecDepth 4096 in
theorem w_1304 : (Jvm.Cond.methodLink "DominofsModel" (120 : Nat) ({ cls := "DominofsModel", name := "in", desc := "(III)Z" } : Jvm.MethodName)) ∈ lw_gd := gdc_6 104 rfl rfl
set_option maxRecDepth 4096 in
theorem w_1306 : (Jvm.Cond.code ({ cls := "DominofsModel", name := "in", desc := "(III)Z" } : Jvm.MethodName) prog_14_method_3_code (3 : Nat) (Option.some Jvm.ClassFile.FieldType.boolean)) ∈ lw_gd := gdc_6 106 rfl rfl
set_option maxRecDepth 4096 in
theorem w_9 : (Jvm.Cond.initialized "DominofsModel") ∈ lw_gd := gdc_1 9 rfl rfl
theorem ms_126 : MS mi_126 := ⟨(List.mem_filter.mp w_1306).1, w_9, by decide +kernel, ⟨by decide +kernel, by decide +kernel⟩, Nat.le_of_ble_eq_true rfl⟩
set_option maxRecDepth 4096 in
theorem w_1305 : (Jvm.Cond.static ({ cls := "DominofsModel", name := "in", desc := "(III)Z" } : Jvm.MethodName)) ∈ lw_gd := gdc_6 105 rfl rfl
theorem mk_0_126 : MK 0 126 3 mi_126 := ⟨mt_126, ms_126, by decide +kernel, w_1305⟩
set_option maxRecDepth 4096 in
theorem w_1310 : (Jvm.Cond.methodLink "DominofsModel" (124 : Nat) ({ cls := "DominofsModel", name := "manyTiles", desc := "(I)I" } : Jvm.MethodName)) ∈ lw_gd := gdc_6 110 rfl rfl
set_option maxRecDepth 4096 in
theorem w_1312 : (Jvm.Cond.code ({ cls := "DominofsModel", name := "manyTiles", desc := "(I)I" } : Jvm.MethodName) prog_14_method_4_code (1 : Nat) (Option.some Jvm.ClassFile.FieldType.int)) ∈ lw_gd := gdc_6 112 rfl rfl
theorem ms_127 : MS mi_127 := ⟨(List.mem_filter.mp w_1312).1, w_9, by decide +kernel, ⟨by decide +kernel, by decide +kernel⟩, Nat.le_of_ble_eq_true rfl⟩
set_option maxRecDepth 4096 in
theorem w_1311 : (Jvm.Cond.static ({ cls := "DominofsModel", name := "manyTiles", desc := "(I)I" } : Jvm.MethodName)) ∈ lw_gd := gdc_6 111 rfl rfl
theorem mk_0_127 : MK 0 127 1 mi_127 := ⟨mt_127, ms_127, by decide +kernel, w_1311⟩
set_option maxRecDepth 4096 in
theorem w_1307 : (Jvm.Cond.methodLink "DominofsModel" (128 : Nat) ({ cls := "DominofsModel", name := "isRuling", desc := "(I)Z" } : Jvm.MethodName)) ∈ lw_gd := gdc_6 107 rfl rfl
set_option maxRecDepth 4096 in
theorem w_1309 : (Jvm.Cond.code ({ cls := "DominofsModel", name := "isRuling", desc := "(I)Z" } : Jvm.MethodName) prog_14_method_5_code (1 : Nat) (Option.some Jvm.ClassFile.FieldType.boolean)) ∈ lw_gd := gdc_6 109 rfl rfl
theorem ms_128 : MS mi_128 := ⟨(List.mem_filter.mp w_1309).1, w_9, by decide +kernel, ⟨by decide +kernel, by decide +kernel⟩, Nat.le_of_ble_eq_true rfl⟩
set_option maxRecDepth 4096 in
theorem w_1308 : (Jvm.Cond.static ({ cls := "DominofsModel", name := "isRuling", desc := "(I)Z" } : Jvm.MethodName)) ∈ lw_gd := gdc_6 108 rfl rfl
theorem mk_0_128 : MK 0 128 1 mi_128 := ⟨mt_128, ms_128, by decide +kernel, w_1308⟩
set_option maxRecDepth 4096 in
theorem w_1172 : (Jvm.Cond.fieldLink "DominofsModel" (132 : Nat) "DominofsModel" "houses" "I") ∈ lw_gd := gdc_5 212 rfl rfl
theorem fk_12_132 : FK "DominofsModel" 132 12 1 := FK_one rfl (rr := (RX12, TX12, 41)) rfl (by decide) w_1172 (Or.inl rfl)
set_option maxRecDepth 4096 in
theorem w_1178 : (Jvm.Cond.fieldLink "DominofsModel" (135 : Nat) "DominofsModel" "entries" "I") ∈ lw_gd := gdc_5 218 rfl rfl
theorem fk_12_135 : FK "DominofsModel" 135 12 7 := FK_one rfl (rr := (RX12, TX12, 41)) rfl (by decide) w_1178 (Or.inl rfl)
set_option maxRecDepth 4096 in
theorem w_1326 : (Jvm.Cond.methodLink "DominofsModel" (138 : Nat) ({ cls := "DominofsModel", name := "does", desc := "(I)V" } : Jvm.MethodName)) ∈ lw_gd := gdc_6 126 rfl rfl
set_option maxRecDepth 4096 in
theorem w_1329 : (Jvm.Cond.code ({ cls := "DominofsModel", name := "does", desc := "(I)V" } : Jvm.MethodName) prog_14_method_13_code (4 : Nat) (Option.none : Option Jvm.ClassFile.FieldType)) ∈ lw_gd := gdc_6 129 rfl rfl
theorem ms_136 : MS mi_136 := ⟨(List.mem_filter.mp w_1329).1, w_9, by decide +kernel, ⟨by decide +kernel, by decide +kernel⟩, Nat.le_of_ble_eq_true rfl⟩
set_option maxRecDepth 4096 in
theorem w_1328 : (Jvm.Cond.instanceMethod ({ cls := "DominofsModel", name := "does", desc := "(I)V" } : Jvm.MethodName)) ∈ lw_gd := gdc_6 128 rfl rfl
theorem ws_28 : Jvm.Cond.selects "DominofsModel" ({ cls := "DominofsModel", name := "does", desc := "(I)V" } : MethodName) ({ cls := "DominofsModel", name := "does", desc := "(I)V" } : MethodName) ∈ lw_gd := gd_s 28 rfl rfl
theorem mk_1_136 : MK 1 136 1 mi_136 := ⟨mt_136, ms_136, by decide +kernel, ⟨w_1328, ws_28, rfl⟩⟩
set_option maxRecDepth 4096 in
theorem w_1330 : (Jvm.Cond.methodLink "DominofsModel" (142 : Nat) ({ cls := "DominofsModel", name := "begins", desc := "(III)V" } : Jvm.MethodName)) ∈ lw_gd := gdc_6 130 rfl rfl
set_option maxRecDepth 4096 in
theorem w_1333 : (Jvm.Cond.code ({ cls := "DominofsModel", name := "begins", desc := "(III)V" } : Jvm.MethodName) prog_14_method_14_code (10 : Nat) (Option.none : Option Jvm.ClassFile.FieldType)) ∈ lw_gd := gdc_6 133 rfl rfl
theorem ms_137 : MS mi_137 := ⟨(List.mem_filter.mp w_1333).1, w_9, by decide +kernel, ⟨by decide +kernel, by decide +kernel⟩, Nat.le_of_ble_eq_true rfl⟩
set_option maxRecDepth 4096 in
theorem w_1332 : (Jvm.Cond.instanceMethod ({ cls := "DominofsModel", name := "begins", desc := "(III)V" } : Jvm.MethodName)) ∈ lw_gd := gdc_6 132 rfl rfl
theorem ws_29 : Jvm.Cond.selects "DominofsModel" ({ cls := "DominofsModel", name := "begins", desc := "(III)V" } : MethodName) ({ cls := "DominofsModel", name := "begins", desc := "(III)V" } : MethodName) ∈ lw_gd := gd_s 29 rfl rfl
theorem mk_1_137 : MK 1 137 3 mi_137 := ⟨mt_137, ms_137, by decide +kernel, ⟨w_1332, ws_29, rfl⟩⟩
set_option maxRecDepth 4096 in
theorem w_1342 : (Jvm.Cond.methodLink "DominofsModel" (146 : Nat) ({ cls := "DominofsModel", name := "lays", desc := "(IIZI)V" } : Jvm.MethodName)) ∈ lw_gd := gdc_6 142 rfl rfl
set_option maxRecDepth 4096 in
theorem w_1345 : (Jvm.Cond.code ({ cls := "DominofsModel", name := "lays", desc := "(IIZI)V" } : Jvm.MethodName) prog_14_method_16_code (8 : Nat) (Option.none : Option Jvm.ClassFile.FieldType)) ∈ lw_gd := gdc_6 145 rfl rfl
theorem ms_139 : MS mi_139 := ⟨(List.mem_filter.mp w_1345).1, w_9, by decide +kernel, ⟨by decide +kernel, by decide +kernel⟩, Nat.le_of_ble_eq_true rfl⟩
set_option maxRecDepth 4096 in
theorem w_1344 : (Jvm.Cond.instanceMethod ({ cls := "DominofsModel", name := "lays", desc := "(IIZI)V" } : Jvm.MethodName)) ∈ lw_gd := gdc_6 144 rfl rfl
theorem ws_31 : Jvm.Cond.selects "DominofsModel" ({ cls := "DominofsModel", name := "lays", desc := "(IIZI)V" } : MethodName) ({ cls := "DominofsModel", name := "lays", desc := "(IIZI)V" } : MethodName) ∈ lw_gd := gd_s 31 rfl rfl
theorem mk_1_139 : MK 1 139 4 mi_139 := ⟨mt_139, ms_139, by decide +kernel, ⟨w_1344, ws_31, rfl⟩⟩
set_option maxRecDepth 4096 in
theorem w_1368 : (Jvm.Cond.methodLink "DominofsModel" (150 : Nat) ({ cls := "DominofsModel", name := "passesOne", desc := "(II)V" } : Jvm.MethodName)) ∈ lw_gd := gdc_6 168 rfl rfl
set_option maxRecDepth 4096 in
theorem w_1371 : (Jvm.Cond.code ({ cls := "DominofsModel", name := "passesOne", desc := "(II)V" } : Jvm.MethodName) prog_14_method_17_code (3 : Nat) (Option.none : Option Jvm.ClassFile.FieldType)) ∈ lw_gd := gdc_6 171 rfl rfl
theorem ms_140 : MS mi_140 := ⟨(List.mem_filter.mp w_1371).1, w_9, by decide +kernel, ⟨by decide +kernel, by decide +kernel⟩, Nat.le_of_ble_eq_true rfl⟩
set_option maxRecDepth 4096 in
theorem w_1370 : (Jvm.Cond.instanceMethod ({ cls := "DominofsModel", name := "passesOne", desc := "(II)V" } : Jvm.MethodName)) ∈ lw_gd := gdc_6 170 rfl rfl
theorem ws_36 : Jvm.Cond.selects "DominofsModel" ({ cls := "DominofsModel", name := "passesOne", desc := "(II)V" } : MethodName) ({ cls := "DominofsModel", name := "passesOne", desc := "(II)V" } : MethodName) ∈ lw_gd := gd_s 36 rfl rfl
theorem mk_1_140 : MK 1 140 2 mi_140 := ⟨mt_140, ms_140, by decide +kernel, ⟨w_1370, ws_36, rfl⟩⟩
set_option maxRecDepth 4096 in
theorem w_1356 : (Jvm.Cond.methodLink "DominofsModel" (154 : Nat) ({ cls := "DominofsModel", name := "pays", desc := "(II)V" } : Jvm.MethodName)) ∈ lw_gd := gdc_6 156 rfl rfl
set_option maxRecDepth 4096 in
theorem w_1359 : (Jvm.Cond.code ({ cls := "DominofsModel", name := "pays", desc := "(II)V" } : Jvm.MethodName) prog_14_method_21_code (8 : Nat) (Option.none : Option Jvm.ClassFile.FieldType)) ∈ lw_gd := gdc_6 159 rfl rfl
theorem ms_144 : MS mi_144 := ⟨(List.mem_filter.mp w_1359).1, w_9, by decide +kernel, ⟨by decide +kernel, by decide +kernel⟩, Nat.le_of_ble_eq_true rfl⟩
set_option maxRecDepth 4096 in
theorem w_1358 : (Jvm.Cond.instanceMethod ({ cls := "DominofsModel", name := "pays", desc := "(II)V" } : Jvm.MethodName)) ∈ lw_gd := gdc_6 158 rfl rfl
theorem ws_33 : Jvm.Cond.selects "DominofsModel" ({ cls := "DominofsModel", name := "pays", desc := "(II)V" } : MethodName) ({ cls := "DominofsModel", name := "pays", desc := "(II)V" } : MethodName) ∈ lw_gd := gd_s 33 rfl rfl
theorem mk_1_144 : MK 1 144 2 mi_144 := ⟨mt_144, ms_144, by decide +kernel, ⟨w_1358, ws_33, rfl⟩⟩
set_option maxRecDepth 4096 in
theorem w_1372 : (Jvm.Cond.methodLink "DominofsModel" (157 : Nat) ({ cls := "DominofsModel", name := "ruled", desc := "(I)I" } : Jvm.MethodName)) ∈ lw_gd := gdc_6 172 rfl rfl
set_option maxRecDepth 4096 in
theorem w_1375 : (Jvm.Cond.code ({ cls := "DominofsModel", name := "ruled", desc := "(I)I" } : Jvm.MethodName) prog_14_method_19_code (6 : Nat) (Option.some Jvm.ClassFile.FieldType.int)) ∈ lw_gd := gdc_6 175 rfl rfl
theorem ms_142 : MS mi_142 := ⟨(List.mem_filter.mp w_1375).1, w_9, by decide +kernel, ⟨by decide +kernel, by decide +kernel⟩, Nat.le_of_ble_eq_true rfl⟩
set_option maxRecDepth 4096 in
theorem w_1374 : (Jvm.Cond.instanceMethod ({ cls := "DominofsModel", name := "ruled", desc := "(I)I" } : Jvm.MethodName)) ∈ lw_gd := gdc_6 174 rfl rfl
theorem ws_37 : Jvm.Cond.selects "DominofsModel" ({ cls := "DominofsModel", name := "ruled", desc := "(I)I" } : MethodName) ({ cls := "DominofsModel", name := "ruled", desc := "(I)I" } : MethodName) ∈ lw_gd := gd_s 37 rfl rfl
theorem mk_1_142 : MK 1 142 1 mi_142 := ⟨mt_142, ms_142, by decide +kernel, ⟨w_1374, ws_37, rfl⟩⟩
set_option maxRecDepth 4096 in
theorem w_1334 : (Jvm.Cond.methodLink "DominofsModel" (160 : Nat) ({ cls := "DominofsModel", name := "setOf", desc := "(I)I" } : Jvm.MethodName)) ∈ lw_gd := gdc_6 134 rfl rfl
set_option maxRecDepth 4096 in
theorem w_1337 : (Jvm.Cond.code ({ cls := "DominofsModel", name := "setOf", desc := "(I)I" } : Jvm.MethodName) prog_14_method_7_code (2 : Nat) (Option.some Jvm.ClassFile.FieldType.int)) ∈ lw_gd := gdc_6 137 rfl rfl
theorem ms_130 : MS mi_130 := ⟨(List.mem_filter.mp w_1337).1, w_9, by decide +kernel, ⟨by decide +kernel, by decide +kernel⟩, Nat.le_of_ble_eq_true rfl⟩
set_option maxRecDepth 4096 in
theorem w_1336 : (Jvm.Cond.instanceMethod ({ cls := "DominofsModel", name := "setOf", desc := "(I)I" } : Jvm.MethodName)) ∈ lw_gd := gdc_6 136 rfl rfl
theorem ws_30 : Jvm.Cond.selects "DominofsModel" ({ cls := "DominofsModel", name := "setOf", desc := "(I)I" } : MethodName) ({ cls := "DominofsModel", name := "setOf", desc := "(I)I" } : MethodName) ∈ lw_gd := gd_s 30 rfl rfl
theorem mk_1_130 : MK 1 130 1 mi_130 := ⟨mt_130, ms_130, by decide +kernel, ⟨w_1336, ws_30, rfl⟩⟩
set_option maxRecDepth 4096 in
theorem w_1338 : (Jvm.Cond.constantLong "DominofsModel" (163 : Nat) (1103515245 : Int64)) ∈ lw_gd := gdc_6 138 rfl rfl
set_option maxRecDepth 4096 in
theorem w_1339 : (Jvm.Cond.constantLong "DominofsModel" (165 : Nat) (12345 : Int64)) ∈ lw_gd := gdc_6 139 rfl rfl
set_option maxRecDepth 4096 in
theorem w_1340 : (Jvm.Cond.constantLong "DominofsModel" (167 : Nat) (2147483648 : Int64)) ∈ lw_gd := gdc_6 140 rfl rfl
set_option maxRecDepth 4096 in
theorem w_1341 : (Jvm.Cond.constantLong "DominofsModel" (169 : Nat) (65536 : Int64)) ∈ lw_gd := gdc_6 141 rfl rfl
set_option maxRecDepth 4096 in
theorem w_1346 : (Jvm.Cond.methodLink "DominofsModel" (171 : Nat) ({ cls := "DominofsModel", name := "low", desc := "(II)I" } : Jvm.MethodName)) ∈ lw_gd := gdc_6 146 rfl rfl
set_option maxRecDepth 4096 in
theorem w_1348 : (Jvm.Cond.code ({ cls := "DominofsModel", name := "low", desc := "(II)I" } : Jvm.MethodName) prog_14_method_9_code (4 : Nat) (Option.some Jvm.ClassFile.FieldType.int)) ∈ lw_gd := gdc_6 148 rfl rfl
theorem ms_132 : MS mi_132 := ⟨(List.mem_filter.mp w_1348).1, w_9, by decide +kernel, ⟨by decide +kernel, by decide +kernel⟩, Nat.le_of_ble_eq_true rfl⟩
set_option maxRecDepth 4096 in
theorem w_1347 : (Jvm.Cond.static ({ cls := "DominofsModel", name := "low", desc := "(II)I" } : Jvm.MethodName)) ∈ lw_gd := gdc_6 147 rfl rfl
theorem mk_0_132 : MK 0 132 2 mi_132 := ⟨mt_132, ms_132, by decide +kernel, w_1347⟩
set_option maxRecDepth 4096 in
theorem w_1349 : (Jvm.Cond.methodLink "DominofsModel" (175 : Nat) ({ cls := "DominofsModel", name := "high", desc := "(II)I" } : Jvm.MethodName)) ∈ lw_gd := gdc_6 149 rfl rfl
set_option maxRecDepth 4096 in
theorem w_1351 : (Jvm.Cond.code ({ cls := "DominofsModel", name := "high", desc := "(II)I" } : Jvm.MethodName) prog_14_method_10_code (4 : Nat) (Option.some Jvm.ClassFile.FieldType.int)) ∈ lw_gd := gdc_6 151 rfl rfl
theorem ms_133 : MS mi_133 := ⟨(List.mem_filter.mp w_1351).1, w_9, by decide +kernel, ⟨by decide +kernel, by decide +kernel⟩, Nat.le_of_ble_eq_true rfl⟩
set_option maxRecDepth 4096 in
theorem w_1350 : (Jvm.Cond.static ({ cls := "DominofsModel", name := "high", desc := "(II)I" } : Jvm.MethodName)) ∈ lw_gd := gdc_6 150 rfl rfl
theorem mk_0_133 : MK 0 133 2 mi_133 := ⟨mt_133, ms_133, by decide +kernel, w_1350⟩
set_option maxRecDepth 4096 in
theorem w_1352 : (Jvm.Cond.methodLink "DominofsModel" (178 : Nat) ({ cls := "DominofsModel", name := "endOf", desc := "(IZ)I" } : Jvm.MethodName)) ∈ lw_gd := gdc_6 152 rfl rfl
set_option maxRecDepth 4096 in
theorem w_1355 : (Jvm.Cond.code ({ cls := "DominofsModel", name := "endOf", desc := "(IZ)I" } : Jvm.MethodName) prog_14_method_15_code (4 : Nat) (Option.some Jvm.ClassFile.FieldType.int)) ∈ lw_gd := gdc_6 155 rfl rfl
theorem ms_138 : MS mi_138 := ⟨(List.mem_filter.mp w_1355).1, w_9, by decide +kernel, ⟨by decide +kernel, by decide +kernel⟩, Nat.le_of_ble_eq_true rfl⟩
set_option maxRecDepth 4096 in
theorem w_1354 : (Jvm.Cond.instanceMethod ({ cls := "DominofsModel", name := "endOf", desc := "(IZ)I" } : Jvm.MethodName)) ∈ lw_gd := gdc_6 154 rfl rfl
theorem ws_32 : Jvm.Cond.selects "DominofsModel" ({ cls := "DominofsModel", name := "endOf", desc := "(IZ)I" } : MethodName) ({ cls := "DominofsModel", name := "endOf", desc := "(IZ)I" } : MethodName) ∈ lw_gd := gd_s 32 rfl rfl
theorem mk_1_138 : MK 1 138 2 mi_138 := ⟨mt_138, ms_138, by decide +kernel, ⟨w_1354, ws_32, rfl⟩⟩
set_option maxRecDepth 4096 in
theorem w_1364 : (Jvm.Cond.methodLink "DominofsModel" (182 : Nat) ({ cls := "DominofsModel", name := "playersOf", desc := "(I)I" } : Jvm.MethodName)) ∈ lw_gd := gdc_6 164 rfl rfl
set_option maxRecDepth 4096 in
theorem w_1367 : (Jvm.Cond.code ({ cls := "DominofsModel", name := "playersOf", desc := "(I)I" } : Jvm.MethodName) prog_14_method_8_code (2 : Nat) (Option.some Jvm.ClassFile.FieldType.int)) ∈ lw_gd := gdc_6 167 rfl rfl
theorem ms_131 : MS mi_131 := ⟨(List.mem_filter.mp w_1367).1, w_9, by decide +kernel, ⟨by decide +kernel, by decide +kernel⟩, Nat.le_of_ble_eq_true rfl⟩
set_option maxRecDepth 4096 in
theorem w_1366 : (Jvm.Cond.instanceMethod ({ cls := "DominofsModel", name := "playersOf", desc := "(I)I" } : Jvm.MethodName)) ∈ lw_gd := gdc_6 166 rfl rfl
theorem ws_35 : Jvm.Cond.selects "DominofsModel" ({ cls := "DominofsModel", name := "playersOf", desc := "(I)I" } : MethodName) ({ cls := "DominofsModel", name := "playersOf", desc := "(I)I" } : MethodName) ∈ lw_gd := gd_s 35 rfl rfl
theorem mk_1_131 : MK 1 131 1 mi_131 := ⟨mt_131, ms_131, by decide +kernel, ⟨w_1366, ws_35, rfl⟩⟩
set_option maxRecDepth 4096 in
theorem w_1376 : (Jvm.Cond.methodLink "DominofsModel" (185 : Nat) ({ cls := "DominofsModel", name := "pipsIn", desc := "(II)I" } : Jvm.MethodName)) ∈ lw_gd := gdc_6 176 rfl rfl
set_option maxRecDepth 4096 in
theorem w_1379 : (Jvm.Cond.code ({ cls := "DominofsModel", name := "pipsIn", desc := "(II)I" } : Jvm.MethodName) prog_14_method_18_code (6 : Nat) (Option.some Jvm.ClassFile.FieldType.int)) ∈ lw_gd := gdc_6 179 rfl rfl
theorem ms_141 : MS mi_141 := ⟨(List.mem_filter.mp w_1379).1, w_9, by decide +kernel, ⟨by decide +kernel, by decide +kernel⟩, Nat.le_of_ble_eq_true rfl⟩
set_option maxRecDepth 4096 in
theorem w_1378 : (Jvm.Cond.instanceMethod ({ cls := "DominofsModel", name := "pipsIn", desc := "(II)I" } : Jvm.MethodName)) ∈ lw_gd := gdc_6 178 rfl rfl
theorem ws_38 : Jvm.Cond.selects "DominofsModel" ({ cls := "DominofsModel", name := "pipsIn", desc := "(II)I" } : MethodName) ({ cls := "DominofsModel", name := "pipsIn", desc := "(II)I" } : MethodName) ∈ lw_gd := gd_s 38 rfl rfl
theorem mk_1_141 : MK 1 141 2 mi_141 := ⟨mt_141, ms_141, by decide +kernel, ⟨w_1378, ws_38, rfl⟩⟩
set_option maxRecDepth 4096 in
theorem w_1360 : (Jvm.Cond.methodLink "DominofsModel" (188 : Nat) ({ cls := "DominofsModel", name := "poolOf", desc := "(I)I" } : Jvm.MethodName)) ∈ lw_gd := gdc_6 160 rfl rfl
set_option maxRecDepth 4096 in
theorem w_1363 : (Jvm.Cond.code ({ cls := "DominofsModel", name := "poolOf", desc := "(I)I" } : Jvm.MethodName) prog_14_method_20_code (4 : Nat) (Option.some Jvm.ClassFile.FieldType.int)) ∈ lw_gd := gdc_6 163 rfl rfl
theorem ms_143 : MS mi_143 := ⟨(List.mem_filter.mp w_1363).1, w_9, by decide +kernel, ⟨by decide +kernel, by decide +kernel⟩, Nat.le_of_ble_eq_true rfl⟩
set_option maxRecDepth 4096 in
theorem w_1362 : (Jvm.Cond.instanceMethod ({ cls := "DominofsModel", name := "poolOf", desc := "(I)I" } : Jvm.MethodName)) ∈ lw_gd := gdc_6 162 rfl rfl
theorem ws_34 : Jvm.Cond.selects "DominofsModel" ({ cls := "DominofsModel", name := "poolOf", desc := "(I)I" } : MethodName) ({ cls := "DominofsModel", name := "poolOf", desc := "(I)I" } : MethodName) ∈ lw_gd := gd_s 34 rfl rfl
theorem mk_1_143 : MK 1 143 1 mi_143 := ⟨mt_143, ms_143, by decide +kernel, ⟨w_1362, ws_34, rfl⟩⟩
set_option maxRecDepth 4096 in
theorem w_1209 : (Jvm.Cond.fieldLink "DominofsModel" (191 : Nat) "DominofsModel" "club" "I") ∈ lw_gd := gdc_6 9 rfl rfl
theorem fk_12_191 : FK "DominofsModel" 191 12 38 := FK_one rfl (rr := (RX12, TX12, 41)) rfl (by decide) w_1209 (Or.inl rfl)
set_option maxRecDepth 4096 in
theorem w_1317 : (Jvm.Cond.constant "DominofsModel" (194 : Nat) (999999 : Int32)) ∈ lw_gd := gdc_6 117 rfl rfl
set_option maxRecDepth 4096 in
theorem w_1318 : (Jvm.Cond.methodLink "DominofsModel" (195 : Nat) ({ cls := "DominofsModel", name := "isFull", desc := "()Z" } : Jvm.MethodName)) ∈ lw_gd := gdc_6 118 rfl rfl
set_option maxRecDepth 4096 in
theorem w_1321 : (Jvm.Cond.code ({ cls := "DominofsModel", name := "isFull", desc := "()Z" } : Jvm.MethodName) prog_14_method_22_code (1 : Nat) (Option.some Jvm.ClassFile.FieldType.boolean)) ∈ lw_gd := gdc_6 121 rfl rfl
theorem ms_145 : MS mi_145 := ⟨(List.mem_filter.mp w_1321).1, w_9, by decide +kernel, ⟨by decide +kernel, by decide +kernel⟩, Nat.le_of_ble_eq_true rfl⟩
set_option maxRecDepth 4096 in
theorem w_1320 : (Jvm.Cond.instanceMethod ({ cls := "DominofsModel", name := "isFull", desc := "()Z" } : Jvm.MethodName)) ∈ lw_gd := gdc_6 120 rfl rfl
theorem ws_26 : Jvm.Cond.selects "DominofsModel" ({ cls := "DominofsModel", name := "isFull", desc := "()Z" } : MethodName) ({ cls := "DominofsModel", name := "isFull", desc := "()Z" } : MethodName) ∈ lw_gd := gd_s 26 rfl rfl
theorem mk_1_145 : MK 1 145 0 mi_145 := ⟨mt_145, ms_145, by decide +kernel, ⟨w_1320, ws_26, rfl⟩⟩
set_option maxRecDepth 4096 in
theorem w_1322 : (Jvm.Cond.methodLink "DominofsModel" (199 : Nat) ({ cls := "DominofsModel", name := "enter", desc := "(IIIII)V" } : Jvm.MethodName)) ∈ lw_gd := gdc_6 122 rfl rfl
set_option maxRecDepth 4096 in
theorem w_1325 : (Jvm.Cond.code ({ cls := "DominofsModel", name := "enter", desc := "(IIIII)V" } : Jvm.MethodName) prog_14_method_12_code (6 : Nat) (Option.none : Option Jvm.ClassFile.FieldType)) ∈ lw_gd := gdc_6 125 rfl rfl
theorem ms_135 : MS mi_135 := ⟨(List.mem_filter.mp w_1325).1, w_9, by decide +kernel, ⟨by decide +kernel, by decide +kernel⟩, Nat.le_of_ble_eq_true rfl⟩
set_option maxRecDepth 4096 in
theorem w_1324 : (Jvm.Cond.instanceMethod ({ cls := "DominofsModel", name := "enter", desc := "(IIIII)V" } : Jvm.MethodName)) ∈ lw_gd := gdc_6 124 rfl rfl
theorem ws_27 : Jvm.Cond.selects "DominofsModel" ({ cls := "DominofsModel", name := "enter", desc := "(IIIII)V" } : MethodName) ({ cls := "DominofsModel", name := "enter", desc := "(IIIII)V" } : MethodName) ∈ lw_gd := gd_s 27 rfl rfl
theorem mk_1_135 : MK 1 135 5 mi_135 := ⟨mt_135, ms_135, by decide +kernel, ⟨w_1324, ws_27, rfl⟩⟩
set_option maxRecDepth 4096 in
theorem w_1392 : (Jvm.Cond.methodLink "DominofsModel" (203 : Nat) ({ cls := "DominofsModel", name := "has", desc := "(II)Z" } : Jvm.MethodName)) ∈ lw_gd := gdc_6 192 rfl rfl
set_option maxRecDepth 4096 in
theorem w_1395 : (Jvm.Cond.code ({ cls := "DominofsModel", name := "has", desc := "(II)Z" } : Jvm.MethodName) prog_14_method_26_code (3 : Nat) (Option.some Jvm.ClassFile.FieldType.boolean)) ∈ lw_gd := gdc_6 195 rfl rfl
theorem ms_149 : MS mi_149 := ⟨(List.mem_filter.mp w_1395).1, w_9, by decide +kernel, ⟨by decide +kernel, by decide +kernel⟩, Nat.le_of_ble_eq_true rfl⟩
set_option maxRecDepth 4096 in
theorem w_1394 : (Jvm.Cond.instanceMethod ({ cls := "DominofsModel", name := "has", desc := "(II)Z" } : Jvm.MethodName)) ∈ lw_gd := gdc_6 194 rfl rfl
theorem ws_41 : Jvm.Cond.selects "DominofsModel" ({ cls := "DominofsModel", name := "has", desc := "(II)Z" } : MethodName) ({ cls := "DominofsModel", name := "has", desc := "(II)Z" } : MethodName) ∈ lw_gd := gd_s 41 rfl rfl
theorem mk_1_149 : MK 1 149 2 mi_149 := ⟨mt_149, ms_149, by decide +kernel, ⟨w_1394, ws_41, rfl⟩⟩
set_option maxRecDepth 4096 in
theorem w_1396 : (Jvm.Cond.methodLink "DominofsModel" (207 : Nat) ({ cls := "DominofsModel", name := "fitsAt", desc := "(IIZ)Z" } : Jvm.MethodName)) ∈ lw_gd := gdc_6 196 rfl rfl
set_option maxRecDepth 4096 in
theorem w_1399 : (Jvm.Cond.code ({ cls := "DominofsModel", name := "fitsAt", desc := "(IIZ)Z" } : Jvm.MethodName) prog_14_method_25_code (5 : Nat) (Option.some Jvm.ClassFile.FieldType.boolean)) ∈ lw_gd := gdc_6 199 rfl rfl
theorem ms_148 : MS mi_148 := ⟨(List.mem_filter.mp w_1399).1, w_9, by decide +kernel, ⟨by decide +kernel, by decide +kernel⟩, Nat.le_of_ble_eq_true rfl⟩
set_option maxRecDepth 4096 in
theorem w_1398 : (Jvm.Cond.instanceMethod ({ cls := "DominofsModel", name := "fitsAt", desc := "(IIZ)Z" } : Jvm.MethodName)) ∈ lw_gd := gdc_6 198 rfl rfl
theorem ws_42 : Jvm.Cond.selects "DominofsModel" ({ cls := "DominofsModel", name := "fitsAt", desc := "(IIZ)Z" } : MethodName) ({ cls := "DominofsModel", name := "fitsAt", desc := "(IIZ)Z" } : MethodName) ∈ lw_gd := gd_s 42 rfl rfl
theorem mk_1_148 : MK 1 148 3 mi_148 := ⟨mt_148, ms_148, by decide +kernel, ⟨w_1398, ws_42, rfl⟩⟩
set_option maxRecDepth 4096 in
theorem w_1384 : (Jvm.Cond.methodLink "DominofsModel" (211 : Nat) ({ cls := "DominofsModel", name := "isGame", desc := "(I)Z" } : Jvm.MethodName)) ∈ lw_gd := gdc_6 184 rfl rfl
set_option maxRecDepth 4096 in
theorem w_1387 : (Jvm.Cond.code ({ cls := "DominofsModel", name := "isGame", desc := "(I)Z" } : Jvm.MethodName) prog_14_method_6_code (2 : Nat) (Option.some Jvm.ClassFile.FieldType.boolean)) ∈ lw_gd := gdc_6 187 rfl rfl
theorem ms_129 : MS mi_129 := ⟨(List.mem_filter.mp w_1387).1, w_9, by decide +kernel, ⟨by decide +kernel, by decide +kernel⟩, Nat.le_of_ble_eq_true rfl⟩
set_option maxRecDepth 4096 in
theorem w_1386 : (Jvm.Cond.instanceMethod ({ cls := "DominofsModel", name := "isGame", desc := "(I)Z" } : Jvm.MethodName)) ∈ lw_gd := gdc_6 186 rfl rfl
theorem ws_39 : Jvm.Cond.selects "DominofsModel" ({ cls := "DominofsModel", name := "isGame", desc := "(I)Z" } : MethodName) ({ cls := "DominofsModel", name := "isGame", desc := "(I)Z" } : MethodName) ∈ lw_gd := gd_s 39 rfl rfl
theorem mk_1_129 : MK 1 129 1 mi_129 := ⟨mt_129, ms_129, by decide +kernel, ⟨w_1386, ws_39, rfl⟩⟩
set_option maxRecDepth 4096 in
theorem w_1388 : (Jvm.Cond.methodLink "DominofsModel" (214 : Nat) ({ cls := "DominofsModel", name := "isOverNow", desc := "(I)Z" } : Jvm.MethodName)) ∈ lw_gd := gdc_6 188 rfl rfl
set_option maxRecDepth 4096 in
theorem w_1391 : (Jvm.Cond.code ({ cls := "DominofsModel", name := "isOverNow", desc := "(I)Z" } : Jvm.MethodName) prog_14_method_23_code (2 : Nat) (Option.some Jvm.ClassFile.FieldType.boolean)) ∈ lw_gd := gdc_6 191 rfl rfl
theorem ms_146 : MS mi_146 := ⟨(List.mem_filter.mp w_1391).1, w_9, by decide +kernel, ⟨by decide +kernel, by decide +kernel⟩, Nat.le_of_ble_eq_true rfl⟩
set_option maxRecDepth 4096 in
theorem w_1390 : (Jvm.Cond.instanceMethod ({ cls := "DominofsModel", name := "isOverNow", desc := "(I)Z" } : Jvm.MethodName)) ∈ lw_gd := gdc_6 190 rfl rfl
theorem ws_40 : Jvm.Cond.selects "DominofsModel" ({ cls := "DominofsModel", name := "isOverNow", desc := "(I)Z" } : MethodName) ({ cls := "DominofsModel", name := "isOverNow", desc := "(I)Z" } : MethodName) ∈ lw_gd := gd_s 40 rfl rfl
theorem mk_1_146 : MK 1 146 1 mi_146 := ⟨mt_146, ms_146, by decide +kernel, ⟨w_1390, ws_40, rfl⟩⟩
set_option maxRecDepth 4096 in
theorem w_1404 : (Jvm.Cond.methodLink "DominofsModel" (217 : Nat) ({ cls := "DominofsModel", name := "canLay", desc := "(I)Z" } : Jvm.MethodName)) ∈ lw_gd := gdc_6 204 rfl rfl
set_option maxRecDepth 4096 in
theorem w_1407 : (Jvm.Cond.code ({ cls := "DominofsModel", name := "canLay", desc := "(I)Z" } : Jvm.MethodName) prog_14_method_27_code (4 : Nat) (Option.some Jvm.ClassFile.FieldType.boolean)) ∈ lw_gd := gdc_6 207 rfl rfl
theorem ms_150 : MS mi_150 := ⟨(List.mem_filter.mp w_1407).1, w_9, by decide +kernel, ⟨by decide +kernel, by decide +kernel⟩, Nat.le_of_ble_eq_true rfl⟩
set_option maxRecDepth 4096 in
theorem w_1406 : (Jvm.Cond.instanceMethod ({ cls := "DominofsModel", name := "canLay", desc := "(I)Z" } : Jvm.MethodName)) ∈ lw_gd := gdc_6 206 rfl rfl
theorem ws_43 : Jvm.Cond.selects "DominofsModel" ({ cls := "DominofsModel", name := "canLay", desc := "(I)Z" } : MethodName) ({ cls := "DominofsModel", name := "canLay", desc := "(I)Z" } : MethodName) ∈ lw_gd := gd_s 43 rfl rfl
theorem mk_1_150 : MK 1 150 1 mi_150 := ⟨mt_150, ms_150, by decide +kernel, ⟨w_1406, ws_43, rfl⟩⟩
set_option maxRecDepth 4096 in
theorem w_1408 : (Jvm.Cond.methodLink "DominofsModel" (220 : Nat) ({ cls := "DominofsModel", name := "canDraw", desc := "(I)Z" } : Jvm.MethodName)) ∈ lw_gd := gdc_6 208 rfl rfl
set_option maxRecDepth 4096 in
theorem w_1411 : (Jvm.Cond.code ({ cls := "DominofsModel", name := "canDraw", desc := "(I)Z" } : Jvm.MethodName) prog_14_method_29_code (2 : Nat) (Option.some Jvm.ClassFile.FieldType.boolean)) ∈ lw_gd := gdc_6 211 rfl rfl
theorem ms_152 : MS mi_152 := ⟨(List.mem_filter.mp w_1411).1, w_9, by decide +kernel, ⟨by decide +kernel, by decide +kernel⟩, Nat.le_of_ble_eq_true rfl⟩
set_option maxRecDepth 4096 in
theorem w_1410 : (Jvm.Cond.instanceMethod ({ cls := "DominofsModel", name := "canDraw", desc := "(I)Z" } : Jvm.MethodName)) ∈ lw_gd := gdc_6 210 rfl rfl
theorem ws_44 : Jvm.Cond.selects "DominofsModel" ({ cls := "DominofsModel", name := "canDraw", desc := "(I)Z" } : MethodName) ({ cls := "DominofsModel", name := "canDraw", desc := "(I)Z" } : MethodName) ∈ lw_gd := gd_s 44 rfl rfl
theorem mk_1_152 : MK 1 152 1 mi_152 := ⟨mt_152, ms_152, by decide +kernel, ⟨w_1410, ws_44, rfl⟩⟩
set_option maxRecDepth 4096 in
theorem w_1420 : (Jvm.Cond.methodLink "DominofsModel" (223 : Nat) ({ cls := "DominofsModel", name := "noGame", desc := "(I)Z" } : Jvm.MethodName)) ∈ lw_gd := gdc_6 220 rfl rfl
set_option maxRecDepth 4096 in
theorem w_1423 : (Jvm.Cond.code ({ cls := "DominofsModel", name := "noGame", desc := "(I)Z" } : Jvm.MethodName) prog_14_method_32_code (2 : Nat) (Option.some Jvm.ClassFile.FieldType.boolean)) ∈ lw_gd := gdc_6 223 rfl rfl
theorem ms_155 : MS mi_155 := ⟨(List.mem_filter.mp w_1423).1, w_9, by decide +kernel, ⟨by decide +kernel, by decide +kernel⟩, Nat.le_of_ble_eq_true rfl⟩
set_option maxRecDepth 4096 in
theorem w_1422 : (Jvm.Cond.instanceMethod ({ cls := "DominofsModel", name := "noGame", desc := "(I)Z" } : Jvm.MethodName)) ∈ lw_gd := gdc_6 222 rfl rfl
theorem ws_45 : Jvm.Cond.selects "DominofsModel" ({ cls := "DominofsModel", name := "noGame", desc := "(I)Z" } : MethodName) ({ cls := "DominofsModel", name := "noGame", desc := "(I)Z" } : MethodName) ∈ lw_gd := gd_s 45 rfl rfl
theorem mk_1_155 : MK 1 155 1 mi_155 := ⟨mt_155, ms_155, by decide +kernel, ⟨w_1422, ws_45, rfl⟩⟩
set_option maxRecDepth 4096 in
theorem w_1464 : (Jvm.Cond.methodLink "DominofsModel" (226 : Nat) ({ cls := "DominofsModel", name := "isBetter", desc := "(I)Z" } : Jvm.MethodName)) ∈ lw_gd := gdc_7 24 rfl rfl
set_option maxRecDepth 4096 in
theorem w_1466 : (Jvm.Cond.code ({ cls := "DominofsModel", name := "isBetter", desc := "(I)Z" } : Jvm.MethodName) prog_14_method_43_code (1 : Nat) (Option.some Jvm.ClassFile.FieldType.boolean)) ∈ lw_gd := gdc_7 26 rfl rfl
theorem ms_166 : MS mi_166 := ⟨(List.mem_filter.mp w_1466).1, w_9, by decide +kernel, ⟨by decide +kernel, by decide +kernel⟩, Nat.le_of_ble_eq_true rfl⟩
set_option maxRecDepth 4096 in
theorem w_1465 : (Jvm.Cond.static ({ cls := "DominofsModel", name := "isBetter", desc := "(I)Z" } : Jvm.MethodName)) ∈ lw_gd := gdc_7 25 rfl rfl
theorem mk_0_166 : MK 0 166 1 mi_166 := ⟨mt_166, ms_166, by decide +kernel, w_1465⟩
set_option maxRecDepth 4096 in
theorem w_1185 : (Jvm.Cond.fieldLink "DominofsModel" (229 : Nat) "DominofsModel" "checkpoints" "I") ∈ lw_gd := gdc_5 225 rfl rfl
theorem fk_12_229 : FK "DominofsModel" 229 12 14 := FK_one rfl (rr := (RX12, TX12, 41)) rfl (by decide) w_1185 (Or.inl rfl)
set_option maxRecDepth 4096 in
theorem w_1487 : (Jvm.Cond.methodLink "DominofsModel" (232 : Nat) ({ cls := "DominofsModel", name := "isKept", desc := "(I)Z" } : Jvm.MethodName)) ∈ lw_gd := gdc_7 47 rfl rfl
set_option maxRecDepth 4096 in
theorem w_1490 : (Jvm.Cond.code ({ cls := "DominofsModel", name := "isKept", desc := "(I)Z" } : Jvm.MethodName) prog_14_method_49_code (4 : Nat) (Option.some Jvm.ClassFile.FieldType.boolean)) ∈ lw_gd := gdc_7 50 rfl rfl
theorem ms_172 : MS mi_172 := ⟨(List.mem_filter.mp w_1490).1, w_9, by decide +kernel, ⟨by decide +kernel, by decide +kernel⟩, Nat.le_of_ble_eq_true rfl⟩
set_option maxRecDepth 4096 in
theorem w_1489 : (Jvm.Cond.instanceMethod ({ cls := "DominofsModel", name := "isKept", desc := "(I)Z" } : Jvm.MethodName)) ∈ lw_gd := gdc_7 49 rfl rfl
theorem ws_46 : Jvm.Cond.selects "DominofsModel" ({ cls := "DominofsModel", name := "isKept", desc := "(I)Z" } : MethodName) ({ cls := "DominofsModel", name := "isKept", desc := "(I)Z" } : MethodName) ∈ lw_gd := gd_s 46 rfl rfl
theorem mk_1_172 : MK 1 172 1 mi_172 := ⟨mt_172, ms_172, by decide +kernel, ⟨w_1489, ws_46, rfl⟩⟩
set_option maxRecDepth 4096 in
theorem w_1179 : (Jvm.Cond.fieldLink "DominofsModel" (235 : Nat) "DominofsModel" "flushed" "I") ∈ lw_gd := gdc_5 219 rfl rfl
theorem fk_12_235 : FK "DominofsModel" 235 12 8 := FK_one rfl (rr := (RX12, TX12, 41)) rfl (by decide) w_1179 (Or.inl rfl)
set_option maxRecDepth 4096 in
theorem w_1507 : (Jvm.Cond.methodLink "DominofsModel" (238 : Nat) ({ cls := "DominofsModel", name := "noEntry", desc := "(I)Z" } : Jvm.MethodName)) ∈ lw_gd := gdc_7 67 rfl rfl
set_option maxRecDepth 4096 in
theorem w_1510 : (Jvm.Cond.code ({ cls := "DominofsModel", name := "noEntry", desc := "(I)Z" } : Jvm.MethodName) prog_14_method_54_code (2 : Nat) (Option.some Jvm.ClassFile.FieldType.boolean)) ∈ lw_gd := gdc_7 70 rfl rfl
theorem ms_177 : MS mi_177 := ⟨(List.mem_filter.mp w_1510).1, w_9, by decide +kernel, ⟨by decide +kernel, by decide +kernel⟩, Nat.le_of_ble_eq_true rfl⟩
set_option maxRecDepth 4096 in
theorem w_1509 : (Jvm.Cond.instanceMethod ({ cls := "DominofsModel", name := "noEntry", desc := "(I)Z" } : Jvm.MethodName)) ∈ lw_gd := gdc_7 69 rfl rfl
theorem ws_47 : Jvm.Cond.selects "DominofsModel" ({ cls := "DominofsModel", name := "noEntry", desc := "(I)Z" } : MethodName) ({ cls := "DominofsModel", name := "noEntry", desc := "(I)Z" } : MethodName) ∈ lw_gd := gd_s 47 rfl rfl
theorem mk_1_177 : MK 1 177 1 mi_177 := ⟨mt_177, ms_177, by decide +kernel, ⟨w_1509, ws_47, rfl⟩⟩
set_option maxRecDepth 4096 in
theorem w_1531 : (Jvm.Cond.methodLink "DominofsModel" (241 : Nat) ({ cls := "DominofsModel", name := "isCheckpoint", desc := "(I)Z" } : Jvm.MethodName)) ∈ lw_gd := gdc_7 91 rfl rfl
set_option maxRecDepth 4096 in
theorem w_1534 : (Jvm.Cond.code ({ cls := "DominofsModel", name := "isCheckpoint", desc := "(I)Z" } : Jvm.MethodName) prog_14_method_60_code (2 : Nat) (Option.some Jvm.ClassFile.FieldType.boolean)) ∈ lw_gd := gdc_7 94 rfl rfl
theorem ms_183 : MS mi_183 := ⟨(List.mem_filter.mp w_1534).1, w_9, by decide +kernel, ⟨by decide +kernel, by decide +kernel⟩, Nat.le_of_ble_eq_true rfl⟩
set_option maxRecDepth 4096 in
theorem w_1533 : (Jvm.Cond.instanceMethod ({ cls := "DominofsModel", name := "isCheckpoint", desc := "(I)Z" } : Jvm.MethodName)) ∈ lw_gd := gdc_7 93 rfl rfl
theorem ws_48 : Jvm.Cond.selects "DominofsModel" ({ cls := "DominofsModel", name := "isCheckpoint", desc := "(I)Z" } : MethodName) ({ cls := "DominofsModel", name := "isCheckpoint", desc := "(I)Z" } : MethodName) ∈ lw_gd := gd_s 48 rfl rfl
theorem mk_1_183 : MK 1 183 1 mi_183 := ⟨mt_183, ms_183, by decide +kernel, ⟨w_1533, ws_48, rfl⟩⟩
set_option maxRecDepth 4096 in
theorem w_1539 : (Jvm.Cond.methodLink "DominofsModel" (244 : Nat) ({ cls := "DominofsModel", name := "sumOfAll", desc := "()J" } : Jvm.MethodName)) ∈ lw_gd := gdc_7 99 rfl rfl
set_option maxRecDepth 4096 in
theorem w_1542 : (Jvm.Cond.code ({ cls := "DominofsModel", name := "sumOfAll", desc := "()J" } : Jvm.MethodName) prog_14_method_63_code (5 : Nat) (Option.some Jvm.ClassFile.FieldType.long)) ∈ lw_gd := gdc_7 102 rfl rfl
theorem ms_186 : MS mi_186 := ⟨(List.mem_filter.mp w_1542).1, w_9, by decide +kernel, ⟨by decide +kernel, by decide +kernel⟩, Nat.le_of_ble_eq_true rfl⟩
set_option maxRecDepth 4096 in
theorem w_1541 : (Jvm.Cond.instanceMethod ({ cls := "DominofsModel", name := "sumOfAll", desc := "()J" } : Jvm.MethodName)) ∈ lw_gd := gdc_7 101 rfl rfl
theorem ws_49 : Jvm.Cond.selects "DominofsModel" ({ cls := "DominofsModel", name := "sumOfAll", desc := "()J" } : MethodName) ({ cls := "DominofsModel", name := "sumOfAll", desc := "()J" } : MethodName) ∈ lw_gd := gd_s 49 rfl rfl
theorem mk_1_186 : MK 1 186 0 mi_186 := ⟨mt_186, ms_186, by decide +kernel, ⟨w_1541, ws_49, rfl⟩⟩
set_option maxRecDepth 4096 in
theorem w_1543 : (Jvm.Cond.constantLong "DominofsModel" (248 : Nat) (7 : Int64)) ∈ lw_gd := gdc_7 103 rfl rfl
set_option maxRecDepth 4096 in
theorem w_1544 : (Jvm.Cond.constantLong "DominofsModel" (250 : Nat) (31 : Int64)) ∈ lw_gd := gdc_7 104 rfl rfl
set_option maxRecDepth 4096 in
theorem w_1545 : (Jvm.Cond.constant "DominofsModel" (252 : Nat) (1000003 : Int32)) ∈ lw_gd := gdc_7 105 rfl rfl
set_option maxRecDepth 4096 in
theorem w_1558 : (Jvm.Cond.constantDouble "DominofsModel" (253 : Nat) (4616189618054758400 : UInt64)) ∈ lw_gd := gdc_7 118 rfl rfl
set_option maxRecDepth 4096 in
theorem w_542 : (Jvm.Cond.constant "java/lang/Integer" (265 : Nat) (1431655765 : Int32)) ∈ lw_gd := gdc_3 62 rfl rfl
set_option maxRecDepth 4096 in
theorem w_543 : (Jvm.Cond.constant "java/lang/Integer" (266 : Nat) (858993459 : Int32)) ∈ lw_gd := gdc_3 63 rfl rfl
set_option maxRecDepth 4096 in
theorem w_544 : (Jvm.Cond.constant "java/lang/Integer" (267 : Nat) (252645135 : Int32)) ∈ lw_gd := gdc_3 64 rfl rfl
set_option maxRecDepth 4096 in
theorem w_51 : (Jvm.Cond.methodLink "java/util/AbstractCollection" (1 : Nat) ({ cls := "java/lang/Object", name := "<init>", desc := "()V" } : Jvm.MethodName)) ∈ lw_gd := gdc_1 51 rfl rfl
set_option maxRecDepth 4096 in
theorem w_48 : (Jvm.Cond.methodLink "java/util/AbstractList" (1 : Nat) ({ cls := "java/util/AbstractCollection", name := "<init>", desc := "()V" } : Jvm.MethodName)) ∈ lw_gd := gdc_1 48 rfl rfl
set_option maxRecDepth 4096 in
theorem w_50 : (Jvm.Cond.code ({ cls := "java/util/AbstractCollection", name := "<init>", desc := "()V" } : Jvm.MethodName) prog_29_method_1_code (1 : Nat) (Option.none : Option Jvm.ClassFile.FieldType)) ∈ lw_gd := gdc_1 50 rfl rfl
set_option maxRecDepth 4096 in
theorem w_2 : (Jvm.Cond.initialized "java/util/AbstractCollection") ∈ lw_gd := gdc_1 2 rfl rfl
theorem ms_194 : MS mi_194 := ⟨(List.mem_filter.mp w_50).1, w_2, by decide +kernel, ⟨by decide +kernel, by decide +kernel⟩, Nat.le_of_ble_eq_true rfl⟩
set_option maxRecDepth 4096 in
theorem w_49 : (Jvm.Cond.instanceMethod ({ cls := "java/util/AbstractCollection", name := "<init>", desc := "()V" } : Jvm.MethodName)) ∈ lw_gd := gdc_1 49 rfl rfl
theorem mk_2_194 : MK 2 194 0 mi_194 := ⟨mt_194, ms_194, by decide +kernel, ⟨w_49, rfl, rfl, rfl⟩⟩
set_option maxRecDepth 4096 in
theorem w_56 : (Jvm.Cond.fieldLink "java/util/AbstractList" (7 : Nat) "java/util/AbstractList" "modCount" "I") ∈ lw_gd := gdc_1 56 rfl rfl
theorem fk_13_7 : FK "java/util/AbstractList" 7 0 0 := FK_one rfl (rr := (RJx4a65c, TJx4a65c, 3)) rfl (by decide) w_56 (Or.inl rfl)
set_option maxRecDepth 4096 in
theorem w_45 : (Jvm.Cond.methodLink "java/util/ArrayList" (1 : Nat) ({ cls := "java/util/AbstractList", name := "<init>", desc := "()V" } : Jvm.MethodName)) ∈ lw_gd := gdc_1 45 rfl rfl
set_option maxRecDepth 4096 in
theorem w_47 : (Jvm.Cond.code ({ cls := "java/util/AbstractList", name := "<init>", desc := "()V" } : Jvm.MethodName) prog_30_method_1_code (1 : Nat) (Option.none : Option Jvm.ClassFile.FieldType)) ∈ lw_gd := gdc_1 47 rfl rfl
set_option maxRecDepth 4096 in
theorem w_3 : (Jvm.Cond.initialized "java/util/AbstractList") ∈ lw_gd := gdc_1 3 rfl rfl
theorem ms_195 : MS mi_195 := ⟨(List.mem_filter.mp w_47).1, w_3, by decide +kernel, ⟨by decide +kernel, by decide +kernel⟩, Nat.le_of_ble_eq_true rfl⟩
set_option maxRecDepth 4096 in
theorem w_46 : (Jvm.Cond.instanceMethod ({ cls := "java/util/AbstractList", name := "<init>", desc := "()V" } : Jvm.MethodName)) ∈ lw_gd := gdc_1 46 rfl rfl
theorem mk_2_195 : MK 2 195 0 mi_195 := ⟨mt_195, ms_195, by decide +kernel, ⟨w_46, rfl, rfl, rfl⟩⟩
set_option maxRecDepth 4096 in
theorem w_52 : (Jvm.Cond.fieldLink "java/util/ArrayList" (39 : Nat) "java/util/ArrayList" "DEFAULTCAPACITY_EMPTY_ELEMENTDATA" "[Ljava/lang/Object;") ∈ lw_gd := gdc_1 52 rfl rfl
set_option maxRecDepth 4096 in
theorem w_54 : (Jvm.Cond.fieldLink "java/util/ArrayList" (9 : Nat) "java/util/ArrayList" "elementData" "[Ljava/lang/Object;") ∈ lw_gd := gdc_1 54 rfl rfl
theorem fk_14_9 : FK "java/util/ArrayList" 9 0 1 := FK_one rfl (rr := (RJx4a65c, TJx4a65c, 3)) rfl (by decide) w_54 (Or.inl rfl)
set_option maxRecDepth 4096 in
theorem w_683 : (Jvm.Cond.methodLink "java/util/ArrayList" (73 : Nat) ({ cls := "jdk/internal/util/ArraysSupport", name := "newLength", desc := "(III)I" } : Jvm.MethodName)) ∈ lw_gd := gdc_3 203 rfl rfl
set_option maxRecDepth 4096 in
theorem w_685 : (Jvm.Cond.code ({ cls := "jdk/internal/util/ArraysSupport", name := "newLength", desc := "(III)I" } : Jvm.MethodName) prog_39_method_27_code (4 : Nat) (Option.some Jvm.ClassFile.FieldType.int)) ∈ lw_gd := gdc_3 205 rfl rfl
set_option maxRecDepth 4096 in
theorem w_15 : (Jvm.Cond.initialized "jdk/internal/util/ArraysSupport") ∈ lw_gd := gdc_1 15 rfl rfl
theorem ms_209 : MS mi_209 := ⟨(List.mem_filter.mp w_685).1, w_15, by decide +kernel, ⟨by decide +kernel, by decide +kernel⟩, Nat.le_of_ble_eq_true rfl⟩
set_option maxRecDepth 4096 in
theorem w_684 : (Jvm.Cond.static ({ cls := "jdk/internal/util/ArraysSupport", name := "newLength", desc := "(III)I" } : Jvm.MethodName)) ∈ lw_gd := gdc_3 204 rfl rfl
theorem mk_0_209 : MK 0 209 3 mi_209 := ⟨mt_209, ms_209, by decide +kernel, w_684⟩
set_option maxRecDepth 4096 in
theorem w_691 : (Jvm.Cond.methodLink "java/util/ArrayList" (66 : Nat) ({ cls := "java/util/Arrays", name := "copyOf", desc := "([Ljava/lang/Object;I)[Ljava/lang/Object;" } : Jvm.MethodName)) ∈ lw_gd := gdc_3 211 rfl rfl
set_option maxRecDepth 4096 in
theorem w_693 : (Jvm.Cond.code ({ cls := "java/util/Arrays", name := "copyOf", desc := "([Ljava/lang/Object;I)[Ljava/lang/Object;" } : Jvm.MethodName) prog_32_method_119_code (2 : Nat) (Option.some (Jvm.ClassFile.FieldType.array (Jvm.ClassFile.FieldType.object "java/lang/Object")))) ∈ lw_gd := gdc_3 213 rfl rfl
set_option maxRecDepth 4096 in
theorem w_17 : (Jvm.Cond.initialized "java/util/Arrays") ∈ lw_gd := gdc_1 17 rfl rfl
theorem ms_206 : MS mi_206 := ⟨(List.mem_filter.mp w_693).1, w_17, by decide +kernel, ⟨by decide +kernel, by decide +kernel⟩, Nat.le_of_ble_eq_true rfl⟩
set_option maxRecDepth 4096 in
theorem w_692 : (Jvm.Cond.static ({ cls := "java/util/Arrays", name := "copyOf", desc := "([Ljava/lang/Object;I)[Ljava/lang/Object;" } : Jvm.MethodName)) ∈ lw_gd := gdc_3 212 rfl rfl
theorem mk_0_206 : MK 0 206 2 mi_206 := ⟨mt_206, ms_206, by decide +kernel, w_692⟩
set_option maxRecDepth 4096 in
theorem w_724 : (Jvm.Cond.methodLink "java/util/ArrayList" (79 : Nat) ({ cls := "java/lang/Math", name := "max", desc := "(II)I" } : Jvm.MethodName)) ∈ lw_gd := gdc_4 4 rfl rfl
set_option maxRecDepth 4096 in
theorem w_725 : (Jvm.Cond.classLink "java/util/ArrayList" (7 : Nat) "java/lang/Object") ∈ lw_gd := gdc_4 5 rfl rfl
set_option maxRecDepth 4096 in
theorem w_55 : (Jvm.Cond.fieldLink "java/util/ArrayList" (48 : Nat) "java/util/ArrayList" "size" "I") ∈ lw_gd := gdc_1 55 rfl rfl
theorem fk_14_48 : FK "java/util/ArrayList" 48 0 2 := FK_one rfl (rr := (RJx4a65c, TJx4a65c, 3)) rfl (by decide) w_55 (Or.inl rfl)
set_option maxRecDepth 4096 in
theorem w_679 : (Jvm.Cond.methodLink "java/util/ArrayList" (69 : Nat) ({ cls := "java/util/ArrayList", name := "grow", desc := "(I)[Ljava/lang/Object;" } : Jvm.MethodName)) ∈ lw_gd := gdc_3 199 rfl rfl
set_option maxRecDepth 4096 in
theorem w_682 : (Jvm.Cond.code ({ cls := "java/util/ArrayList", name := "grow", desc := "(I)[Ljava/lang/Object;" } : Jvm.MethodName) prog_31_method_6_code (4 : Nat) (Option.some (Jvm.ClassFile.FieldType.array (Jvm.ClassFile.FieldType.object "java/lang/Object")))) ∈ lw_gd := gdc_3 202 rfl rfl
theorem ms_197 : MS mi_197 := ⟨(List.mem_filter.mp w_682).1, w_4, by decide +kernel, ⟨by decide +kernel, by decide +kernel⟩, Nat.le_of_ble_eq_true rfl⟩
set_option maxRecDepth 4096 in
theorem w_681 : (Jvm.Cond.instanceMethod ({ cls := "java/util/ArrayList", name := "grow", desc := "(I)[Ljava/lang/Object;" } : Jvm.MethodName)) ∈ lw_gd := gdc_3 201 rfl rfl
theorem ws_17 : Jvm.Cond.selects "java/util/ArrayList" ({ cls := "java/util/ArrayList", name := "grow", desc := "(I)[Ljava/lang/Object;" } : MethodName) ({ cls := "java/util/ArrayList", name := "grow", desc := "(I)[Ljava/lang/Object;" } : MethodName) ∈ lw_gd := gd_s 17 rfl rfl
theorem mk_1_197 : MK 1 197 1 mi_197 := ⟨mt_197, ms_197, by decide +kernel, ⟨w_681, ws_17, rfl⟩⟩
set_option maxRecDepth 4096 in
theorem w_284 : (Jvm.Cond.methodLink "java/util/ArrayList" (118 : Nat) ({ cls := "java/util/Objects", name := "checkIndex", desc := "(II)I" } : Jvm.MethodName)) ∈ lw_gd := gdc_2 44 rfl rfl
set_option maxRecDepth 4096 in
theorem w_286 : (Jvm.Cond.code ({ cls := "java/util/Objects", name := "checkIndex", desc := "(II)I" } : Jvm.MethodName) prog_36_method_17_code (2 : Nat) (Option.some Jvm.ClassFile.FieldType.int)) ∈ lw_gd := gdc_2 46 rfl rfl
set_option maxRecDepth 4096 in
theorem w_22 : (Jvm.Cond.initialized "java/util/Objects") ∈ lw_gd := gdc_1 22 rfl rfl
theorem ms_208 : MS mi_208 := ⟨(List.mem_filter.mp w_286).1, w_22, by decide +kernel, ⟨by decide +kernel, by decide +kernel⟩, Nat.le_of_ble_eq_true rfl⟩
set_option maxRecDepth 4096 in
theorem w_285 : (Jvm.Cond.static ({ cls := "java/util/Objects", name := "checkIndex", desc := "(II)I" } : Jvm.MethodName)) ∈ lw_gd := gdc_2 45 rfl rfl
theorem mk_0_208 : MK 0 208 2 mi_208 := ⟨mt_208, ms_208, by decide +kernel, w_285⟩
set_option maxRecDepth 4096 in
theorem w_305 : (Jvm.Cond.methodLink "java/util/ArrayList" (123 : Nat) ({ cls := "java/util/ArrayList", name := "elementData", desc := "(I)Ljava/lang/Object;" } : Jvm.MethodName)) ∈ lw_gd := gdc_2 65 rfl rfl
set_option maxRecDepth 4096 in
theorem w_308 : (Jvm.Cond.code ({ cls := "java/util/ArrayList", name := "elementData", desc := "(I)Ljava/lang/Object;" } : Jvm.MethodName) prog_31_method_18_code (2 : Nat) (Option.some (Jvm.ClassFile.FieldType.object "java/lang/Object"))) ∈ lw_gd := gdc_2 68 rfl rfl
theorem ms_200 : MS mi_200 := ⟨(List.mem_filter.mp w_308).1, w_4, by decide +kernel, ⟨by decide +kernel, by decide +kernel⟩, Nat.le_of_ble_eq_true rfl⟩
set_option maxRecDepth 4096 in
theorem w_306 : (Jvm.Cond.instanceMethod ({ cls := "java/util/ArrayList", name := "elementData", desc := "(I)Ljava/lang/Object;" } : Jvm.MethodName)) ∈ lw_gd := gdc_2 66 rfl rfl
set_option maxRecDepth 4096 in
theorem w_307 : (Jvm.Cond.selects "java/util/ArrayList" ({ cls := "java/util/ArrayList", name := "elementData", desc := "(I)Ljava/lang/Object;" } : Jvm.MethodName) ({ cls := "java/util/ArrayList", name := "elementData", desc := "(I)Ljava/lang/Object;" } : Jvm.MethodName)) ∈ lw_gd := gdc_2 67 rfl rfl
theorem mk_1_200 : MK 1 200 1 mi_200 := ⟨mt_200, ms_200, by decide +kernel, ⟨w_306, w_307, rfl⟩⟩
set_option maxRecDepth 4096 in
theorem w_675 : (Jvm.Cond.methodLink "java/util/ArrayList" (129 : Nat) ({ cls := "java/util/ArrayList", name := "grow", desc := "()[Ljava/lang/Object;" } : Jvm.MethodName)) ∈ lw_gd := gdc_3 195 rfl rfl
set_option maxRecDepth 4096 in
theorem w_678 : (Jvm.Cond.code ({ cls := "java/util/ArrayList", name := "grow", desc := "()[Ljava/lang/Object;" } : Jvm.MethodName) prog_31_method_7_code (1 : Nat) (Option.some (Jvm.ClassFile.FieldType.array (Jvm.ClassFile.FieldType.object "java/lang/Object")))) ∈ lw_gd := gdc_3 198 rfl rfl
theorem ms_198 : MS mi_198 := ⟨(List.mem_filter.mp w_678).1, w_4, by decide +kernel, ⟨by decide +kernel, by decide +kernel⟩, Nat.le_of_ble_eq_true rfl⟩
set_option maxRecDepth 4096 in
theorem w_677 : (Jvm.Cond.instanceMethod ({ cls := "java/util/ArrayList", name := "grow", desc := "()[Ljava/lang/Object;" } : Jvm.MethodName)) ∈ lw_gd := gdc_3 197 rfl rfl
theorem ws_16 : Jvm.Cond.selects "java/util/ArrayList" ({ cls := "java/util/ArrayList", name := "grow", desc := "()[Ljava/lang/Object;" } : MethodName) ({ cls := "java/util/ArrayList", name := "grow", desc := "()[Ljava/lang/Object;" } : MethodName) ∈ lw_gd := gd_s 16 rfl rfl
theorem mk_1_198 : MK 1 198 0 mi_198 := ⟨mt_198, ms_198, by decide +kernel, ⟨w_677, ws_16, rfl⟩⟩
set_option maxRecDepth 4096 in
theorem w_57 : (Jvm.Cond.fieldLink "java/util/ArrayList" (63 : Nat) "java/util/ArrayList" "modCount" "I") ∈ lw_gd := gdc_1 57 rfl rfl
set_option maxRecDepth 4096 in
theorem w_58 : (Jvm.Cond.sameField "java/util/ArrayList" "java/util/AbstractList" "modCount" "I") ∈ lw_gd := gdc_1 58 rfl rfl
theorem fk_14_63 : FK "java/util/ArrayList" 63 0 0 := FK_one rfl (rr := (RJx4a65c, TJx4a65c, 3)) rfl (by decide) w_57 (Or.inr w_58)
set_option maxRecDepth 4096 in
theorem w_671 : (Jvm.Cond.methodLink "java/util/ArrayList" (131 : Nat) ({ cls := "java/util/ArrayList", name := "add", desc := "(Ljava/lang/Object;[Ljava/lang/Object;I)V" } : Jvm.MethodName)) ∈ lw_gd := gdc_3 191 rfl rfl
set_option maxRecDepth 4096 in
theorem w_674 : (Jvm.Cond.code ({ cls := "java/util/ArrayList", name := "add", desc := "(Ljava/lang/Object;[Ljava/lang/Object;I)V" } : Jvm.MethodName) prog_31_method_24_code (4 : Nat) (Option.none : Option Jvm.ClassFile.FieldType)) ∈ lw_gd := gdc_3 194 rfl rfl
theorem ms_202 : MS mi_202 := ⟨(List.mem_filter.mp w_674).1, w_4, by decide +kernel, ⟨by decide +kernel, by decide +kernel⟩, Nat.le_of_ble_eq_true rfl⟩
set_option maxRecDepth 4096 in
theorem w_673 : (Jvm.Cond.instanceMethod ({ cls := "java/util/ArrayList", name := "add", desc := "(Ljava/lang/Object;[Ljava/lang/Object;I)V" } : Jvm.MethodName)) ∈ lw_gd := gdc_3 193 rfl rfl
theorem ws_15 : Jvm.Cond.selects "java/util/ArrayList" ({ cls := "java/util/ArrayList", name := "add", desc := "(Ljava/lang/Object;[Ljava/lang/Object;I)V" } : MethodName) ({ cls := "java/util/ArrayList", name := "add", desc := "(Ljava/lang/Object;[Ljava/lang/Object;I)V" } : MethodName) ∈ lw_gd := gd_s 15 rfl rfl
theorem mk_1_202 : MK 1 202 3 mi_202 := ⟨mt_202, ms_202, by decide +kernel, ⟨w_673, ws_15, rfl⟩⟩
set_option maxRecDepth 4096 in
theorem w_290 : (Jvm.Cond.methodLink "java/util/ArrayList" (144 : Nat) ({ cls := "java/util/ArrayList", name := "fastRemove", desc := "([Ljava/lang/Object;I)V" } : Jvm.MethodName)) ∈ lw_gd := gdc_2 50 rfl rfl
set_option maxRecDepth 4096 in
theorem w_293 : (Jvm.Cond.code ({ cls := "java/util/ArrayList", name := "fastRemove", desc := "([Ljava/lang/Object;I)V" } : Jvm.MethodName) prog_31_method_39_code (4 : Nat) (Option.none : Option Jvm.ClassFile.FieldType)) ∈ lw_gd := gdc_2 53 rfl rfl
theorem ms_205 : MS mi_205 := ⟨(List.mem_filter.mp w_293).1, w_4, by decide +kernel, ⟨by decide +kernel, by decide +kernel⟩, Nat.le_of_ble_eq_true rfl⟩
set_option maxRecDepth 4096 in
theorem w_292 : (Jvm.Cond.instanceMethod ({ cls := "java/util/ArrayList", name := "fastRemove", desc := "([Ljava/lang/Object;I)V" } : Jvm.MethodName)) ∈ lw_gd := gdc_2 52 rfl rfl
theorem ws_0 : Jvm.Cond.selects "java/util/ArrayList" ({ cls := "java/util/ArrayList", name := "fastRemove", desc := "([Ljava/lang/Object;I)V" } : MethodName) ({ cls := "java/util/ArrayList", name := "fastRemove", desc := "([Ljava/lang/Object;I)V" } : MethodName) ∈ lw_gd := gd_s 0 rfl rfl
theorem mk_1_205 : MK 1 205 2 mi_205 := ⟨mt_205, ms_205, by decide +kernel, ⟨w_292, ws_0, rfl⟩⟩
set_option maxRecDepth 4096 in
theorem w_294 : (Jvm.Cond.methodLink "java/util/ArrayList" (112 : Nat) ({ cls := "java/lang/System", name := "arraycopy", desc := "(Ljava/lang/Object;ILjava/lang/Object;II)V" } : Jvm.MethodName)) ∈ lw_gd := gdc_2 54 rfl rfl
set_option maxRecDepth 4096 in
theorem w_694 : (Jvm.Cond.methodLink "java/util/Arrays" (86 : Nat) ({ cls := "java/lang/Object", name := "getClass", desc := "()Ljava/lang/Class;" } : Jvm.MethodName)) ∈ lw_gd := gdc_3 214 rfl rfl
set_option maxRecDepth 4096 in
theorem w_1593 : (Jvm.Cond.selects "[Ljava/lang/Object;" ({ cls := "java/lang/Object", name := "getClass", desc := "()Ljava/lang/Class;" } : Jvm.MethodName) ({ cls := "java/lang/Object", name := "getClass", desc := "()Ljava/lang/Class;" } : Jvm.MethodName)) ∈ lw_gd := gdc_7 153 rfl rfl
set_option maxRecDepth 4096 in
theorem w_695 : (Jvm.Cond.instanceMethod ({ cls := "java/lang/Object", name := "getClass", desc := "()Ljava/lang/Class;" } : Jvm.MethodName)) ∈ lw_gd := gdc_3 215 rfl rfl
set_option maxRecDepth 4096 in
theorem w_715 : (Jvm.Cond.native ({ cls := "java/lang/Object", name := "getClass", desc := "()Ljava/lang/Class;" } : Jvm.MethodName)) ∈ lw_gd := gdc_3 235 rfl rfl
set_option maxRecDepth 4096 in
theorem w_716 : (Jvm.Cond.methodLink "java/util/Arrays" (300 : Nat) ({ cls := "java/util/Arrays", name := "copyOf", desc := "([Ljava/lang/Object;ILjava/lang/Class;)[Ljava/lang/Object;" } : Jvm.MethodName)) ∈ lw_gd := gdc_3 236 rfl rfl
set_option maxRecDepth 4096 in
theorem w_718 : (Jvm.Cond.code ({ cls := "java/util/Arrays", name := "copyOf", desc := "([Ljava/lang/Object;ILjava/lang/Class;)[Ljava/lang/Object;" } : Jvm.MethodName) prog_32_method_120_code (4 : Nat) (Option.some (Jvm.ClassFile.FieldType.array (Jvm.ClassFile.FieldType.object "java/lang/Object")))) ∈ lw_gd := gdc_3 238 rfl rfl
theorem ms_207 : MS mi_207 := ⟨(List.mem_filter.mp w_718).1, w_17, by decide +kernel, ⟨by decide +kernel, by decide +kernel⟩, Nat.le_of_ble_eq_true rfl⟩
set_option maxRecDepth 4096 in
theorem w_717 : (Jvm.Cond.static ({ cls := "java/util/Arrays", name := "copyOf", desc := "([Ljava/lang/Object;ILjava/lang/Class;)[Ljava/lang/Object;" } : Jvm.MethodName)) ∈ lw_gd := gdc_3 237 rfl rfl
theorem mk_0_207 : MK 0 207 3 mi_207 := ⟨mt_207, ms_207, by decide +kernel, w_717⟩
set_option maxRecDepth 4096 in
theorem w_719 : (Jvm.Cond.classLink "java/util/Arrays" (110 : Nat) "[Ljava/lang/Object;") ∈ lw_gd := gdc_3 239 rfl rfl
set_option maxRecDepth 4096 in
theorem w_721 : (Jvm.Cond.classLink "java/util/Arrays" (2 : Nat) "java/lang/Object") ∈ lw_gd := gdc_4 1 rfl rfl
set_option maxRecDepth 4096 in
theorem w_722 : (Jvm.Cond.methodLink "java/util/Arrays" (304 : Nat) ({ cls := "java/lang/Math", name := "min", desc := "(II)I" } : Jvm.MethodName)) ∈ lw_gd := gdc_4 2 rfl rfl
set_option maxRecDepth 4096 in
theorem w_723 : (Jvm.Cond.methodLink "java/util/Arrays" (150 : Nat) ({ cls := "java/lang/System", name := "arraycopy", desc := "(Ljava/lang/Object;ILjava/lang/Object;II)V" } : Jvm.MethodName)) ∈ lw_gd := gdc_4 3 rfl rfl
set_option maxRecDepth 4096 in
theorem w_287 : (Jvm.Cond.methodLink "java/util/Objects" (105 : Nat) ({ cls := "jdk/internal/util/Preconditions", name := "checkIndex", desc := "(IILjava/util/function/BiFunction;)I" } : Jvm.MethodName)) ∈ lw_gd := gdc_2 47 rfl rfl
set_option maxRecDepth 4096 in
theorem w_289 : (Jvm.Cond.code ({ cls := "jdk/internal/util/Preconditions", name := "checkIndex", desc := "(IILjava/util/function/BiFunction;)I" } : Jvm.MethodName) prog_40_method_11_code (3 : Nat) (Option.some Jvm.ClassFile.FieldType.int)) ∈ lw_gd := gdc_2 49 rfl rfl
set_option maxRecDepth 4096 in
theorem w_23 : (Jvm.Cond.initialized "jdk/internal/util/Preconditions") ∈ lw_gd := gdc_1 23 rfl rfl
theorem ms_210 : MS mi_210 := ⟨(List.mem_filter.mp w_289).1, w_23, by decide +kernel, ⟨by decide +kernel, by decide +kernel⟩, Nat.le_of_ble_eq_true rfl⟩
set_option maxRecDepth 4096 in
theorem w_288 : (Jvm.Cond.static ({ cls := "jdk/internal/util/Preconditions", name := "checkIndex", desc := "(IILjava/util/function/BiFunction;)I" } : Jvm.MethodName)) ∈ lw_gd := gdc_2 48 rfl rfl
theorem mk_0_210 : MK 0 210 3 mi_210 := ⟨mt_210, ms_210, by decide +kernel, w_288⟩
set_option maxRecDepth 4096 in
theorem w_686 : (Jvm.Cond.methodLink "jdk/internal/util/ArraysSupport" (194 : Nat) ({ cls := "java/lang/Math", name := "max", desc := "(II)I" } : Jvm.MethodName)) ∈ lw_gd := gdc_3 206 rfl rfl
set_option maxRecDepth 4096 in
theorem w_687 : (Jvm.Cond.constant "jdk/internal/util/ArraysSupport" (200 : Nat) (2147483639 : Int32)) ∈ lw_gd := gdc_3 207 rfl rfl
set_option maxRecDepth 4096 in
theorem w_571 : (Jvm.Cond.methodLink "DominofsLaw" (7 : Nat) ({ cls := "Dominofs", name := "house", desc := "(IIIZC)I" } : Jvm.MethodName)) ∈ lw_gd := gdc_3 91 rfl rfl
set_option maxRecDepth 4096 in
theorem w_574 : (Jvm.Cond.code ({ cls := "Dominofs", name := "house", desc := "(IIIZC)I" } : Jvm.MethodName) prog_1_method_2_code (6 : Nat) (Option.some Jvm.ClassFile.FieldType.int)) ∈ lw_gd := gdc_3 94 rfl rfl
theorem ms_80 : MS mi_80 := ⟨(List.mem_filter.mp w_574).1, w_1, by decide +kernel, ⟨by decide +kernel, by decide +kernel⟩, Nat.le_of_ble_eq_true rfl⟩
set_option maxRecDepth 4096 in
theorem w_572 : (Jvm.Cond.instanceMethod ({ cls := "Dominofs", name := "house", desc := "(IIIZC)I" } : Jvm.MethodName)) ∈ lw_gd := gdc_3 92 rfl rfl
set_option maxRecDepth 4096 in
theorem w_573 : (Jvm.Cond.selects "Dominofs" ({ cls := "Dominofs", name := "house", desc := "(IIIZC)I" } : Jvm.MethodName) ({ cls := "Dominofs", name := "house", desc := "(IIIZC)I" } : Jvm.MethodName)) ∈ lw_gd := gdc_3 93 rfl rfl
theorem mk_1_80 : MK 1 80 5 mi_80 := ⟨mt_80, ms_80, by decide +kernel, ⟨w_572, w_573, rfl⟩⟩
set_option maxRecDepth 4096 in
theorem w_569 : (Jvm.Cond.classLink "DominofsLaw" (13 : Nat) "java/lang/IllegalArgumentException") ∈ lw_gd := gdc_3 89 rfl rfl
set_option maxRecDepth 4096 in
theorem w_570 : (Jvm.Cond.classLink "DominofsLaw" (15 : Nat) "java/lang/IllegalStateException") ∈ lw_gd := gdc_3 90 rfl rfl
set_option maxRecDepth 4096 in
theorem w_730 : (Jvm.Cond.methodLink "DominofsLaw" (17 : Nat) ({ cls := "Dominofs", name := "game", desc := "(II)I" } : Jvm.MethodName)) ∈ lw_gd := gdc_4 10 rfl rfl
set_option maxRecDepth 4096 in
theorem w_733 : (Jvm.Cond.code ({ cls := "Dominofs", name := "game", desc := "(II)I" } : Jvm.MethodName) prog_1_method_3_code (4 : Nat) (Option.some Jvm.ClassFile.FieldType.int)) ∈ lw_gd := gdc_4 13 rfl rfl
theorem ms_81 : MS mi_81 := ⟨(List.mem_filter.mp w_733).1, w_1, by decide +kernel, ⟨by decide +kernel, by decide +kernel⟩, Nat.le_of_ble_eq_true rfl⟩
set_option maxRecDepth 4096 in
theorem w_731 : (Jvm.Cond.instanceMethod ({ cls := "Dominofs", name := "game", desc := "(II)I" } : Jvm.MethodName)) ∈ lw_gd := gdc_4 11 rfl rfl
set_option maxRecDepth 4096 in
theorem w_732 : (Jvm.Cond.selects "Dominofs" ({ cls := "Dominofs", name := "game", desc := "(II)I" } : Jvm.MethodName) ({ cls := "Dominofs", name := "game", desc := "(II)I" } : Jvm.MethodName)) ∈ lw_gd := gdc_4 12 rfl rfl
theorem mk_1_81 : MK 1 81 2 mi_81 := ⟨mt_81, ms_81, by decide +kernel, ⟨w_731, w_732, rfl⟩⟩
set_option maxRecDepth 4096 in
theorem w_729 : (Jvm.Cond.classLink "DominofsLaw" (21 : Nat) "java/lang/IndexOutOfBoundsException") ∈ lw_gd := gdc_4 9 rfl rfl
set_option maxRecDepth 4096 in
theorem w_800 : (Jvm.Cond.methodLink "DominofsLaw" (23 : Nat) ({ cls := "Dominofs", name := "lay", desc := "(IIZ)Z" } : Jvm.MethodName)) ∈ lw_gd := gdc_4 80 rfl rfl
set_option maxRecDepth 4096 in
theorem w_803 : (Jvm.Cond.code ({ cls := "Dominofs", name := "lay", desc := "(IIZ)Z" } : Jvm.MethodName) prog_1_method_4_code (5 : Nat) (Option.some Jvm.ClassFile.FieldType.boolean)) ∈ lw_gd := gdc_4 83 rfl rfl
theorem ms_82 : MS mi_82 := ⟨(List.mem_filter.mp w_803).1, w_1, by decide +kernel, ⟨by decide +kernel, by decide +kernel⟩, Nat.le_of_ble_eq_true rfl⟩
set_option maxRecDepth 4096 in
theorem w_801 : (Jvm.Cond.instanceMethod ({ cls := "Dominofs", name := "lay", desc := "(IIZ)Z" } : Jvm.MethodName)) ∈ lw_gd := gdc_4 81 rfl rfl
set_option maxRecDepth 4096 in
theorem w_802 : (Jvm.Cond.selects "Dominofs" ({ cls := "Dominofs", name := "lay", desc := "(IIZ)Z" } : Jvm.MethodName) ({ cls := "Dominofs", name := "lay", desc := "(IIZ)Z" } : Jvm.MethodName)) ∈ lw_gd := gdc_4 82 rfl rfl
theorem mk_1_82 : MK 1 82 3 mi_82 := ⟨mt_82, ms_82, by decide +kernel, ⟨w_801, w_802, rfl⟩⟩
set_option maxRecDepth 4096 in
theorem w_799 : (Jvm.Cond.classLink "DominofsLaw" (27 : Nat) "java/lang/UnsupportedOperationException") ∈ lw_gd := gdc_4 79 rfl rfl
set_option maxRecDepth 4096 in
theorem w_873 : (Jvm.Cond.methodLink "DominofsLaw" (29 : Nat) ({ cls := "Dominofs", name := "draw", desc := "(I)I" } : Jvm.MethodName)) ∈ lw_gd := gdc_4 153 rfl rfl
set_option maxRecDepth 4096 in
theorem w_876 : (Jvm.Cond.code ({ cls := "Dominofs", name := "draw", desc := "(I)I" } : Jvm.MethodName) prog_1_method_5_code (4 : Nat) (Option.some Jvm.ClassFile.FieldType.int)) ∈ lw_gd := gdc_4 156 rfl rfl
theorem ms_83 : MS mi_83 := ⟨(List.mem_filter.mp w_876).1, w_1, by decide +kernel, ⟨by decide +kernel, by decide +kernel⟩, Nat.le_of_ble_eq_true rfl⟩
set_option maxRecDepth 4096 in
theorem w_874 : (Jvm.Cond.instanceMethod ({ cls := "Dominofs", name := "draw", desc := "(I)I" } : Jvm.MethodName)) ∈ lw_gd := gdc_4 154 rfl rfl
set_option maxRecDepth 4096 in
theorem w_875 : (Jvm.Cond.selects "Dominofs" ({ cls := "Dominofs", name := "draw", desc := "(I)I" } : Jvm.MethodName) ({ cls := "Dominofs", name := "draw", desc := "(I)I" } : Jvm.MethodName)) ∈ lw_gd := gdc_4 155 rfl rfl
theorem mk_1_83 : MK 1 83 1 mi_83 := ⟨mt_83, ms_83, by decide +kernel, ⟨w_874, w_875, rfl⟩⟩
set_option maxRecDepth 4096 in
theorem w_899 : (Jvm.Cond.methodLink "DominofsLaw" (33 : Nat) ({ cls := "Dominofs", name := "pass", desc := "(I)Z" } : Jvm.MethodName)) ∈ lw_gd := gdc_4 179 rfl rfl
set_option maxRecDepth 4096 in
theorem w_902 : (Jvm.Cond.code ({ cls := "Dominofs", name := "pass", desc := "(I)Z" } : Jvm.MethodName) prog_1_method_6_code (3 : Nat) (Option.some Jvm.ClassFile.FieldType.boolean)) ∈ lw_gd := gdc_4 182 rfl rfl
theorem ms_84 : MS mi_84 := ⟨(List.mem_filter.mp w_902).1, w_1, by decide +kernel, ⟨by decide +kernel, by decide +kernel⟩, Nat.le_of_ble_eq_true rfl⟩
set_option maxRecDepth 4096 in
theorem w_900 : (Jvm.Cond.instanceMethod ({ cls := "Dominofs", name := "pass", desc := "(I)Z" } : Jvm.MethodName)) ∈ lw_gd := gdc_4 180 rfl rfl
set_option maxRecDepth 4096 in
theorem w_901 : (Jvm.Cond.selects "Dominofs" ({ cls := "Dominofs", name := "pass", desc := "(I)Z" } : Jvm.MethodName) ({ cls := "Dominofs", name := "pass", desc := "(I)Z" } : Jvm.MethodName)) ∈ lw_gd := gdc_4 181 rfl rfl
theorem mk_1_84 : MK 1 84 1 mi_84 := ⟨mt_84, ms_84, by decide +kernel, ⟨w_900, w_901, rfl⟩⟩
set_option maxRecDepth 4096 in
theorem w_916 : (Jvm.Cond.methodLink "DominofsLaw" (37 : Nat) ({ cls := "Dominofs", name := "mover", desc := "(I)I" } : Jvm.MethodName)) ∈ lw_gd := gdc_4 196 rfl rfl
set_option maxRecDepth 4096 in
theorem w_919 : (Jvm.Cond.code ({ cls := "Dominofs", name := "mover", desc := "(I)I" } : Jvm.MethodName) prog_1_method_7_code (3 : Nat) (Option.some Jvm.ClassFile.FieldType.int)) ∈ lw_gd := gdc_4 199 rfl rfl
theorem ms_85 : MS mi_85 := ⟨(List.mem_filter.mp w_919).1, w_1, by decide +kernel, ⟨by decide +kernel, by decide +kernel⟩, Nat.le_of_ble_eq_true rfl⟩
set_option maxRecDepth 4096 in
theorem w_917 : (Jvm.Cond.instanceMethod ({ cls := "Dominofs", name := "mover", desc := "(I)I" } : Jvm.MethodName)) ∈ lw_gd := gdc_4 197 rfl rfl
set_option maxRecDepth 4096 in
theorem w_918 : (Jvm.Cond.selects "Dominofs" ({ cls := "Dominofs", name := "mover", desc := "(I)I" } : Jvm.MethodName) ({ cls := "Dominofs", name := "mover", desc := "(I)I" } : Jvm.MethodName)) ∈ lw_gd := gdc_4 198 rfl rfl
theorem mk_1_85 : MK 1 85 1 mi_85 := ⟨mt_85, ms_85, by decide +kernel, ⟨w_917, w_918, rfl⟩⟩
set_option maxRecDepth 4096 in
theorem w_924 : (Jvm.Cond.methodLink "DominofsLaw" (40 : Nat) ({ cls := "Dominofs", name := "hand", desc := "(II)J" } : Jvm.MethodName)) ∈ lw_gd := gdc_4 204 rfl rfl
set_option maxRecDepth 4096 in
theorem w_927 : (Jvm.Cond.code ({ cls := "Dominofs", name := "hand", desc := "(II)J" } : Jvm.MethodName) prog_1_method_8_code (4 : Nat) (Option.some Jvm.ClassFile.FieldType.long)) ∈ lw_gd := gdc_4 207 rfl rfl
theorem ms_86 : MS mi_86 := ⟨(List.mem_filter.mp w_927).1, w_1, by decide +kernel, ⟨by decide +kernel, by decide +kernel⟩, Nat.le_of_ble_eq_true rfl⟩
set_option maxRecDepth 4096 in
theorem w_925 : (Jvm.Cond.instanceMethod ({ cls := "Dominofs", name := "hand", desc := "(II)J" } : Jvm.MethodName)) ∈ lw_gd := gdc_4 205 rfl rfl
set_option maxRecDepth 4096 in
theorem w_926 : (Jvm.Cond.selects "Dominofs" ({ cls := "Dominofs", name := "hand", desc := "(II)J" } : Jvm.MethodName) ({ cls := "Dominofs", name := "hand", desc := "(II)J" } : Jvm.MethodName)) ∈ lw_gd := gdc_4 206 rfl rfl
theorem mk_1_86 : MK 1 86 2 mi_86 := ⟨mt_86, ms_86, by decide +kernel, ⟨w_925, w_926, rfl⟩⟩
set_option maxRecDepth 4096 in
theorem w_937 : (Jvm.Cond.methodLink "DominofsLaw" (44 : Nat) ({ cls := "Dominofs", name := "stock", desc := "(I)I" } : Jvm.MethodName)) ∈ lw_gd := gdc_4 217 rfl rfl
set_option maxRecDepth 4096 in
theorem w_940 : (Jvm.Cond.code ({ cls := "Dominofs", name := "stock", desc := "(I)I" } : Jvm.MethodName) prog_1_method_9_code (3 : Nat) (Option.some Jvm.ClassFile.FieldType.int)) ∈ lw_gd := gdc_4 220 rfl rfl
theorem ms_87 : MS mi_87 := ⟨(List.mem_filter.mp w_940).1, w_1, by decide +kernel, ⟨by decide +kernel, by decide +kernel⟩, Nat.le_of_ble_eq_true rfl⟩
set_option maxRecDepth 4096 in
theorem w_938 : (Jvm.Cond.instanceMethod ({ cls := "Dominofs", name := "stock", desc := "(I)I" } : Jvm.MethodName)) ∈ lw_gd := gdc_4 218 rfl rfl
set_option maxRecDepth 4096 in
theorem w_939 : (Jvm.Cond.selects "Dominofs" ({ cls := "Dominofs", name := "stock", desc := "(I)I" } : Jvm.MethodName) ({ cls := "Dominofs", name := "stock", desc := "(I)I" } : Jvm.MethodName)) ∈ lw_gd := gdc_4 219 rfl rfl
theorem mk_1_87 : MK 1 87 1 mi_87 := ⟨mt_87, ms_87, by decide +kernel, ⟨w_938, w_939, rfl⟩⟩
set_option maxRecDepth 4096 in
theorem w_945 : (Jvm.Cond.methodLink "DominofsLaw" (47 : Nat) ({ cls := "Dominofs", name := "end", desc := "(IZ)I" } : Jvm.MethodName)) ∈ lw_gd := gdc_4 225 rfl rfl
set_option maxRecDepth 4096 in
theorem w_948 : (Jvm.Cond.code ({ cls := "Dominofs", name := "end", desc := "(IZ)I" } : Jvm.MethodName) prog_1_method_10_code (4 : Nat) (Option.some Jvm.ClassFile.FieldType.int)) ∈ lw_gd := gdc_4 228 rfl rfl
theorem ms_88 : MS mi_88 := ⟨(List.mem_filter.mp w_948).1, w_1, by decide +kernel, ⟨by decide +kernel, by decide +kernel⟩, Nat.le_of_ble_eq_true rfl⟩
set_option maxRecDepth 4096 in
theorem w_946 : (Jvm.Cond.instanceMethod ({ cls := "Dominofs", name := "end", desc := "(IZ)I" } : Jvm.MethodName)) ∈ lw_gd := gdc_4 226 rfl rfl
set_option maxRecDepth 4096 in
theorem w_947 : (Jvm.Cond.selects "Dominofs" ({ cls := "Dominofs", name := "end", desc := "(IZ)I" } : Jvm.MethodName) ({ cls := "Dominofs", name := "end", desc := "(IZ)I" } : Jvm.MethodName)) ∈ lw_gd := gdc_4 227 rfl rfl
theorem mk_1_88 : MK 1 88 2 mi_88 := ⟨mt_88, ms_88, by decide +kernel, ⟨w_946, w_947, rfl⟩⟩
set_option maxRecDepth 4096 in
theorem w_944 : (Jvm.Cond.classLink "DominofsLaw" (51 : Nat) "java/util/NoSuchElementException") ∈ lw_gd := gdc_4 224 rfl rfl
set_option maxRecDepth 4096 in
theorem w_968 : (Jvm.Cond.methodLink "DominofsLaw" (53 : Nat) ({ cls := "Dominofs", name := "line", desc := "(I)I" } : Jvm.MethodName)) ∈ lw_gd := gdc_5 8 rfl rfl
set_option maxRecDepth 4096 in
theorem w_971 : (Jvm.Cond.code ({ cls := "Dominofs", name := "line", desc := "(I)I" } : Jvm.MethodName) prog_1_method_11_code (2 : Nat) (Option.some Jvm.ClassFile.FieldType.int)) ∈ lw_gd := gdc_5 11 rfl rfl
theorem ms_89 : MS mi_89 := ⟨(List.mem_filter.mp w_971).1, w_1, by decide +kernel, ⟨by decide +kernel, by decide +kernel⟩, Nat.le_of_ble_eq_true rfl⟩
set_option maxRecDepth 4096 in
theorem w_969 : (Jvm.Cond.instanceMethod ({ cls := "Dominofs", name := "line", desc := "(I)I" } : Jvm.MethodName)) ∈ lw_gd := gdc_5 9 rfl rfl
set_option maxRecDepth 4096 in
theorem w_970 : (Jvm.Cond.selects "Dominofs" ({ cls := "Dominofs", name := "line", desc := "(I)I" } : Jvm.MethodName) ({ cls := "Dominofs", name := "line", desc := "(I)I" } : Jvm.MethodName)) ∈ lw_gd := gdc_5 10 rfl rfl
theorem mk_1_89 : MK 1 89 1 mi_89 := ⟨mt_89, ms_89, by decide +kernel, ⟨w_969, w_970, rfl⟩⟩
set_option maxRecDepth 4096 in
theorem w_975 : (Jvm.Cond.methodLink "DominofsLaw" (56 : Nat) ({ cls := "Dominofs", name := "sign", desc := "(IIZ)C" } : Jvm.MethodName)) ∈ lw_gd := gdc_5 15 rfl rfl
set_option maxRecDepth 4096 in
theorem w_978 : (Jvm.Cond.code ({ cls := "Dominofs", name := "sign", desc := "(IIZ)C" } : Jvm.MethodName) prog_1_method_12_code (5 : Nat) (Option.some Jvm.ClassFile.FieldType.char)) ∈ lw_gd := gdc_5 18 rfl rfl
theorem ms_90 : MS mi_90 := ⟨(List.mem_filter.mp w_978).1, w_1, by decide +kernel, ⟨by decide +kernel, by decide +kernel⟩, Nat.le_of_ble_eq_true rfl⟩
set_option maxRecDepth 4096 in
theorem w_976 : (Jvm.Cond.instanceMethod ({ cls := "Dominofs", name := "sign", desc := "(IIZ)C" } : Jvm.MethodName)) ∈ lw_gd := gdc_5 16 rfl rfl
set_option maxRecDepth 4096 in
theorem w_977 : (Jvm.Cond.selects "Dominofs" ({ cls := "Dominofs", name := "sign", desc := "(IIZ)C" } : Jvm.MethodName) ({ cls := "Dominofs", name := "sign", desc := "(IIZ)C" } : Jvm.MethodName)) ∈ lw_gd := gdc_5 17 rfl rfl
theorem mk_1_90 : MK 1 90 3 mi_90 := ⟨mt_90, ms_90, by decide +kernel, ⟨w_976, w_977, rfl⟩⟩
set_option maxRecDepth 4096 in
theorem w_991 : (Jvm.Cond.methodLink "DominofsLaw" (60 : Nat) ({ cls := "Dominofs", name := "isOver", desc := "(I)Z" } : Jvm.MethodName)) ∈ lw_gd := gdc_5 31 rfl rfl
set_option maxRecDepth 4096 in
theorem w_994 : (Jvm.Cond.code ({ cls := "Dominofs", name := "isOver", desc := "(I)Z" } : Jvm.MethodName) prog_1_method_13_code (2 : Nat) (Option.some Jvm.ClassFile.FieldType.boolean)) ∈ lw_gd := gdc_5 34 rfl rfl
theorem ms_91 : MS mi_91 := ⟨(List.mem_filter.mp w_994).1, w_1, by decide +kernel, ⟨by decide +kernel, by decide +kernel⟩, Nat.le_of_ble_eq_true rfl⟩
set_option maxRecDepth 4096 in
theorem w_992 : (Jvm.Cond.instanceMethod ({ cls := "Dominofs", name := "isOver", desc := "(I)Z" } : Jvm.MethodName)) ∈ lw_gd := gdc_5 32 rfl rfl
set_option maxRecDepth 4096 in
theorem w_993 : (Jvm.Cond.selects "Dominofs" ({ cls := "Dominofs", name := "isOver", desc := "(I)Z" } : Jvm.MethodName) ({ cls := "Dominofs", name := "isOver", desc := "(I)Z" } : Jvm.MethodName)) ∈ lw_gd := gdc_5 33 rfl rfl
theorem mk_1_91 : MK 1 91 1 mi_91 := ⟨mt_91, ms_91, by decide +kernel, ⟨w_992, w_993, rfl⟩⟩
set_option maxRecDepth 4096 in
theorem w_998 : (Jvm.Cond.methodLink "DominofsLaw" (63 : Nat) ({ cls := "Dominofs", name := "isBlocked", desc := "(I)Z" } : Jvm.MethodName)) ∈ lw_gd := gdc_5 38 rfl rfl
set_option maxRecDepth 4096 in
theorem w_1001 : (Jvm.Cond.code ({ cls := "Dominofs", name := "isBlocked", desc := "(I)Z" } : Jvm.MethodName) prog_1_method_14_code (2 : Nat) (Option.some Jvm.ClassFile.FieldType.boolean)) ∈ lw_gd := gdc_5 41 rfl rfl
theorem ms_92 : MS mi_92 := ⟨(List.mem_filter.mp w_1001).1, w_1, by decide +kernel, ⟨by decide +kernel, by decide +kernel⟩, Nat.le_of_ble_eq_true rfl⟩
set_option maxRecDepth 4096 in
theorem w_999 : (Jvm.Cond.instanceMethod ({ cls := "Dominofs", name := "isBlocked", desc := "(I)Z" } : Jvm.MethodName)) ∈ lw_gd := gdc_5 39 rfl rfl
set_option maxRecDepth 4096 in
theorem w_1000 : (Jvm.Cond.selects "Dominofs" ({ cls := "Dominofs", name := "isBlocked", desc := "(I)Z" } : Jvm.MethodName) ({ cls := "Dominofs", name := "isBlocked", desc := "(I)Z" } : Jvm.MethodName)) ∈ lw_gd := gdc_5 40 rfl rfl
theorem mk_1_92 : MK 1 92 1 mi_92 := ⟨mt_92, ms_92, by decide +kernel, ⟨w_999, w_1000, rfl⟩⟩
set_option maxRecDepth 4096 in
theorem w_1005 : (Jvm.Cond.methodLink "DominofsLaw" (66 : Nat) ({ cls := "Dominofs", name := "winner", desc := "(I)I" } : Jvm.MethodName)) ∈ lw_gd := gdc_5 45 rfl rfl
set_option maxRecDepth 4096 in
theorem w_1008 : (Jvm.Cond.code ({ cls := "Dominofs", name := "winner", desc := "(I)I" } : Jvm.MethodName) prog_1_method_15_code (3 : Nat) (Option.some Jvm.ClassFile.FieldType.int)) ∈ lw_gd := gdc_5 48 rfl rfl
theorem ms_93 : MS mi_93 := ⟨(List.mem_filter.mp w_1008).1, w_1, by decide +kernel, ⟨by decide +kernel, by decide +kernel⟩, Nat.le_of_ble_eq_true rfl⟩
set_option maxRecDepth 4096 in
theorem w_1006 : (Jvm.Cond.instanceMethod ({ cls := "Dominofs", name := "winner", desc := "(I)I" } : Jvm.MethodName)) ∈ lw_gd := gdc_5 46 rfl rfl
set_option maxRecDepth 4096 in
theorem w_1007 : (Jvm.Cond.selects "Dominofs" ({ cls := "Dominofs", name := "winner", desc := "(I)I" } : Jvm.MethodName) ({ cls := "Dominofs", name := "winner", desc := "(I)I" } : Jvm.MethodName)) ∈ lw_gd := gdc_5 47 rfl rfl
theorem mk_1_93 : MK 1 93 1 mi_93 := ⟨mt_93, ms_93, by decide +kernel, ⟨w_1006, w_1007, rfl⟩⟩
set_option maxRecDepth 4096 in
theorem w_1013 : (Jvm.Cond.methodLink "DominofsLaw" (69 : Nat) ({ cls := "Dominofs", name := "why", desc := "(I)C" } : Jvm.MethodName)) ∈ lw_gd := gdc_5 53 rfl rfl
set_option maxRecDepth 4096 in
theorem w_1016 : (Jvm.Cond.code ({ cls := "Dominofs", name := "why", desc := "(I)C" } : Jvm.MethodName) prog_1_method_16_code (2 : Nat) (Option.some Jvm.ClassFile.FieldType.char)) ∈ lw_gd := gdc_5 56 rfl rfl
theorem ms_94 : MS mi_94 := ⟨(List.mem_filter.mp w_1016).1, w_1, by decide +kernel, ⟨by decide +kernel, by decide +kernel⟩, Nat.le_of_ble_eq_true rfl⟩
set_option maxRecDepth 4096 in
theorem w_1014 : (Jvm.Cond.instanceMethod ({ cls := "Dominofs", name := "why", desc := "(I)C" } : Jvm.MethodName)) ∈ lw_gd := gdc_5 54 rfl rfl
set_option maxRecDepth 4096 in
theorem w_1015 : (Jvm.Cond.selects "Dominofs" ({ cls := "Dominofs", name := "why", desc := "(I)C" } : Jvm.MethodName) ({ cls := "Dominofs", name := "why", desc := "(I)C" } : Jvm.MethodName)) ∈ lw_gd := gdc_5 55 rfl rfl
theorem mk_1_94 : MK 1 94 1 mi_94 := ⟨mt_94, ms_94, by decide +kernel, ⟨w_1014, w_1015, rfl⟩⟩
set_option maxRecDepth 4096 in
theorem w_1021 : (Jvm.Cond.methodLink "DominofsLaw" (73 : Nat) ({ cls := "Dominofs", name := "bet", desc := "(IIII)I" } : Jvm.MethodName)) ∈ lw_gd := gdc_5 61 rfl rfl
set_option maxRecDepth 4096 in
theorem w_1024 : (Jvm.Cond.code ({ cls := "Dominofs", name := "bet", desc := "(IIII)I" } : Jvm.MethodName) prog_1_method_17_code (6 : Nat) (Option.some Jvm.ClassFile.FieldType.int)) ∈ lw_gd := gdc_5 64 rfl rfl
theorem ms_95 : MS mi_95 := ⟨(List.mem_filter.mp w_1024).1, w_1, by decide +kernel, ⟨by decide +kernel, by decide +kernel⟩, Nat.le_of_ble_eq_true rfl⟩
set_option maxRecDepth 4096 in
theorem w_1022 : (Jvm.Cond.instanceMethod ({ cls := "Dominofs", name := "bet", desc := "(IIII)I" } : Jvm.MethodName)) ∈ lw_gd := gdc_5 62 rfl rfl
set_option maxRecDepth 4096 in
theorem w_1023 : (Jvm.Cond.selects "Dominofs" ({ cls := "Dominofs", name := "bet", desc := "(IIII)I" } : Jvm.MethodName) ({ cls := "Dominofs", name := "bet", desc := "(IIII)I" } : Jvm.MethodName)) ∈ lw_gd := gdc_5 63 rfl rfl
theorem mk_1_95 : MK 1 95 4 mi_95 := ⟨mt_95, ms_95, by decide +kernel, ⟨w_1022, w_1023, rfl⟩⟩
set_option maxRecDepth 4096 in
theorem w_1053 : (Jvm.Cond.methodLink "DominofsLaw" (77 : Nat) ({ cls := "Dominofs", name := "purse", desc := "(I)I" } : Jvm.MethodName)) ∈ lw_gd := gdc_5 93 rfl rfl
set_option maxRecDepth 4096 in
theorem w_1056 : (Jvm.Cond.code ({ cls := "Dominofs", name := "purse", desc := "(I)I" } : Jvm.MethodName) prog_1_method_18_code (2 : Nat) (Option.some Jvm.ClassFile.FieldType.int)) ∈ lw_gd := gdc_5 96 rfl rfl
theorem ms_96 : MS mi_96 := ⟨(List.mem_filter.mp w_1056).1, w_1, by decide +kernel, ⟨by decide +kernel, by decide +kernel⟩, Nat.le_of_ble_eq_true rfl⟩
set_option maxRecDepth 4096 in
theorem w_1054 : (Jvm.Cond.instanceMethod ({ cls := "Dominofs", name := "purse", desc := "(I)I" } : Jvm.MethodName)) ∈ lw_gd := gdc_5 94 rfl rfl
set_option maxRecDepth 4096 in
theorem w_1055 : (Jvm.Cond.selects "Dominofs" ({ cls := "Dominofs", name := "purse", desc := "(I)I" } : Jvm.MethodName) ({ cls := "Dominofs", name := "purse", desc := "(I)I" } : Jvm.MethodName)) ∈ lw_gd := gdc_5 95 rfl rfl
theorem mk_1_96 : MK 1 96 1 mi_96 := ⟨mt_96, ms_96, by decide +kernel, ⟨w_1054, w_1055, rfl⟩⟩
set_option maxRecDepth 4096 in
theorem w_1060 : (Jvm.Cond.methodLink "DominofsLaw" (80 : Nat) ({ cls := "Dominofs", name := "pool", desc := "(I)I" } : Jvm.MethodName)) ∈ lw_gd := gdc_5 100 rfl rfl
set_option maxRecDepth 4096 in
theorem w_1063 : (Jvm.Cond.code ({ cls := "Dominofs", name := "pool", desc := "(I)I" } : Jvm.MethodName) prog_1_method_19_code (2 : Nat) (Option.some Jvm.ClassFile.FieldType.int)) ∈ lw_gd := gdc_5 103 rfl rfl
theorem ms_97 : MS mi_97 := ⟨(List.mem_filter.mp w_1063).1, w_1, by decide +kernel, ⟨by decide +kernel, by decide +kernel⟩, Nat.le_of_ble_eq_true rfl⟩
set_option maxRecDepth 4096 in
theorem w_1061 : (Jvm.Cond.instanceMethod ({ cls := "Dominofs", name := "pool", desc := "(I)I" } : Jvm.MethodName)) ∈ lw_gd := gdc_5 101 rfl rfl
set_option maxRecDepth 4096 in
theorem w_1062 : (Jvm.Cond.selects "Dominofs" ({ cls := "Dominofs", name := "pool", desc := "(I)I" } : Jvm.MethodName) ({ cls := "Dominofs", name := "pool", desc := "(I)I" } : Jvm.MethodName)) ∈ lw_gd := gdc_5 102 rfl rfl
theorem mk_1_97 : MK 1 97 1 mi_97 := ⟨mt_97, ms_97, by decide +kernel, ⟨w_1061, w_1062, rfl⟩⟩
set_option maxRecDepth 4096 in
theorem w_1067 : (Jvm.Cond.methodLink "DominofsLaw" (83 : Nat) ({ cls := "Dominofs", name := "paid", desc := "(II)I" } : Jvm.MethodName)) ∈ lw_gd := gdc_5 107 rfl rfl
set_option maxRecDepth 4096 in
theorem w_1070 : (Jvm.Cond.code ({ cls := "Dominofs", name := "paid", desc := "(II)I" } : Jvm.MethodName) prog_1_method_20_code (4 : Nat) (Option.some Jvm.ClassFile.FieldType.int)) ∈ lw_gd := gdc_5 110 rfl rfl
theorem ms_98 : MS mi_98 := ⟨(List.mem_filter.mp w_1070).1, w_1, by decide +kernel, ⟨by decide +kernel, by decide +kernel⟩, Nat.le_of_ble_eq_true rfl⟩
set_option maxRecDepth 4096 in
theorem w_1068 : (Jvm.Cond.instanceMethod ({ cls := "Dominofs", name := "paid", desc := "(II)I" } : Jvm.MethodName)) ∈ lw_gd := gdc_5 108 rfl rfl
set_option maxRecDepth 4096 in
theorem w_1069 : (Jvm.Cond.selects "Dominofs" ({ cls := "Dominofs", name := "paid", desc := "(II)I" } : Jvm.MethodName) ({ cls := "Dominofs", name := "paid", desc := "(II)I" } : Jvm.MethodName)) ∈ lw_gd := gdc_5 109 rfl rfl
theorem mk_1_98 : MK 1 98 2 mi_98 := ⟨mt_98, ms_98, by decide +kernel, ⟨w_1068, w_1069, rfl⟩⟩
set_option maxRecDepth 4096 in
theorem w_1076 : (Jvm.Cond.methodLink "DominofsLaw" (86 : Nat) ({ cls := "Dominofs", name := "appeal", desc := "(IC)I" } : Jvm.MethodName)) ∈ lw_gd := gdc_5 116 rfl rfl
set_option maxRecDepth 4096 in
theorem w_1079 : (Jvm.Cond.code ({ cls := "Dominofs", name := "appeal", desc := "(IC)I" } : Jvm.MethodName) prog_1_method_22_code (4 : Nat) (Option.some Jvm.ClassFile.FieldType.int)) ∈ lw_gd := gdc_5 119 rfl rfl
theorem ms_100 : MS mi_100 := ⟨(List.mem_filter.mp w_1079).1, w_1, by decide +kernel, ⟨by decide +kernel, by decide +kernel⟩, Nat.le_of_ble_eq_true rfl⟩
set_option maxRecDepth 4096 in
theorem w_1077 : (Jvm.Cond.instanceMethod ({ cls := "Dominofs", name := "appeal", desc := "(IC)I" } : Jvm.MethodName)) ∈ lw_gd := gdc_5 117 rfl rfl
set_option maxRecDepth 4096 in
theorem w_1078 : (Jvm.Cond.selects "Dominofs" ({ cls := "Dominofs", name := "appeal", desc := "(IC)I" } : Jvm.MethodName) ({ cls := "Dominofs", name := "appeal", desc := "(IC)I" } : Jvm.MethodName)) ∈ lw_gd := gdc_5 118 rfl rfl
theorem mk_1_100 : MK 1 100 2 mi_100 := ⟨mt_100, ms_100, by decide +kernel, ⟨w_1077, w_1078, rfl⟩⟩
set_option maxRecDepth 4096 in
theorem w_1102 : (Jvm.Cond.methodLink "DominofsLaw" (90 : Nat) ({ cls := "Dominofs", name := "ruling", desc := "(I)C" } : Jvm.MethodName)) ∈ lw_gd := gdc_5 142 rfl rfl
set_option maxRecDepth 4096 in
theorem w_1105 : (Jvm.Cond.code ({ cls := "Dominofs", name := "ruling", desc := "(I)C" } : Jvm.MethodName) prog_1_method_23_code (2 : Nat) (Option.some Jvm.ClassFile.FieldType.char)) ∈ lw_gd := gdc_5 145 rfl rfl
theorem ms_101 : MS mi_101 := ⟨(List.mem_filter.mp w_1105).1, w_1, by decide +kernel, ⟨by decide +kernel, by decide +kernel⟩, Nat.le_of_ble_eq_true rfl⟩
set_option maxRecDepth 4096 in
theorem w_1103 : (Jvm.Cond.instanceMethod ({ cls := "Dominofs", name := "ruling", desc := "(I)C" } : Jvm.MethodName)) ∈ lw_gd := gdc_5 143 rfl rfl
set_option maxRecDepth 4096 in
theorem w_1104 : (Jvm.Cond.selects "Dominofs" ({ cls := "Dominofs", name := "ruling", desc := "(I)C" } : Jvm.MethodName) ({ cls := "Dominofs", name := "ruling", desc := "(I)C" } : Jvm.MethodName)) ∈ lw_gd := gdc_5 144 rfl rfl
theorem mk_1_101 : MK 1 101 1 mi_101 := ⟨mt_101, ms_101, by decide +kernel, ⟨w_1103, w_1104, rfl⟩⟩
set_option maxRecDepth 4096 in
theorem w_1109 : (Jvm.Cond.methodLink "DominofsLaw" (93 : Nat) ({ cls := "Dominofs", name := "entry", desc := "(I)C" } : Jvm.MethodName)) ∈ lw_gd := gdc_5 149 rfl rfl
set_option maxRecDepth 4096 in
theorem w_1112 : (Jvm.Cond.code ({ cls := "Dominofs", name := "entry", desc := "(I)C" } : Jvm.MethodName) prog_1_method_26_code (2 : Nat) (Option.some Jvm.ClassFile.FieldType.char)) ∈ lw_gd := gdc_5 152 rfl rfl
theorem ms_104 : MS mi_104 := ⟨(List.mem_filter.mp w_1112).1, w_1, by decide +kernel, ⟨by decide +kernel, by decide +kernel⟩, Nat.le_of_ble_eq_true rfl⟩
set_option maxRecDepth 4096 in
theorem w_1110 : (Jvm.Cond.instanceMethod ({ cls := "Dominofs", name := "entry", desc := "(I)C" } : Jvm.MethodName)) ∈ lw_gd := gdc_5 150 rfl rfl
set_option maxRecDepth 4096 in
theorem w_1111 : (Jvm.Cond.selects "Dominofs" ({ cls := "Dominofs", name := "entry", desc := "(I)C" } : Jvm.MethodName) ({ cls := "Dominofs", name := "entry", desc := "(I)C" } : Jvm.MethodName)) ∈ lw_gd := gdc_5 151 rfl rfl
theorem mk_1_104 : MK 1 104 1 mi_104 := ⟨mt_104, ms_104, by decide +kernel, ⟨w_1110, w_1111, rfl⟩⟩
set_option maxRecDepth 4096 in
theorem w_1121 : (Jvm.Cond.methodLink "DominofsLaw" (96 : Nat) ({ cls := "Dominofs", name := "gameOf", desc := "(I)I" } : Jvm.MethodName)) ∈ lw_gd := gdc_5 161 rfl rfl
set_option maxRecDepth 4096 in
theorem w_1124 : (Jvm.Cond.code ({ cls := "Dominofs", name := "gameOf", desc := "(I)I" } : Jvm.MethodName) prog_1_method_27_code (2 : Nat) (Option.some Jvm.ClassFile.FieldType.int)) ∈ lw_gd := gdc_5 164 rfl rfl
theorem ms_105 : MS mi_105 := ⟨(List.mem_filter.mp w_1124).1, w_1, by decide +kernel, ⟨by decide +kernel, by decide +kernel⟩, Nat.le_of_ble_eq_true rfl⟩
set_option maxRecDepth 4096 in
theorem w_1122 : (Jvm.Cond.instanceMethod ({ cls := "Dominofs", name := "gameOf", desc := "(I)I" } : Jvm.MethodName)) ∈ lw_gd := gdc_5 162 rfl rfl
set_option maxRecDepth 4096 in
theorem w_1123 : (Jvm.Cond.selects "Dominofs" ({ cls := "Dominofs", name := "gameOf", desc := "(I)I" } : Jvm.MethodName) ({ cls := "Dominofs", name := "gameOf", desc := "(I)I" } : Jvm.MethodName)) ∈ lw_gd := gdc_5 163 rfl rfl
theorem mk_1_105 : MK 1 105 1 mi_105 := ⟨mt_105, ms_105, by decide +kernel, ⟨w_1122, w_1123, rfl⟩⟩
set_option maxRecDepth 4096 in
theorem w_1128 : (Jvm.Cond.methodLink "DominofsLaw" (99 : Nat) ({ cls := "Dominofs", name := "checkpoint", desc := "()I" } : Jvm.MethodName)) ∈ lw_gd := gdc_5 168 rfl rfl
set_option maxRecDepth 4096 in
theorem w_1131 : (Jvm.Cond.code ({ cls := "Dominofs", name := "checkpoint", desc := "()I" } : Jvm.MethodName) prog_1_method_30_code (2 : Nat) (Option.some Jvm.ClassFile.FieldType.int)) ∈ lw_gd := gdc_5 171 rfl rfl
theorem ms_108 : MS mi_108 := ⟨(List.mem_filter.mp w_1131).1, w_1, by decide +kernel, ⟨by decide +kernel, by decide +kernel⟩, Nat.le_of_ble_eq_true rfl⟩
set_option maxRecDepth 4096 in
theorem w_1129 : (Jvm.Cond.instanceMethod ({ cls := "Dominofs", name := "checkpoint", desc := "()I" } : Jvm.MethodName)) ∈ lw_gd := gdc_5 169 rfl rfl
set_option maxRecDepth 4096 in
theorem w_1130 : (Jvm.Cond.selects "Dominofs" ({ cls := "Dominofs", name := "checkpoint", desc := "()I" } : Jvm.MethodName) ({ cls := "Dominofs", name := "checkpoint", desc := "()I" } : Jvm.MethodName)) ∈ lw_gd := gdc_5 170 rfl rfl
theorem mk_1_108 : MK 1 108 0 mi_108 := ⟨mt_108, ms_108, by decide +kernel, ⟨w_1129, w_1130, rfl⟩⟩
set_option maxRecDepth 4096 in
theorem w_1141 : (Jvm.Cond.methodLink "DominofsLaw" (103 : Nat) ({ cls := "Dominofs", name := "behind", desc := "(I)I" } : Jvm.MethodName)) ∈ lw_gd := gdc_5 181 rfl rfl
set_option maxRecDepth 4096 in
theorem w_1144 : (Jvm.Cond.code ({ cls := "Dominofs", name := "behind", desc := "(I)I" } : Jvm.MethodName) prog_1_method_31_code (2 : Nat) (Option.some Jvm.ClassFile.FieldType.int)) ∈ lw_gd := gdc_5 184 rfl rfl
theorem ms_109 : MS mi_109 := ⟨(List.mem_filter.mp w_1144).1, w_1, by decide +kernel, ⟨by decide +kernel, by decide +kernel⟩, Nat.le_of_ble_eq_true rfl⟩
set_option maxRecDepth 4096 in
theorem w_1142 : (Jvm.Cond.instanceMethod ({ cls := "Dominofs", name := "behind", desc := "(I)I" } : Jvm.MethodName)) ∈ lw_gd := gdc_5 182 rfl rfl
set_option maxRecDepth 4096 in
theorem w_1143 : (Jvm.Cond.selects "Dominofs" ({ cls := "Dominofs", name := "behind", desc := "(I)I" } : Jvm.MethodName) ({ cls := "Dominofs", name := "behind", desc := "(I)I" } : Jvm.MethodName)) ∈ lw_gd := gdc_5 183 rfl rfl
theorem mk_1_109 : MK 1 109 1 mi_109 := ⟨mt_109, ms_109, by decide +kernel, ⟨w_1142, w_1143, rfl⟩⟩
set_option maxRecDepth 4096 in
theorem w_1149 : (Jvm.Cond.methodLink "DominofsLaw" (106 : Nat) ({ cls := "Dominofs", name := "replay", desc := "(I)J" } : Jvm.MethodName)) ∈ lw_gd := gdc_5 189 rfl rfl
set_option maxRecDepth 4096 in
theorem w_1152 : (Jvm.Cond.code ({ cls := "Dominofs", name := "replay", desc := "(I)J" } : Jvm.MethodName) prog_1_method_32_code (2 : Nat) (Option.some Jvm.ClassFile.FieldType.long)) ∈ lw_gd := gdc_5 192 rfl rfl
theorem ms_110 : MS mi_110 := ⟨(List.mem_filter.mp w_1152).1, w_1, by decide +kernel, ⟨by decide +kernel, by decide +kernel⟩, Nat.le_of_ble_eq_true rfl⟩
set_option maxRecDepth 4096 in
theorem w_1150 : (Jvm.Cond.instanceMethod ({ cls := "Dominofs", name := "replay", desc := "(I)J" } : Jvm.MethodName)) ∈ lw_gd := gdc_5 190 rfl rfl
set_option maxRecDepth 4096 in
theorem w_1151 : (Jvm.Cond.selects "Dominofs" ({ cls := "Dominofs", name := "replay", desc := "(I)J" } : Jvm.MethodName) ({ cls := "Dominofs", name := "replay", desc := "(I)J" } : Jvm.MethodName)) ∈ lw_gd := gdc_5 191 rfl rfl
theorem mk_1_110 : MK 1 110 1 mi_110 := ⟨mt_110, ms_110, by decide +kernel, ⟨w_1150, w_1151, rfl⟩⟩
set_option maxRecDepth 4096 in
theorem w_1156 : (Jvm.Cond.methodLink "DominofsLaw" (110 : Nat) ({ cls := "Dominofs", name := "playedShare", desc := "()F" } : Jvm.MethodName)) ∈ lw_gd := gdc_5 196 rfl rfl
set_option maxRecDepth 4096 in
theorem w_1159 : (Jvm.Cond.code ({ cls := "Dominofs", name := "playedShare", desc := "()F" } : Jvm.MethodName) prog_1_method_34_code (1 : Nat) (Option.some Jvm.ClassFile.FieldType.float)) ∈ lw_gd := gdc_5 199 rfl rfl
theorem ms_112 : MS mi_112 := ⟨(List.mem_filter.mp w_1159).1, w_1, by decide +kernel, ⟨by decide +kernel, by decide +kernel⟩, Nat.le_of_ble_eq_true rfl⟩
set_option maxRecDepth 4096 in
theorem w_1157 : (Jvm.Cond.instanceMethod ({ cls := "Dominofs", name := "playedShare", desc := "()F" } : Jvm.MethodName)) ∈ lw_gd := gdc_5 197 rfl rfl
set_option maxRecDepth 4096 in
theorem w_1158 : (Jvm.Cond.selects "Dominofs" ({ cls := "Dominofs", name := "playedShare", desc := "()F" } : Jvm.MethodName) ({ cls := "Dominofs", name := "playedShare", desc := "()F" } : Jvm.MethodName)) ∈ lw_gd := gdc_5 198 rfl rfl
theorem mk_1_112 : MK 1 112 0 mi_112 := ⟨mt_112, ms_112, by decide +kernel, ⟨w_1157, w_1158, rfl⟩⟩
set_option maxRecDepth 4096 in
theorem w_32 : (Jvm.Cond.classLink "DominofsLaw" (8 : Nat) "Dominofs") ∈ lw_gd := gdc_1 32 rfl rfl
set_option maxRecDepth 4096 in
theorem w_33 : (Jvm.Cond.instantiable "Dominofs" (10 : Nat)) ∈ lw_gd := gdc_1 33 rfl rfl
set_option maxRecDepth 4096 in
theorem w_34 : (Jvm.Cond.methodLink "DominofsLaw" (114 : Nat) ({ cls := "Dominofs", name := "<init>", desc := "()V" } : Jvm.MethodName)) ∈ lw_gd := gdc_1 34 rfl rfl
set_option maxRecDepth 4096 in
theorem w_36 : (Jvm.Cond.code ({ cls := "Dominofs", name := "<init>", desc := "()V" } : Jvm.MethodName) prog_1_method_1_code (1 : Nat) (Option.none : Option Jvm.ClassFile.FieldType)) ∈ lw_gd := gdc_1 36 rfl rfl
theorem ms_79 : MS mi_79 := ⟨(List.mem_filter.mp w_36).1, w_1, by decide +kernel, ⟨by decide +kernel, by decide +kernel⟩, Nat.le_of_ble_eq_true rfl⟩
set_option maxRecDepth 4096 in
theorem w_35 : (Jvm.Cond.instanceMethod ({ cls := "Dominofs", name := "<init>", desc := "()V" } : Jvm.MethodName)) ∈ lw_gd := gdc_1 35 rfl rfl
theorem mk_2_79 : MK 2 79 0 mi_79 := ⟨mt_79, ms_79, by decide +kernel, ⟨w_35, rfl, rfl, rfl⟩⟩
set_option maxRecDepth 4096 in
theorem w_1165 : (Jvm.Cond.classLink "DominofsLaw" (115 : Nat) "DominofsModel") ∈ lw_gd := gdc_5 205 rfl rfl
set_option maxRecDepth 4096 in
theorem w_1166 : (Jvm.Cond.instantiable "DominofsModel" (41 : Nat)) ∈ lw_gd := gdc_5 206 rfl rfl
set_option maxRecDepth 4096 in
theorem w_1167 : (Jvm.Cond.methodLink "DominofsLaw" (117 : Nat) ({ cls := "DominofsModel", name := "<init>", desc := "()V" } : Jvm.MethodName)) ∈ lw_gd := gdc_5 207 rfl rfl
set_option maxRecDepth 4096 in
theorem w_1169 : (Jvm.Cond.code ({ cls := "DominofsModel", name := "<init>", desc := "()V" } : Jvm.MethodName) prog_14_method_1_code (1 : Nat) (Option.none : Option Jvm.ClassFile.FieldType)) ∈ lw_gd := gdc_5 209 rfl rfl
theorem ms_124 : MS mi_124 := ⟨(List.mem_filter.mp w_1169).1, w_9, by decide +kernel, ⟨by decide +kernel, by decide +kernel⟩, Nat.le_of_ble_eq_true rfl⟩
set_option maxRecDepth 4096 in
theorem w_1168 : (Jvm.Cond.instanceMethod ({ cls := "DominofsModel", name := "<init>", desc := "()V" } : Jvm.MethodName)) ∈ lw_gd := gdc_5 208 rfl rfl
theorem mk_2_124 : MK 2 124 0 mi_124 := ⟨mt_124, ms_124, by decide +kernel, ⟨w_1168, rfl, rfl, rfl⟩⟩
set_option maxRecDepth 4096 in
theorem w_1563 : (Jvm.Cond.arrayClass Jvm.ClassFile.FieldType.long) ∈ lw_gd := gdc_7 123 rfl rfl
set_option maxRecDepth 4096 in
theorem w_1564 : (Jvm.Cond.arrayClass Jvm.ClassFile.FieldType.double) ∈ lw_gd := gdc_7 124 rfl rfl
set_option maxRecDepth 4096 in
theorem w_566 : (Jvm.Cond.methodLink "DominofsLaw" (118 : Nat) ({ cls := "DominofsLaw", name := "house", desc := "(LDominofs;IIIZC[J)I" } : Jvm.MethodName)) ∈ lw_gd := gdc_3 86 rfl rfl
set_option maxRecDepth 4096 in
theorem w_568 : (Jvm.Cond.codeWith ({ cls := "DominofsLaw", name := "house", desc := "(LDominofs;IIIZC[J)I" } : Jvm.MethodName) method_3_code (8 : Nat) (Option.some Jvm.ClassFile.FieldType.int) [((0 : Nat), (16 : Nat), (19 : Nat), (13 : Nat)), ((0 : Nat), (16 : Nat), (23 : Nat), (15 : Nat))]) ∈ lw_gd := gdc_3 88 rfl rfl
set_option maxRecDepth 4096 in
theorem w_0 : (Jvm.Cond.initialized "DominofsLaw") ∈ lw_gd := gdc_1 0 rfl rfl
theorem ms_211 : MS mi_211 := ⟨(List.mem_filter.mp w_568).1, w_0, by decide +kernel, ⟨by decide +kernel, by decide +kernel⟩, Nat.le_of_ble_eq_true rfl⟩
set_option maxRecDepth 4096 in
theorem w_567 : (Jvm.Cond.static ({ cls := "DominofsLaw", name := "house", desc := "(LDominofs;IIIZC[J)I" } : Jvm.MethodName)) ∈ lw_gd := gdc_3 87 rfl rfl
theorem mk_0_211 : MK 0 211 7 mi_211 := ⟨mt_211, ms_211, by decide +kernel, w_567⟩
set_option maxRecDepth 4096 in
theorem w_1300 : (Jvm.Cond.methodLink "DominofsLaw" (123 : Nat) ({ cls := "DominofsModel", name := "house", desc := "(IIIZC)I" } : Jvm.MethodName)) ∈ lw_gd := gdc_6 100 rfl rfl
set_option maxRecDepth 4096 in
theorem w_1303 : (Jvm.Cond.code ({ cls := "DominofsModel", name := "house", desc := "(IIIZC)I" } : Jvm.MethodName) prog_14_method_11_code (7 : Nat) (Option.some Jvm.ClassFile.FieldType.int)) ∈ lw_gd := gdc_6 103 rfl rfl
theorem ms_134 : MS mi_134 := ⟨(List.mem_filter.mp w_1303).1, w_9, by decide +kernel, ⟨by decide +kernel, by decide +kernel⟩, Nat.le_of_ble_eq_true rfl⟩
set_option maxRecDepth 4096 in
theorem w_1301 : (Jvm.Cond.instanceMethod ({ cls := "DominofsModel", name := "house", desc := "(IIIZC)I" } : Jvm.MethodName)) ∈ lw_gd := gdc_6 101 rfl rfl
set_option maxRecDepth 4096 in
theorem w_1302 : (Jvm.Cond.selects "DominofsModel" ({ cls := "DominofsModel", name := "house", desc := "(IIIZC)I" } : Jvm.MethodName) ({ cls := "DominofsModel", name := "house", desc := "(IIIZC)I" } : Jvm.MethodName)) ∈ lw_gd := gdc_6 102 rfl rfl
theorem mk_1_134 : MK 1 134 5 mi_134 := ⟨mt_134, ms_134, by decide +kernel, ⟨w_1301, w_1302, rfl⟩⟩
set_option maxRecDepth 4096 in
theorem w_1296 : (Jvm.Cond.methodLink "DominofsLaw" (124 : Nat) ({ cls := "DominofsModel", name := "thrown", desc := "()I" } : Jvm.MethodName)) ∈ lw_gd := gdc_6 96 rfl rfl
set_option maxRecDepth 4096 in
theorem w_1299 : (Jvm.Cond.code ({ cls := "DominofsModel", name := "thrown", desc := "()I" } : Jvm.MethodName) prog_14_method_2_code (1 : Nat) (Option.some Jvm.ClassFile.FieldType.int)) ∈ lw_gd := gdc_6 99 rfl rfl
theorem ms_125 : MS mi_125 := ⟨(List.mem_filter.mp w_1299).1, w_9, by decide +kernel, ⟨by decide +kernel, by decide +kernel⟩, Nat.le_of_ble_eq_true rfl⟩
set_option maxRecDepth 4096 in
theorem w_1297 : (Jvm.Cond.instanceMethod ({ cls := "DominofsModel", name := "thrown", desc := "()I" } : Jvm.MethodName)) ∈ lw_gd := gdc_6 97 rfl rfl
set_option maxRecDepth 4096 in
theorem w_1298 : (Jvm.Cond.selects "DominofsModel" ({ cls := "DominofsModel", name := "thrown", desc := "()I" } : Jvm.MethodName) ({ cls := "DominofsModel", name := "thrown", desc := "()I" } : Jvm.MethodName)) ∈ lw_gd := gdc_6 98 rfl rfl
theorem mk_1_125 : MK 1 125 0 mi_125 := ⟨mt_125, ms_125, by decide +kernel, ⟨w_1297, w_1298, rfl⟩⟩
set_option maxRecDepth 4096 in
theorem w_726 : (Jvm.Cond.methodLink "DominofsLaw" (127 : Nat) ({ cls := "DominofsLaw", name := "game", desc := "(LDominofs;II[J)I" } : Jvm.MethodName)) ∈ lw_gd := gdc_4 6 rfl rfl
set_option maxRecDepth 4096 in
theorem w_728 : (Jvm.Cond.codeWith ({ cls := "DominofsLaw", name := "game", desc := "(LDominofs;II[J)I" } : Jvm.MethodName) method_4_code (5 : Nat) (Option.some Jvm.ClassFile.FieldType.int) [((0 : Nat), (10 : Nat), (13 : Nat), (21 : Nat)), ((0 : Nat), (10 : Nat), (17 : Nat), (13 : Nat)), ((0 : Nat), (10 : Nat), (21 : Nat), (15 : Nat))]) ∈ lw_gd := gdc_4 8 rfl rfl
theorem ms_212 : MS mi_212 := ⟨(List.mem_filter.mp w_728).1, w_0, by decide +kernel, ⟨by decide +kernel, by decide +kernel⟩, Nat.le_of_ble_eq_true rfl⟩
set_option maxRecDepth 4096 in
theorem w_727 : (Jvm.Cond.static ({ cls := "DominofsLaw", name := "game", desc := "(LDominofs;II[J)I" } : Jvm.MethodName)) ∈ lw_gd := gdc_4 7 rfl rfl
theorem mk_0_212 : MK 0 212 4 mi_212 := ⟨mt_212, ms_212, by decide +kernel, w_727⟩
set_option maxRecDepth 4096 in
theorem w_1313 : (Jvm.Cond.methodLink "DominofsLaw" (130 : Nat) ({ cls := "DominofsModel", name := "game", desc := "(II)I" } : Jvm.MethodName)) ∈ lw_gd := gdc_6 113 rfl rfl
set_option maxRecDepth 4096 in
theorem w_1316 : (Jvm.Cond.code ({ cls := "DominofsModel", name := "game", desc := "(II)I" } : Jvm.MethodName) prog_14_method_24_code (3 : Nat) (Option.some Jvm.ClassFile.FieldType.int)) ∈ lw_gd := gdc_6 116 rfl rfl
theorem ms_147 : MS mi_147 := ⟨(List.mem_filter.mp w_1316).1, w_9, by decide +kernel, ⟨by decide +kernel, by decide +kernel⟩, Nat.le_of_ble_eq_true rfl⟩
set_option maxRecDepth 4096 in
theorem w_1314 : (Jvm.Cond.instanceMethod ({ cls := "DominofsModel", name := "game", desc := "(II)I" } : Jvm.MethodName)) ∈ lw_gd := gdc_6 114 rfl rfl
set_option maxRecDepth 4096 in
theorem w_1315 : (Jvm.Cond.selects "DominofsModel" ({ cls := "DominofsModel", name := "game", desc := "(II)I" } : Jvm.MethodName) ({ cls := "DominofsModel", name := "game", desc := "(II)I" } : Jvm.MethodName)) ∈ lw_gd := gdc_6 115 rfl rfl
theorem mk_1_147 : MK 1 147 2 mi_147 := ⟨mt_147, ms_147, by decide +kernel, ⟨w_1314, w_1315, rfl⟩⟩
set_option maxRecDepth 4096 in
theorem w_796 : (Jvm.Cond.methodLink "DominofsLaw" (131 : Nat) ({ cls := "DominofsLaw", name := "lay", desc := "(LDominofs;IIZ[J)I" } : Jvm.MethodName)) ∈ lw_gd := gdc_4 76 rfl rfl
set_option maxRecDepth 4096 in
theorem w_798 : (Jvm.Cond.codeWith ({ cls := "DominofsLaw", name := "lay", desc := "(LDominofs;IIZ[J)I" } : Jvm.MethodName) method_5_code (6 : Nat) (Option.some Jvm.ClassFile.FieldType.int) [((0 : Nat), (19 : Nat), (22 : Nat), (21 : Nat)), ((0 : Nat), (19 : Nat), (26 : Nat), (13 : Nat)), ((0 : Nat), (19 : Nat), (30 : Nat), (15 : Nat)), ((0 : Nat), (19 : Nat), (34 : Nat), (27 : Nat))]) ∈ lw_gd := gdc_4 78 rfl rfl
theorem ms_213 : MS mi_213 := ⟨(List.mem_filter.mp w_798).1, w_0, by decide +kernel, ⟨by decide +kernel, by decide +kernel⟩, Nat.le_of_ble_eq_true rfl⟩
set_option maxRecDepth 4096 in
theorem w_797 : (Jvm.Cond.static ({ cls := "DominofsLaw", name := "lay", desc := "(LDominofs;IIZ[J)I" } : Jvm.MethodName)) ∈ lw_gd := gdc_4 77 rfl rfl
theorem mk_0_213 : MK 0 213 5 mi_213 := ⟨mt_213, ms_213, by decide +kernel, w_797⟩
set_option maxRecDepth 4096 in
theorem w_1380 : (Jvm.Cond.methodLink "DominofsLaw" (134 : Nat) ({ cls := "DominofsModel", name := "lay", desc := "(IIZ)Z" } : Jvm.MethodName)) ∈ lw_gd := gdc_6 180 rfl rfl
set_option maxRecDepth 4096 in
theorem w_1383 : (Jvm.Cond.code ({ cls := "DominofsModel", name := "lay", desc := "(IIZ)Z" } : Jvm.MethodName) prog_14_method_28_code (4 : Nat) (Option.some Jvm.ClassFile.FieldType.boolean)) ∈ lw_gd := gdc_6 183 rfl rfl
theorem ms_151 : MS mi_151 := ⟨(List.mem_filter.mp w_1383).1, w_9, by decide +kernel, ⟨by decide +kernel, by decide +kernel⟩, Nat.le_of_ble_eq_true rfl⟩
set_option maxRecDepth 4096 in
theorem w_1381 : (Jvm.Cond.instanceMethod ({ cls := "DominofsModel", name := "lay", desc := "(IIZ)Z" } : Jvm.MethodName)) ∈ lw_gd := gdc_6 181 rfl rfl
set_option maxRecDepth 4096 in
theorem w_1382 : (Jvm.Cond.selects "DominofsModel" ({ cls := "DominofsModel", name := "lay", desc := "(IIZ)Z" } : Jvm.MethodName) ({ cls := "DominofsModel", name := "lay", desc := "(IIZ)Z" } : Jvm.MethodName)) ∈ lw_gd := gdc_6 182 rfl rfl
theorem mk_1_151 : MK 1 151 3 mi_151 := ⟨mt_151, ms_151, by decide +kernel, ⟨w_1381, w_1382, rfl⟩⟩
set_option maxRecDepth 4096 in
theorem w_870 : (Jvm.Cond.methodLink "DominofsLaw" (135 : Nat) ({ cls := "DominofsLaw", name := "draw", desc := "(LDominofs;I[J)I" } : Jvm.MethodName)) ∈ lw_gd := gdc_4 150 rfl rfl
set_option maxRecDepth 4096 in
theorem w_872 : (Jvm.Cond.codeWith ({ cls := "DominofsLaw", name := "draw", desc := "(LDominofs;I[J)I" } : Jvm.MethodName) method_6_code (4 : Nat) (Option.some Jvm.ClassFile.FieldType.int) [((0 : Nat), (9 : Nat), (12 : Nat), (21 : Nat)), ((0 : Nat), (9 : Nat), (15 : Nat), (15 : Nat)), ((0 : Nat), (9 : Nat), (18 : Nat), (27 : Nat))]) ∈ lw_gd := gdc_4 152 rfl rfl
theorem ms_214 : MS mi_214 := ⟨(List.mem_filter.mp w_872).1, w_0, by decide +kernel, ⟨by decide +kernel, by decide +kernel⟩, Nat.le_of_ble_eq_true rfl⟩
set_option maxRecDepth 4096 in
theorem w_871 : (Jvm.Cond.static ({ cls := "DominofsLaw", name := "draw", desc := "(LDominofs;I[J)I" } : Jvm.MethodName)) ∈ lw_gd := gdc_4 151 rfl rfl
theorem mk_0_214 : MK 0 214 3 mi_214 := ⟨mt_214, ms_214, by decide +kernel, w_871⟩
set_option maxRecDepth 4096 in
theorem w_1400 : (Jvm.Cond.methodLink "DominofsLaw" (138 : Nat) ({ cls := "DominofsModel", name := "draw", desc := "(I)I" } : Jvm.MethodName)) ∈ lw_gd := gdc_6 200 rfl rfl
set_option maxRecDepth 4096 in
theorem w_1403 : (Jvm.Cond.code ({ cls := "DominofsModel", name := "draw", desc := "(I)I" } : Jvm.MethodName) prog_14_method_30_code (3 : Nat) (Option.some Jvm.ClassFile.FieldType.int)) ∈ lw_gd := gdc_6 203 rfl rfl
theorem ms_153 : MS mi_153 := ⟨(List.mem_filter.mp w_1403).1, w_9, by decide +kernel, ⟨by decide +kernel, by decide +kernel⟩, Nat.le_of_ble_eq_true rfl⟩
set_option maxRecDepth 4096 in
theorem w_1401 : (Jvm.Cond.instanceMethod ({ cls := "DominofsModel", name := "draw", desc := "(I)I" } : Jvm.MethodName)) ∈ lw_gd := gdc_6 201 rfl rfl
set_option maxRecDepth 4096 in
theorem w_1402 : (Jvm.Cond.selects "DominofsModel" ({ cls := "DominofsModel", name := "draw", desc := "(I)I" } : Jvm.MethodName) ({ cls := "DominofsModel", name := "draw", desc := "(I)I" } : Jvm.MethodName)) ∈ lw_gd := gdc_6 202 rfl rfl
theorem mk_1_153 : MK 1 153 1 mi_153 := ⟨mt_153, ms_153, by decide +kernel, ⟨w_1401, w_1402, rfl⟩⟩
set_option maxRecDepth 4096 in
theorem w_896 : (Jvm.Cond.methodLink "DominofsLaw" (139 : Nat) ({ cls := "DominofsLaw", name := "pass", desc := "(LDominofs;I[J)I" } : Jvm.MethodName)) ∈ lw_gd := gdc_4 176 rfl rfl
set_option maxRecDepth 4096 in
theorem w_898 : (Jvm.Cond.codeWith ({ cls := "DominofsLaw", name := "pass", desc := "(LDominofs;I[J)I" } : Jvm.MethodName) method_7_code (4 : Nat) (Option.some Jvm.ClassFile.FieldType.int) [((0 : Nat), (16 : Nat), (19 : Nat), (21 : Nat)), ((0 : Nat), (16 : Nat), (22 : Nat), (15 : Nat)), ((0 : Nat), (16 : Nat), (25 : Nat), (27 : Nat))]) ∈ lw_gd := gdc_4 178 rfl rfl
theorem ms_215 : MS mi_215 := ⟨(List.mem_filter.mp w_898).1, w_0, by decide +kernel, ⟨by decide +kernel, by decide +kernel⟩, Nat.le_of_ble_eq_true rfl⟩
set_option maxRecDepth 4096 in
theorem w_897 : (Jvm.Cond.static ({ cls := "DominofsLaw", name := "pass", desc := "(LDominofs;I[J)I" } : Jvm.MethodName)) ∈ lw_gd := gdc_4 177 rfl rfl
theorem mk_0_215 : MK 0 215 3 mi_215 := ⟨mt_215, ms_215, by decide +kernel, w_897⟩
set_option maxRecDepth 4096 in
theorem w_1412 : (Jvm.Cond.methodLink "DominofsLaw" (141 : Nat) ({ cls := "DominofsModel", name := "pass", desc := "(I)Z" } : Jvm.MethodName)) ∈ lw_gd := gdc_6 212 rfl rfl
set_option maxRecDepth 4096 in
theorem w_1415 : (Jvm.Cond.code ({ cls := "DominofsModel", name := "pass", desc := "(I)Z" } : Jvm.MethodName) prog_14_method_31_code (2 : Nat) (Option.some Jvm.ClassFile.FieldType.boolean)) ∈ lw_gd := gdc_6 215 rfl rfl
theorem ms_154 : MS mi_154 := ⟨(List.mem_filter.mp w_1415).1, w_9, by decide +kernel, ⟨by decide +kernel, by decide +kernel⟩, Nat.le_of_ble_eq_true rfl⟩
set_option maxRecDepth 4096 in
theorem w_1413 : (Jvm.Cond.instanceMethod ({ cls := "DominofsModel", name := "pass", desc := "(I)Z" } : Jvm.MethodName)) ∈ lw_gd := gdc_6 213 rfl rfl
set_option maxRecDepth 4096 in
theorem w_1414 : (Jvm.Cond.selects "DominofsModel" ({ cls := "DominofsModel", name := "pass", desc := "(I)Z" } : Jvm.MethodName) ({ cls := "DominofsModel", name := "pass", desc := "(I)Z" } : Jvm.MethodName)) ∈ lw_gd := gdc_6 214 rfl rfl
theorem mk_1_154 : MK 1 154 1 mi_154 := ⟨mt_154, ms_154, by decide +kernel, ⟨w_1413, w_1414, rfl⟩⟩
set_option maxRecDepth 4096 in
theorem w_913 : (Jvm.Cond.methodLink "DominofsLaw" (142 : Nat) ({ cls := "DominofsLaw", name := "mover", desc := "(LDominofs;I[J)I" } : Jvm.MethodName)) ∈ lw_gd := gdc_4 193 rfl rfl
set_option maxRecDepth 4096 in
theorem w_915 : (Jvm.Cond.codeWith ({ cls := "DominofsLaw", name := "mover", desc := "(LDominofs;I[J)I" } : Jvm.MethodName) method_8_code (4 : Nat) (Option.some Jvm.ClassFile.FieldType.int) [((0 : Nat), (9 : Nat), (12 : Nat), (21 : Nat)), ((0 : Nat), (9 : Nat), (15 : Nat), (15 : Nat))]) ∈ lw_gd := gdc_4 195 rfl rfl
theorem ms_216 : MS mi_216 := ⟨(List.mem_filter.mp w_915).1, w_0, by decide +kernel, ⟨by decide +kernel, by decide +kernel⟩, Nat.le_of_ble_eq_true rfl⟩
set_option maxRecDepth 4096 in
theorem w_914 : (Jvm.Cond.static ({ cls := "DominofsLaw", name := "mover", desc := "(LDominofs;I[J)I" } : Jvm.MethodName)) ∈ lw_gd := gdc_4 194 rfl rfl
theorem mk_0_216 : MK 0 216 3 mi_216 := ⟨mt_216, ms_216, by decide +kernel, w_914⟩
set_option maxRecDepth 4096 in
theorem w_1416 : (Jvm.Cond.methodLink "DominofsLaw" (144 : Nat) ({ cls := "DominofsModel", name := "mover", desc := "(I)I" } : Jvm.MethodName)) ∈ lw_gd := gdc_6 216 rfl rfl
set_option maxRecDepth 4096 in
theorem w_1419 : (Jvm.Cond.code ({ cls := "DominofsModel", name := "mover", desc := "(I)I" } : Jvm.MethodName) prog_14_method_33_code (2 : Nat) (Option.some Jvm.ClassFile.FieldType.int)) ∈ lw_gd := gdc_6 219 rfl rfl
theorem ms_156 : MS mi_156 := ⟨(List.mem_filter.mp w_1419).1, w_9, by decide +kernel, ⟨by decide +kernel, by decide +kernel⟩, Nat.le_of_ble_eq_true rfl⟩
set_option maxRecDepth 4096 in
theorem w_1417 : (Jvm.Cond.instanceMethod ({ cls := "DominofsModel", name := "mover", desc := "(I)I" } : Jvm.MethodName)) ∈ lw_gd := gdc_6 217 rfl rfl
set_option maxRecDepth 4096 in
theorem w_1418 : (Jvm.Cond.selects "DominofsModel" ({ cls := "DominofsModel", name := "mover", desc := "(I)I" } : Jvm.MethodName) ({ cls := "DominofsModel", name := "mover", desc := "(I)I" } : Jvm.MethodName)) ∈ lw_gd := gdc_6 218 rfl rfl
theorem mk_1_156 : MK 1 156 1 mi_156 := ⟨mt_156, ms_156, by decide +kernel, ⟨w_1417, w_1418, rfl⟩⟩
set_option maxRecDepth 4096 in
theorem w_921 : (Jvm.Cond.methodLink "DominofsLaw" (145 : Nat) ({ cls := "DominofsLaw", name := "hand", desc := "(LDominofs;II[J)I" } : Jvm.MethodName)) ∈ lw_gd := gdc_4 201 rfl rfl
set_option maxRecDepth 4096 in
theorem w_923 : (Jvm.Cond.codeWith ({ cls := "DominofsLaw", name := "hand", desc := "(LDominofs;II[J)I" } : Jvm.MethodName) method_9_code (5 : Nat) (Option.some Jvm.ClassFile.FieldType.int) [((0 : Nat), (9 : Nat), (12 : Nat), (21 : Nat))]) ∈ lw_gd := gdc_4 203 rfl rfl
theorem ms_217 : MS mi_217 := ⟨(List.mem_filter.mp w_923).1, w_0, by decide +kernel, ⟨by decide +kernel, by decide +kernel⟩, Nat.le_of_ble_eq_true rfl⟩
set_option maxRecDepth 4096 in
theorem w_922 : (Jvm.Cond.static ({ cls := "DominofsLaw", name := "hand", desc := "(LDominofs;II[J)I" } : Jvm.MethodName)) ∈ lw_gd := gdc_4 202 rfl rfl
theorem mk_0_217 : MK 0 217 4 mi_217 := ⟨mt_217, ms_217, by decide +kernel, w_922⟩
set_option maxRecDepth 4096 in
theorem w_1424 : (Jvm.Cond.methodLink "DominofsLaw" (147 : Nat) ({ cls := "DominofsModel", name := "hand", desc := "(II)J" } : Jvm.MethodName)) ∈ lw_gd := gdc_6 224 rfl rfl
set_option maxRecDepth 4096 in
theorem w_1427 : (Jvm.Cond.code ({ cls := "DominofsModel", name := "hand", desc := "(II)J" } : Jvm.MethodName) prog_14_method_34_code (3 : Nat) (Option.some Jvm.ClassFile.FieldType.long)) ∈ lw_gd := gdc_6 227 rfl rfl
theorem ms_157 : MS mi_157 := ⟨(List.mem_filter.mp w_1427).1, w_9, by decide +kernel, ⟨by decide +kernel, by decide +kernel⟩, Nat.le_of_ble_eq_true rfl⟩
set_option maxRecDepth 4096 in
theorem w_1425 : (Jvm.Cond.instanceMethod ({ cls := "DominofsModel", name := "hand", desc := "(II)J" } : Jvm.MethodName)) ∈ lw_gd := gdc_6 225 rfl rfl
set_option maxRecDepth 4096 in
theorem w_1426 : (Jvm.Cond.selects "DominofsModel" ({ cls := "DominofsModel", name := "hand", desc := "(II)J" } : Jvm.MethodName) ({ cls := "DominofsModel", name := "hand", desc := "(II)J" } : Jvm.MethodName)) ∈ lw_gd := gdc_6 226 rfl rfl
theorem mk_1_157 : MK 1 157 2 mi_157 := ⟨mt_157, ms_157, by decide +kernel, ⟨w_1425, w_1426, rfl⟩⟩
set_option maxRecDepth 4096 in
theorem w_934 : (Jvm.Cond.methodLink "DominofsLaw" (148 : Nat) ({ cls := "DominofsLaw", name := "stock", desc := "(LDominofs;I[J)I" } : Jvm.MethodName)) ∈ lw_gd := gdc_4 214 rfl rfl
set_option maxRecDepth 4096 in
theorem w_936 : (Jvm.Cond.codeWith ({ cls := "DominofsLaw", name := "stock", desc := "(LDominofs;I[J)I" } : Jvm.MethodName) method_10_code (4 : Nat) (Option.some Jvm.ClassFile.FieldType.int) [((0 : Nat), (9 : Nat), (12 : Nat), (21 : Nat))]) ∈ lw_gd := gdc_4 216 rfl rfl
theorem ms_218 : MS mi_218 := ⟨(List.mem_filter.mp w_936).1, w_0, by decide +kernel, ⟨by decide +kernel, by decide +kernel⟩, Nat.le_of_ble_eq_true rfl⟩
set_option maxRecDepth 4096 in
theorem w_935 : (Jvm.Cond.static ({ cls := "DominofsLaw", name := "stock", desc := "(LDominofs;I[J)I" } : Jvm.MethodName)) ∈ lw_gd := gdc_4 215 rfl rfl
theorem mk_0_218 : MK 0 218 3 mi_218 := ⟨mt_218, ms_218, by decide +kernel, w_935⟩
set_option maxRecDepth 4096 in
theorem w_1428 : (Jvm.Cond.methodLink "DominofsLaw" (150 : Nat) ({ cls := "DominofsModel", name := "stock", desc := "(I)I" } : Jvm.MethodName)) ∈ lw_gd := gdc_6 228 rfl rfl
set_option maxRecDepth 4096 in
theorem w_1431 : (Jvm.Cond.code ({ cls := "DominofsModel", name := "stock", desc := "(I)I" } : Jvm.MethodName) prog_14_method_35_code (2 : Nat) (Option.some Jvm.ClassFile.FieldType.int)) ∈ lw_gd := gdc_6 231 rfl rfl
theorem ms_158 : MS mi_158 := ⟨(List.mem_filter.mp w_1431).1, w_9, by decide +kernel, ⟨by decide +kernel, by decide +kernel⟩, Nat.le_of_ble_eq_true rfl⟩
set_option maxRecDepth 4096 in
theorem w_1429 : (Jvm.Cond.instanceMethod ({ cls := "DominofsModel", name := "stock", desc := "(I)I" } : Jvm.MethodName)) ∈ lw_gd := gdc_6 229 rfl rfl
set_option maxRecDepth 4096 in
theorem w_1430 : (Jvm.Cond.selects "DominofsModel" ({ cls := "DominofsModel", name := "stock", desc := "(I)I" } : Jvm.MethodName) ({ cls := "DominofsModel", name := "stock", desc := "(I)I" } : Jvm.MethodName)) ∈ lw_gd := gdc_6 230 rfl rfl
theorem mk_1_158 : MK 1 158 1 mi_158 := ⟨mt_158, ms_158, by decide +kernel, ⟨w_1429, w_1430, rfl⟩⟩
set_option maxRecDepth 4096 in
theorem w_941 : (Jvm.Cond.methodLink "DominofsLaw" (151 : Nat) ({ cls := "DominofsLaw", name := "end", desc := "(LDominofs;IZ[J)I" } : Jvm.MethodName)) ∈ lw_gd := gdc_4 221 rfl rfl
set_option maxRecDepth 4096 in
theorem w_943 : (Jvm.Cond.codeWith ({ cls := "DominofsLaw", name := "end", desc := "(LDominofs;IZ[J)I" } : Jvm.MethodName) method_11_code (5 : Nat) (Option.some Jvm.ClassFile.FieldType.int) [((0 : Nat), (10 : Nat), (13 : Nat), (21 : Nat)), ((0 : Nat), (10 : Nat), (17 : Nat), (51 : Nat))]) ∈ lw_gd := gdc_4 223 rfl rfl
theorem ms_219 : MS mi_219 := ⟨(List.mem_filter.mp w_943).1, w_0, by decide +kernel, ⟨by decide +kernel, by decide +kernel⟩, Nat.le_of_ble_eq_true rfl⟩
set_option maxRecDepth 4096 in
theorem w_942 : (Jvm.Cond.static ({ cls := "DominofsLaw", name := "end", desc := "(LDominofs;IZ[J)I" } : Jvm.MethodName)) ∈ lw_gd := gdc_4 222 rfl rfl
theorem mk_0_219 : MK 0 219 4 mi_219 := ⟨mt_219, ms_219, by decide +kernel, w_942⟩
set_option maxRecDepth 4096 in
theorem w_1432 : (Jvm.Cond.methodLink "DominofsLaw" (154 : Nat) ({ cls := "DominofsModel", name := "end", desc := "(IZ)I" } : Jvm.MethodName)) ∈ lw_gd := gdc_6 232 rfl rfl
set_option maxRecDepth 4096 in
theorem w_1435 : (Jvm.Cond.code ({ cls := "DominofsModel", name := "end", desc := "(IZ)I" } : Jvm.MethodName) prog_14_method_36_code (3 : Nat) (Option.some Jvm.ClassFile.FieldType.int)) ∈ lw_gd := gdc_6 235 rfl rfl
theorem ms_159 : MS mi_159 := ⟨(List.mem_filter.mp w_1435).1, w_9, by decide +kernel, ⟨by decide +kernel, by decide +kernel⟩, Nat.le_of_ble_eq_true rfl⟩
set_option maxRecDepth 4096 in
theorem w_1433 : (Jvm.Cond.instanceMethod ({ cls := "DominofsModel", name := "end", desc := "(IZ)I" } : Jvm.MethodName)) ∈ lw_gd := gdc_6 233 rfl rfl
set_option maxRecDepth 4096 in
theorem w_1434 : (Jvm.Cond.selects "DominofsModel" ({ cls := "DominofsModel", name := "end", desc := "(IZ)I" } : Jvm.MethodName) ({ cls := "DominofsModel", name := "end", desc := "(IZ)I" } : Jvm.MethodName)) ∈ lw_gd := gdc_6 234 rfl rfl
theorem mk_1_159 : MK 1 159 2 mi_159 := ⟨mt_159, ms_159, by decide +kernel, ⟨w_1433, w_1434, rfl⟩⟩
set_option maxRecDepth 4096 in
theorem w_965 : (Jvm.Cond.methodLink "DominofsLaw" (155 : Nat) ({ cls := "DominofsLaw", name := "line", desc := "(LDominofs;I[J)I" } : Jvm.MethodName)) ∈ lw_gd := gdc_5 5 rfl rfl
set_option maxRecDepth 4096 in
theorem w_967 : (Jvm.Cond.codeWith ({ cls := "DominofsLaw", name := "line", desc := "(LDominofs;I[J)I" } : Jvm.MethodName) method_12_code (4 : Nat) (Option.some Jvm.ClassFile.FieldType.int) [((0 : Nat), (9 : Nat), (12 : Nat), (21 : Nat))]) ∈ lw_gd := gdc_5 7 rfl rfl
theorem ms_220 : MS mi_220 := ⟨(List.mem_filter.mp w_967).1, w_0, by decide +kernel, ⟨by decide +kernel, by decide +kernel⟩, Nat.le_of_ble_eq_true rfl⟩
set_option maxRecDepth 4096 in
theorem w_966 : (Jvm.Cond.static ({ cls := "DominofsLaw", name := "line", desc := "(LDominofs;I[J)I" } : Jvm.MethodName)) ∈ lw_gd := gdc_5 6 rfl rfl
theorem mk_0_220 : MK 0 220 3 mi_220 := ⟨mt_220, ms_220, by decide +kernel, w_966⟩
set_option maxRecDepth 4096 in
theorem w_1436 : (Jvm.Cond.methodLink "DominofsLaw" (157 : Nat) ({ cls := "DominofsModel", name := "line", desc := "(I)I" } : Jvm.MethodName)) ∈ lw_gd := gdc_6 236 rfl rfl
set_option maxRecDepth 4096 in
theorem w_1439 : (Jvm.Cond.code ({ cls := "DominofsModel", name := "line", desc := "(I)I" } : Jvm.MethodName) prog_14_method_37_code (2 : Nat) (Option.some Jvm.ClassFile.FieldType.int)) ∈ lw_gd := gdc_6 239 rfl rfl
theorem ms_160 : MS mi_160 := ⟨(List.mem_filter.mp w_1439).1, w_9, by decide +kernel, ⟨by decide +kernel, by decide +kernel⟩, Nat.le_of_ble_eq_true rfl⟩
set_option maxRecDepth 4096 in
theorem w_1437 : (Jvm.Cond.instanceMethod ({ cls := "DominofsModel", name := "line", desc := "(I)I" } : Jvm.MethodName)) ∈ lw_gd := gdc_6 237 rfl rfl
set_option maxRecDepth 4096 in
theorem w_1438 : (Jvm.Cond.selects "DominofsModel" ({ cls := "DominofsModel", name := "line", desc := "(I)I" } : Jvm.MethodName) ({ cls := "DominofsModel", name := "line", desc := "(I)I" } : Jvm.MethodName)) ∈ lw_gd := gdc_6 238 rfl rfl
theorem mk_1_160 : MK 1 160 1 mi_160 := ⟨mt_160, ms_160, by decide +kernel, ⟨w_1437, w_1438, rfl⟩⟩
set_option maxRecDepth 4096 in
theorem w_972 : (Jvm.Cond.methodLink "DominofsLaw" (158 : Nat) ({ cls := "DominofsLaw", name := "sign", desc := "(LDominofs;IIZ[J)I" } : Jvm.MethodName)) ∈ lw_gd := gdc_5 12 rfl rfl
set_option maxRecDepth 4096 in
theorem w_974 : (Jvm.Cond.codeWith ({ cls := "DominofsLaw", name := "sign", desc := "(LDominofs;IIZ[J)I" } : Jvm.MethodName) method_13_code (6 : Nat) (Option.some Jvm.ClassFile.FieldType.int) [((0 : Nat), (12 : Nat), (15 : Nat), (21 : Nat)), ((0 : Nat), (12 : Nat), (19 : Nat), (51 : Nat))]) ∈ lw_gd := gdc_5 14 rfl rfl
theorem ms_221 : MS mi_221 := ⟨(List.mem_filter.mp w_974).1, w_0, by decide +kernel, ⟨by decide +kernel, by decide +kernel⟩, Nat.le_of_ble_eq_true rfl⟩
set_option maxRecDepth 4096 in
theorem w_973 : (Jvm.Cond.static ({ cls := "DominofsLaw", name := "sign", desc := "(LDominofs;IIZ[J)I" } : Jvm.MethodName)) ∈ lw_gd := gdc_5 13 rfl rfl
theorem mk_0_221 : MK 0 221 5 mi_221 := ⟨mt_221, ms_221, by decide +kernel, w_973⟩
set_option maxRecDepth 4096 in
theorem w_1440 : (Jvm.Cond.methodLink "DominofsLaw" (160 : Nat) ({ cls := "DominofsModel", name := "sign", desc := "(IIZ)C" } : Jvm.MethodName)) ∈ lw_gd := gdc_7 0 rfl rfl
set_option maxRecDepth 4096 in
theorem w_1443 : (Jvm.Cond.code ({ cls := "DominofsModel", name := "sign", desc := "(IIZ)C" } : Jvm.MethodName) prog_14_method_38_code (9 : Nat) (Option.some Jvm.ClassFile.FieldType.char)) ∈ lw_gd := gdc_7 3 rfl rfl
theorem ms_161 : MS mi_161 := ⟨(List.mem_filter.mp w_1443).1, w_9, by decide +kernel, ⟨by decide +kernel, by decide +kernel⟩, Nat.le_of_ble_eq_true rfl⟩
set_option maxRecDepth 4096 in
theorem w_1441 : (Jvm.Cond.instanceMethod ({ cls := "DominofsModel", name := "sign", desc := "(IIZ)C" } : Jvm.MethodName)) ∈ lw_gd := gdc_7 1 rfl rfl
set_option maxRecDepth 4096 in
theorem w_1442 : (Jvm.Cond.selects "DominofsModel" ({ cls := "DominofsModel", name := "sign", desc := "(IIZ)C" } : Jvm.MethodName) ({ cls := "DominofsModel", name := "sign", desc := "(IIZ)C" } : Jvm.MethodName)) ∈ lw_gd := gdc_7 2 rfl rfl
theorem mk_1_161 : MK 1 161 3 mi_161 := ⟨mt_161, ms_161, by decide +kernel, ⟨w_1441, w_1442, rfl⟩⟩
set_option maxRecDepth 4096 in
theorem w_988 : (Jvm.Cond.methodLink "DominofsLaw" (161 : Nat) ({ cls := "DominofsLaw", name := "isOver", desc := "(LDominofs;I[J)I" } : Jvm.MethodName)) ∈ lw_gd := gdc_5 28 rfl rfl
set_option maxRecDepth 4096 in
theorem w_990 : (Jvm.Cond.codeWith ({ cls := "DominofsLaw", name := "isOver", desc := "(LDominofs;I[J)I" } : Jvm.MethodName) method_14_code (4 : Nat) (Option.some Jvm.ClassFile.FieldType.int) [((0 : Nat), (16 : Nat), (19 : Nat), (21 : Nat))]) ∈ lw_gd := gdc_5 30 rfl rfl
theorem ms_222 : MS mi_222 := ⟨(List.mem_filter.mp w_990).1, w_0, by decide +kernel, ⟨by decide +kernel, by decide +kernel⟩, Nat.le_of_ble_eq_true rfl⟩
set_option maxRecDepth 4096 in
theorem w_989 : (Jvm.Cond.static ({ cls := "DominofsLaw", name := "isOver", desc := "(LDominofs;I[J)I" } : Jvm.MethodName)) ∈ lw_gd := gdc_5 29 rfl rfl
theorem mk_0_222 : MK 0 222 3 mi_222 := ⟨mt_222, ms_222, by decide +kernel, w_989⟩
set_option maxRecDepth 4096 in
theorem w_1444 : (Jvm.Cond.methodLink "DominofsLaw" (163 : Nat) ({ cls := "DominofsModel", name := "isOver", desc := "(I)Z" } : Jvm.MethodName)) ∈ lw_gd := gdc_7 4 rfl rfl
set_option maxRecDepth 4096 in
theorem w_1447 : (Jvm.Cond.code ({ cls := "DominofsModel", name := "isOver", desc := "(I)Z" } : Jvm.MethodName) prog_14_method_39_code (2 : Nat) (Option.some Jvm.ClassFile.FieldType.boolean)) ∈ lw_gd := gdc_7 7 rfl rfl
theorem ms_162 : MS mi_162 := ⟨(List.mem_filter.mp w_1447).1, w_9, by decide +kernel, ⟨by decide +kernel, by decide +kernel⟩, Nat.le_of_ble_eq_true rfl⟩
set_option maxRecDepth 4096 in
theorem w_1445 : (Jvm.Cond.instanceMethod ({ cls := "DominofsModel", name := "isOver", desc := "(I)Z" } : Jvm.MethodName)) ∈ lw_gd := gdc_7 5 rfl rfl
set_option maxRecDepth 4096 in
theorem w_1446 : (Jvm.Cond.selects "DominofsModel" ({ cls := "DominofsModel", name := "isOver", desc := "(I)Z" } : Jvm.MethodName) ({ cls := "DominofsModel", name := "isOver", desc := "(I)Z" } : Jvm.MethodName)) ∈ lw_gd := gdc_7 6 rfl rfl
theorem mk_1_162 : MK 1 162 1 mi_162 := ⟨mt_162, ms_162, by decide +kernel, ⟨w_1445, w_1446, rfl⟩⟩
set_option maxRecDepth 4096 in
theorem w_995 : (Jvm.Cond.methodLink "DominofsLaw" (164 : Nat) ({ cls := "DominofsLaw", name := "isBlocked", desc := "(LDominofs;I[J)I" } : Jvm.MethodName)) ∈ lw_gd := gdc_5 35 rfl rfl
set_option maxRecDepth 4096 in
theorem w_997 : (Jvm.Cond.codeWith ({ cls := "DominofsLaw", name := "isBlocked", desc := "(LDominofs;I[J)I" } : Jvm.MethodName) method_15_code (4 : Nat) (Option.some Jvm.ClassFile.FieldType.int) [((0 : Nat), (16 : Nat), (19 : Nat), (21 : Nat))]) ∈ lw_gd := gdc_5 37 rfl rfl
theorem ms_223 : MS mi_223 := ⟨(List.mem_filter.mp w_997).1, w_0, by decide +kernel, ⟨by decide +kernel, by decide +kernel⟩, Nat.le_of_ble_eq_true rfl⟩
set_option maxRecDepth 4096 in
theorem w_996 : (Jvm.Cond.static ({ cls := "DominofsLaw", name := "isBlocked", desc := "(LDominofs;I[J)I" } : Jvm.MethodName)) ∈ lw_gd := gdc_5 36 rfl rfl
theorem mk_0_223 : MK 0 223 3 mi_223 := ⟨mt_223, ms_223, by decide +kernel, w_996⟩
set_option maxRecDepth 4096 in
theorem w_1448 : (Jvm.Cond.methodLink "DominofsLaw" (166 : Nat) ({ cls := "DominofsModel", name := "isBlocked", desc := "(I)Z" } : Jvm.MethodName)) ∈ lw_gd := gdc_7 8 rfl rfl
set_option maxRecDepth 4096 in
theorem w_1451 : (Jvm.Cond.code ({ cls := "DominofsModel", name := "isBlocked", desc := "(I)Z" } : Jvm.MethodName) prog_14_method_40_code (2 : Nat) (Option.some Jvm.ClassFile.FieldType.boolean)) ∈ lw_gd := gdc_7 11 rfl rfl
theorem ms_163 : MS mi_163 := ⟨(List.mem_filter.mp w_1451).1, w_9, by decide +kernel, ⟨by decide +kernel, by decide +kernel⟩, Nat.le_of_ble_eq_true rfl⟩
set_option maxRecDepth 4096 in
theorem w_1449 : (Jvm.Cond.instanceMethod ({ cls := "DominofsModel", name := "isBlocked", desc := "(I)Z" } : Jvm.MethodName)) ∈ lw_gd := gdc_7 9 rfl rfl
set_option maxRecDepth 4096 in
theorem w_1450 : (Jvm.Cond.selects "DominofsModel" ({ cls := "DominofsModel", name := "isBlocked", desc := "(I)Z" } : Jvm.MethodName) ({ cls := "DominofsModel", name := "isBlocked", desc := "(I)Z" } : Jvm.MethodName)) ∈ lw_gd := gdc_7 10 rfl rfl
theorem mk_1_163 : MK 1 163 1 mi_163 := ⟨mt_163, ms_163, by decide +kernel, ⟨w_1449, w_1450, rfl⟩⟩
set_option maxRecDepth 4096 in
theorem w_1002 : (Jvm.Cond.methodLink "DominofsLaw" (167 : Nat) ({ cls := "DominofsLaw", name := "winner", desc := "(LDominofs;I[J)I" } : Jvm.MethodName)) ∈ lw_gd := gdc_5 42 rfl rfl
set_option maxRecDepth 4096 in
theorem w_1004 : (Jvm.Cond.codeWith ({ cls := "DominofsLaw", name := "winner", desc := "(LDominofs;I[J)I" } : Jvm.MethodName) method_16_code (4 : Nat) (Option.some Jvm.ClassFile.FieldType.int) [((0 : Nat), (9 : Nat), (12 : Nat), (21 : Nat)), ((0 : Nat), (9 : Nat), (15 : Nat), (51 : Nat))]) ∈ lw_gd := gdc_5 44 rfl rfl
theorem ms_224 : MS mi_224 := ⟨(List.mem_filter.mp w_1004).1, w_0, by decide +kernel, ⟨by decide +kernel, by decide +kernel⟩, Nat.le_of_ble_eq_true rfl⟩
set_option maxRecDepth 4096 in
theorem w_1003 : (Jvm.Cond.static ({ cls := "DominofsLaw", name := "winner", desc := "(LDominofs;I[J)I" } : Jvm.MethodName)) ∈ lw_gd := gdc_5 43 rfl rfl
theorem mk_0_224 : MK 0 224 3 mi_224 := ⟨mt_224, ms_224, by decide +kernel, w_1003⟩
set_option maxRecDepth 4096 in
theorem w_1452 : (Jvm.Cond.methodLink "DominofsLaw" (169 : Nat) ({ cls := "DominofsModel", name := "winner", desc := "(I)I" } : Jvm.MethodName)) ∈ lw_gd := gdc_7 12 rfl rfl
set_option maxRecDepth 4096 in
theorem w_1455 : (Jvm.Cond.code ({ cls := "DominofsModel", name := "winner", desc := "(I)I" } : Jvm.MethodName) prog_14_method_41_code (2 : Nat) (Option.some Jvm.ClassFile.FieldType.int)) ∈ lw_gd := gdc_7 15 rfl rfl
theorem ms_164 : MS mi_164 := ⟨(List.mem_filter.mp w_1455).1, w_9, by decide +kernel, ⟨by decide +kernel, by decide +kernel⟩, Nat.le_of_ble_eq_true rfl⟩
set_option maxRecDepth 4096 in
theorem w_1453 : (Jvm.Cond.instanceMethod ({ cls := "DominofsModel", name := "winner", desc := "(I)I" } : Jvm.MethodName)) ∈ lw_gd := gdc_7 13 rfl rfl
set_option maxRecDepth 4096 in
theorem w_1454 : (Jvm.Cond.selects "DominofsModel" ({ cls := "DominofsModel", name := "winner", desc := "(I)I" } : Jvm.MethodName) ({ cls := "DominofsModel", name := "winner", desc := "(I)I" } : Jvm.MethodName)) ∈ lw_gd := gdc_7 14 rfl rfl
theorem mk_1_164 : MK 1 164 1 mi_164 := ⟨mt_164, ms_164, by decide +kernel, ⟨w_1453, w_1454, rfl⟩⟩
set_option maxRecDepth 4096 in
theorem w_1010 : (Jvm.Cond.methodLink "DominofsLaw" (170 : Nat) ({ cls := "DominofsLaw", name := "why", desc := "(LDominofs;I[J)I" } : Jvm.MethodName)) ∈ lw_gd := gdc_5 50 rfl rfl
set_option maxRecDepth 4096 in
theorem w_1012 : (Jvm.Cond.codeWith ({ cls := "DominofsLaw", name := "why", desc := "(LDominofs;I[J)I" } : Jvm.MethodName) method_17_code (4 : Nat) (Option.some Jvm.ClassFile.FieldType.int) [((0 : Nat), (9 : Nat), (12 : Nat), (51 : Nat))]) ∈ lw_gd := gdc_5 52 rfl rfl
theorem ms_225 : MS mi_225 := ⟨(List.mem_filter.mp w_1012).1, w_0, by decide +kernel, ⟨by decide +kernel, by decide +kernel⟩, Nat.le_of_ble_eq_true rfl⟩
set_option maxRecDepth 4096 in
theorem w_1011 : (Jvm.Cond.static ({ cls := "DominofsLaw", name := "why", desc := "(LDominofs;I[J)I" } : Jvm.MethodName)) ∈ lw_gd := gdc_5 51 rfl rfl
theorem mk_0_225 : MK 0 225 3 mi_225 := ⟨mt_225, ms_225, by decide +kernel, w_1011⟩
set_option maxRecDepth 4096 in
theorem w_1456 : (Jvm.Cond.methodLink "DominofsLaw" (172 : Nat) ({ cls := "DominofsModel", name := "why", desc := "(I)C" } : Jvm.MethodName)) ∈ lw_gd := gdc_7 16 rfl rfl
set_option maxRecDepth 4096 in
theorem w_1459 : (Jvm.Cond.code ({ cls := "DominofsModel", name := "why", desc := "(I)C" } : Jvm.MethodName) prog_14_method_42_code (3 : Nat) (Option.some Jvm.ClassFile.FieldType.char)) ∈ lw_gd := gdc_7 19 rfl rfl
theorem ms_165 : MS mi_165 := ⟨(List.mem_filter.mp w_1459).1, w_9, by decide +kernel, ⟨by decide +kernel, by decide +kernel⟩, Nat.le_of_ble_eq_true rfl⟩
set_option maxRecDepth 4096 in
theorem w_1457 : (Jvm.Cond.instanceMethod ({ cls := "DominofsModel", name := "why", desc := "(I)C" } : Jvm.MethodName)) ∈ lw_gd := gdc_7 17 rfl rfl
set_option maxRecDepth 4096 in
theorem w_1458 : (Jvm.Cond.selects "DominofsModel" ({ cls := "DominofsModel", name := "why", desc := "(I)C" } : Jvm.MethodName) ({ cls := "DominofsModel", name := "why", desc := "(I)C" } : Jvm.MethodName)) ∈ lw_gd := gdc_7 18 rfl rfl
theorem mk_1_165 : MK 1 165 1 mi_165 := ⟨mt_165, ms_165, by decide +kernel, ⟨w_1457, w_1458, rfl⟩⟩
set_option maxRecDepth 4096 in
theorem w_1018 : (Jvm.Cond.methodLink "DominofsLaw" (173 : Nat) ({ cls := "DominofsLaw", name := "bet", desc := "(LDominofs;IIII[J)I" } : Jvm.MethodName)) ∈ lw_gd := gdc_5 58 rfl rfl
set_option maxRecDepth 4096 in
theorem w_1020 : (Jvm.Cond.codeWith ({ cls := "DominofsLaw", name := "bet", desc := "(LDominofs;IIII[J)I" } : Jvm.MethodName) method_18_code (7 : Nat) (Option.some Jvm.ClassFile.FieldType.int) [((0 : Nat), (14 : Nat), (17 : Nat), (21 : Nat)), ((0 : Nat), (14 : Nat), (21 : Nat), (13 : Nat)), ((0 : Nat), (14 : Nat), (25 : Nat), (15 : Nat))]) ∈ lw_gd := gdc_5 60 rfl rfl
theorem ms_226 : MS mi_226 := ⟨(List.mem_filter.mp w_1020).1, w_0, by decide +kernel, ⟨by decide +kernel, by decide +kernel⟩, Nat.le_of_ble_eq_true rfl⟩
set_option maxRecDepth 4096 in
theorem w_1019 : (Jvm.Cond.static ({ cls := "DominofsLaw", name := "bet", desc := "(LDominofs;IIII[J)I" } : Jvm.MethodName)) ∈ lw_gd := gdc_5 59 rfl rfl
theorem mk_0_226 : MK 0 226 6 mi_226 := ⟨mt_226, ms_226, by decide +kernel, w_1019⟩
set_option maxRecDepth 4096 in
theorem w_1460 : (Jvm.Cond.methodLink "DominofsLaw" (176 : Nat) ({ cls := "DominofsModel", name := "bet", desc := "(IIII)I" } : Jvm.MethodName)) ∈ lw_gd := gdc_7 20 rfl rfl
set_option maxRecDepth 4096 in
theorem w_1463 : (Jvm.Cond.code ({ cls := "DominofsModel", name := "bet", desc := "(IIII)I" } : Jvm.MethodName) prog_14_method_44_code (5 : Nat) (Option.some Jvm.ClassFile.FieldType.int)) ∈ lw_gd := gdc_7 23 rfl rfl
theorem ms_167 : MS mi_167 := ⟨(List.mem_filter.mp w_1463).1, w_9, by decide +kernel, ⟨by decide +kernel, by decide +kernel⟩, Nat.le_of_ble_eq_true rfl⟩
set_option maxRecDepth 4096 in
theorem w_1461 : (Jvm.Cond.instanceMethod ({ cls := "DominofsModel", name := "bet", desc := "(IIII)I" } : Jvm.MethodName)) ∈ lw_gd := gdc_7 21 rfl rfl
set_option maxRecDepth 4096 in
theorem w_1462 : (Jvm.Cond.selects "DominofsModel" ({ cls := "DominofsModel", name := "bet", desc := "(IIII)I" } : Jvm.MethodName) ({ cls := "DominofsModel", name := "bet", desc := "(IIII)I" } : Jvm.MethodName)) ∈ lw_gd := gdc_7 22 rfl rfl
theorem mk_1_167 : MK 1 167 4 mi_167 := ⟨mt_167, ms_167, by decide +kernel, ⟨w_1461, w_1462, rfl⟩⟩
set_option maxRecDepth 4096 in
theorem w_1050 : (Jvm.Cond.methodLink "DominofsLaw" (177 : Nat) ({ cls := "DominofsLaw", name := "purse", desc := "(LDominofs;I[J)I" } : Jvm.MethodName)) ∈ lw_gd := gdc_5 90 rfl rfl
set_option maxRecDepth 4096 in
theorem w_1052 : (Jvm.Cond.codeWith ({ cls := "DominofsLaw", name := "purse", desc := "(LDominofs;I[J)I" } : Jvm.MethodName) method_19_code (4 : Nat) (Option.some Jvm.ClassFile.FieldType.int) [((0 : Nat), (9 : Nat), (12 : Nat), (21 : Nat))]) ∈ lw_gd := gdc_5 92 rfl rfl
theorem ms_227 : MS mi_227 := ⟨(List.mem_filter.mp w_1052).1, w_0, by decide +kernel, ⟨by decide +kernel, by decide +kernel⟩, Nat.le_of_ble_eq_true rfl⟩
set_option maxRecDepth 4096 in
theorem w_1051 : (Jvm.Cond.static ({ cls := "DominofsLaw", name := "purse", desc := "(LDominofs;I[J)I" } : Jvm.MethodName)) ∈ lw_gd := gdc_5 91 rfl rfl
theorem mk_0_227 : MK 0 227 3 mi_227 := ⟨mt_227, ms_227, by decide +kernel, w_1051⟩
set_option maxRecDepth 4096 in
theorem w_1467 : (Jvm.Cond.methodLink "DominofsLaw" (179 : Nat) ({ cls := "DominofsModel", name := "purse", desc := "(I)I" } : Jvm.MethodName)) ∈ lw_gd := gdc_7 27 rfl rfl
set_option maxRecDepth 4096 in
theorem w_1470 : (Jvm.Cond.code ({ cls := "DominofsModel", name := "purse", desc := "(I)I" } : Jvm.MethodName) prog_14_method_45_code (2 : Nat) (Option.some Jvm.ClassFile.FieldType.int)) ∈ lw_gd := gdc_7 30 rfl rfl
theorem ms_168 : MS mi_168 := ⟨(List.mem_filter.mp w_1470).1, w_9, by decide +kernel, ⟨by decide +kernel, by decide +kernel⟩, Nat.le_of_ble_eq_true rfl⟩
set_option maxRecDepth 4096 in
theorem w_1468 : (Jvm.Cond.instanceMethod ({ cls := "DominofsModel", name := "purse", desc := "(I)I" } : Jvm.MethodName)) ∈ lw_gd := gdc_7 28 rfl rfl
set_option maxRecDepth 4096 in
theorem w_1469 : (Jvm.Cond.selects "DominofsModel" ({ cls := "DominofsModel", name := "purse", desc := "(I)I" } : Jvm.MethodName) ({ cls := "DominofsModel", name := "purse", desc := "(I)I" } : Jvm.MethodName)) ∈ lw_gd := gdc_7 29 rfl rfl
theorem mk_1_168 : MK 1 168 1 mi_168 := ⟨mt_168, ms_168, by decide +kernel, ⟨w_1468, w_1469, rfl⟩⟩
set_option maxRecDepth 4096 in
theorem w_1057 : (Jvm.Cond.methodLink "DominofsLaw" (180 : Nat) ({ cls := "DominofsLaw", name := "pool", desc := "(LDominofs;I[J)I" } : Jvm.MethodName)) ∈ lw_gd := gdc_5 97 rfl rfl
set_option maxRecDepth 4096 in
theorem w_1059 : (Jvm.Cond.codeWith ({ cls := "DominofsLaw", name := "pool", desc := "(LDominofs;I[J)I" } : Jvm.MethodName) method_20_code (4 : Nat) (Option.some Jvm.ClassFile.FieldType.int) [((0 : Nat), (9 : Nat), (12 : Nat), (21 : Nat))]) ∈ lw_gd := gdc_5 99 rfl rfl
theorem ms_228 : MS mi_228 := ⟨(List.mem_filter.mp w_1059).1, w_0, by decide +kernel, ⟨by decide +kernel, by decide +kernel⟩, Nat.le_of_ble_eq_true rfl⟩
set_option maxRecDepth 4096 in
theorem w_1058 : (Jvm.Cond.static ({ cls := "DominofsLaw", name := "pool", desc := "(LDominofs;I[J)I" } : Jvm.MethodName)) ∈ lw_gd := gdc_5 98 rfl rfl
theorem mk_0_228 : MK 0 228 3 mi_228 := ⟨mt_228, ms_228, by decide +kernel, w_1058⟩
set_option maxRecDepth 4096 in
theorem w_1471 : (Jvm.Cond.methodLink "DominofsLaw" (182 : Nat) ({ cls := "DominofsModel", name := "pool", desc := "(I)I" } : Jvm.MethodName)) ∈ lw_gd := gdc_7 31 rfl rfl
set_option maxRecDepth 4096 in
theorem w_1474 : (Jvm.Cond.code ({ cls := "DominofsModel", name := "pool", desc := "(I)I" } : Jvm.MethodName) prog_14_method_46_code (2 : Nat) (Option.some Jvm.ClassFile.FieldType.int)) ∈ lw_gd := gdc_7 34 rfl rfl
theorem ms_169 : MS mi_169 := ⟨(List.mem_filter.mp w_1474).1, w_9, by decide +kernel, ⟨by decide +kernel, by decide +kernel⟩, Nat.le_of_ble_eq_true rfl⟩
set_option maxRecDepth 4096 in
theorem w_1472 : (Jvm.Cond.instanceMethod ({ cls := "DominofsModel", name := "pool", desc := "(I)I" } : Jvm.MethodName)) ∈ lw_gd := gdc_7 32 rfl rfl
set_option maxRecDepth 4096 in
theorem w_1473 : (Jvm.Cond.selects "DominofsModel" ({ cls := "DominofsModel", name := "pool", desc := "(I)I" } : Jvm.MethodName) ({ cls := "DominofsModel", name := "pool", desc := "(I)I" } : Jvm.MethodName)) ∈ lw_gd := gdc_7 33 rfl rfl
theorem mk_1_169 : MK 1 169 1 mi_169 := ⟨mt_169, ms_169, by decide +kernel, ⟨w_1472, w_1473, rfl⟩⟩
set_option maxRecDepth 4096 in
theorem w_1064 : (Jvm.Cond.methodLink "DominofsLaw" (183 : Nat) ({ cls := "DominofsLaw", name := "paid", desc := "(LDominofs;II[J)I" } : Jvm.MethodName)) ∈ lw_gd := gdc_5 104 rfl rfl
set_option maxRecDepth 4096 in
theorem w_1066 : (Jvm.Cond.codeWith ({ cls := "DominofsLaw", name := "paid", desc := "(LDominofs;II[J)I" } : Jvm.MethodName) method_21_code (5 : Nat) (Option.some Jvm.ClassFile.FieldType.int) [((0 : Nat), (10 : Nat), (13 : Nat), (21 : Nat))]) ∈ lw_gd := gdc_5 106 rfl rfl
theorem ms_229 : MS mi_229 := ⟨(List.mem_filter.mp w_1066).1, w_0, by decide +kernel, ⟨by decide +kernel, by decide +kernel⟩, Nat.le_of_ble_eq_true rfl⟩
set_option maxRecDepth 4096 in
theorem w_1065 : (Jvm.Cond.static ({ cls := "DominofsLaw", name := "paid", desc := "(LDominofs;II[J)I" } : Jvm.MethodName)) ∈ lw_gd := gdc_5 105 rfl rfl
theorem mk_0_229 : MK 0 229 4 mi_229 := ⟨mt_229, ms_229, by decide +kernel, w_1065⟩
set_option maxRecDepth 4096 in
theorem w_1475 : (Jvm.Cond.methodLink "DominofsLaw" (185 : Nat) ({ cls := "DominofsModel", name := "paid", desc := "(II)I" } : Jvm.MethodName)) ∈ lw_gd := gdc_7 35 rfl rfl
set_option maxRecDepth 4096 in
theorem w_1478 : (Jvm.Cond.code ({ cls := "DominofsModel", name := "paid", desc := "(II)I" } : Jvm.MethodName) prog_14_method_47_code (3 : Nat) (Option.some Jvm.ClassFile.FieldType.int)) ∈ lw_gd := gdc_7 38 rfl rfl
theorem ms_170 : MS mi_170 := ⟨(List.mem_filter.mp w_1478).1, w_9, by decide +kernel, ⟨by decide +kernel, by decide +kernel⟩, Nat.le_of_ble_eq_true rfl⟩
set_option maxRecDepth 4096 in
theorem w_1476 : (Jvm.Cond.instanceMethod ({ cls := "DominofsModel", name := "paid", desc := "(II)I" } : Jvm.MethodName)) ∈ lw_gd := gdc_7 36 rfl rfl
set_option maxRecDepth 4096 in
theorem w_1477 : (Jvm.Cond.selects "DominofsModel" ({ cls := "DominofsModel", name := "paid", desc := "(II)I" } : Jvm.MethodName) ({ cls := "DominofsModel", name := "paid", desc := "(II)I" } : Jvm.MethodName)) ∈ lw_gd := gdc_7 37 rfl rfl
theorem mk_1_170 : MK 1 170 2 mi_170 := ⟨mt_170, ms_170, by decide +kernel, ⟨w_1476, w_1477, rfl⟩⟩
set_option maxRecDepth 4096 in
theorem w_256 : (Jvm.Cond.methodLink "DominofsLaw" (186 : Nat) ({ cls := "Dominofs", name := "club", desc := "()I" } : Jvm.MethodName)) ∈ lw_gd := gdc_2 16 rfl rfl
set_option maxRecDepth 4096 in
theorem w_259 : (Jvm.Cond.code ({ cls := "Dominofs", name := "club", desc := "()I" } : Jvm.MethodName) prog_1_method_21_code (1 : Nat) (Option.some Jvm.ClassFile.FieldType.int)) ∈ lw_gd := gdc_2 19 rfl rfl
theorem ms_99 : MS mi_99 := ⟨(List.mem_filter.mp w_259).1, w_1, by decide +kernel, ⟨by decide +kernel, by decide +kernel⟩, Nat.le_of_ble_eq_true rfl⟩
set_option maxRecDepth 4096 in
theorem w_257 : (Jvm.Cond.instanceMethod ({ cls := "Dominofs", name := "club", desc := "()I" } : Jvm.MethodName)) ∈ lw_gd := gdc_2 17 rfl rfl
set_option maxRecDepth 4096 in
theorem w_258 : (Jvm.Cond.selects "Dominofs" ({ cls := "Dominofs", name := "club", desc := "()I" } : Jvm.MethodName) ({ cls := "Dominofs", name := "club", desc := "()I" } : Jvm.MethodName)) ∈ lw_gd := gdc_2 18 rfl rfl
theorem mk_1_99 : MK 1 99 0 mi_99 := ⟨mt_99, ms_99, by decide +kernel, ⟨w_257, w_258, rfl⟩⟩
set_option maxRecDepth 4096 in
theorem w_1479 : (Jvm.Cond.methodLink "DominofsLaw" (189 : Nat) ({ cls := "DominofsModel", name := "club", desc := "()I" } : Jvm.MethodName)) ∈ lw_gd := gdc_7 39 rfl rfl
set_option maxRecDepth 4096 in
theorem w_1482 : (Jvm.Cond.code ({ cls := "DominofsModel", name := "club", desc := "()I" } : Jvm.MethodName) prog_14_method_48_code (1 : Nat) (Option.some Jvm.ClassFile.FieldType.int)) ∈ lw_gd := gdc_7 42 rfl rfl
theorem ms_171 : MS mi_171 := ⟨(List.mem_filter.mp w_1482).1, w_9, by decide +kernel, ⟨by decide +kernel, by decide +kernel⟩, Nat.le_of_ble_eq_true rfl⟩
set_option maxRecDepth 4096 in
theorem w_1480 : (Jvm.Cond.instanceMethod ({ cls := "DominofsModel", name := "club", desc := "()I" } : Jvm.MethodName)) ∈ lw_gd := gdc_7 40 rfl rfl
set_option maxRecDepth 4096 in
theorem w_1481 : (Jvm.Cond.selects "DominofsModel" ({ cls := "DominofsModel", name := "club", desc := "()I" } : Jvm.MethodName) ({ cls := "DominofsModel", name := "club", desc := "()I" } : Jvm.MethodName)) ∈ lw_gd := gdc_7 41 rfl rfl
theorem mk_1_171 : MK 1 171 0 mi_171 := ⟨mt_171, ms_171, by decide +kernel, ⟨w_1480, w_1481, rfl⟩⟩
set_option maxRecDepth 4096 in
theorem w_1073 : (Jvm.Cond.methodLink "DominofsLaw" (190 : Nat) ({ cls := "DominofsLaw", name := "appeal", desc := "(LDominofs;IC[J)I" } : Jvm.MethodName)) ∈ lw_gd := gdc_5 113 rfl rfl
set_option maxRecDepth 4096 in
theorem w_1075 : (Jvm.Cond.codeWith ({ cls := "DominofsLaw", name := "appeal", desc := "(LDominofs;IC[J)I" } : Jvm.MethodName) method_22_code (5 : Nat) (Option.some Jvm.ClassFile.FieldType.int) [((0 : Nat), (10 : Nat), (13 : Nat), (21 : Nat)), ((0 : Nat), (10 : Nat), (17 : Nat), (13 : Nat)), ((0 : Nat), (10 : Nat), (21 : Nat), (27 : Nat)), ((0 : Nat), (10 : Nat), (25 : Nat), (15 : Nat))]) ∈ lw_gd := gdc_5 115 rfl rfl
theorem ms_230 : MS mi_230 := ⟨(List.mem_filter.mp w_1075).1, w_0, by decide +kernel, ⟨by decide +kernel, by decide +kernel⟩, Nat.le_of_ble_eq_true rfl⟩
set_option maxRecDepth 4096 in
theorem w_1074 : (Jvm.Cond.static ({ cls := "DominofsLaw", name := "appeal", desc := "(LDominofs;IC[J)I" } : Jvm.MethodName)) ∈ lw_gd := gdc_5 114 rfl rfl
theorem mk_0_230 : MK 0 230 4 mi_230 := ⟨mt_230, ms_230, by decide +kernel, w_1074⟩
set_option maxRecDepth 4096 in
theorem w_1483 : (Jvm.Cond.methodLink "DominofsLaw" (193 : Nat) ({ cls := "DominofsModel", name := "appeal", desc := "(IC)I" } : Jvm.MethodName)) ∈ lw_gd := gdc_7 43 rfl rfl
set_option maxRecDepth 4096 in
theorem w_1486 : (Jvm.Cond.code ({ cls := "DominofsModel", name := "appeal", desc := "(IC)I" } : Jvm.MethodName) prog_14_method_50_code (3 : Nat) (Option.some Jvm.ClassFile.FieldType.int)) ∈ lw_gd := gdc_7 46 rfl rfl
theorem ms_173 : MS mi_173 := ⟨(List.mem_filter.mp w_1486).1, w_9, by decide +kernel, ⟨by decide +kernel, by decide +kernel⟩, Nat.le_of_ble_eq_true rfl⟩
set_option maxRecDepth 4096 in
theorem w_1484 : (Jvm.Cond.instanceMethod ({ cls := "DominofsModel", name := "appeal", desc := "(IC)I" } : Jvm.MethodName)) ∈ lw_gd := gdc_7 44 rfl rfl
set_option maxRecDepth 4096 in
theorem w_1485 : (Jvm.Cond.selects "DominofsModel" ({ cls := "DominofsModel", name := "appeal", desc := "(IC)I" } : Jvm.MethodName) ({ cls := "DominofsModel", name := "appeal", desc := "(IC)I" } : Jvm.MethodName)) ∈ lw_gd := gdc_7 45 rfl rfl
theorem mk_1_173 : MK 1 173 2 mi_173 := ⟨mt_173, ms_173, by decide +kernel, ⟨w_1484, w_1485, rfl⟩⟩
set_option maxRecDepth 4096 in
theorem w_1099 : (Jvm.Cond.methodLink "DominofsLaw" (194 : Nat) ({ cls := "DominofsLaw", name := "ruling", desc := "(LDominofs;I[J)I" } : Jvm.MethodName)) ∈ lw_gd := gdc_5 139 rfl rfl
set_option maxRecDepth 4096 in
theorem w_1101 : (Jvm.Cond.codeWith ({ cls := "DominofsLaw", name := "ruling", desc := "(LDominofs;I[J)I" } : Jvm.MethodName) method_23_code (4 : Nat) (Option.some Jvm.ClassFile.FieldType.int) [((0 : Nat), (9 : Nat), (12 : Nat), (21 : Nat))]) ∈ lw_gd := gdc_5 141 rfl rfl
theorem ms_231 : MS mi_231 := ⟨(List.mem_filter.mp w_1101).1, w_0, by decide +kernel, ⟨by decide +kernel, by decide +kernel⟩, Nat.le_of_ble_eq_true rfl⟩
set_option maxRecDepth 4096 in
theorem w_1100 : (Jvm.Cond.static ({ cls := "DominofsLaw", name := "ruling", desc := "(LDominofs;I[J)I" } : Jvm.MethodName)) ∈ lw_gd := gdc_5 140 rfl rfl
theorem mk_0_231 : MK 0 231 3 mi_231 := ⟨mt_231, ms_231, by decide +kernel, w_1100⟩
set_option maxRecDepth 4096 in
theorem w_1491 : (Jvm.Cond.methodLink "DominofsLaw" (196 : Nat) ({ cls := "DominofsModel", name := "ruling", desc := "(I)C" } : Jvm.MethodName)) ∈ lw_gd := gdc_7 51 rfl rfl
set_option maxRecDepth 4096 in
theorem w_1494 : (Jvm.Cond.code ({ cls := "DominofsModel", name := "ruling", desc := "(I)C" } : Jvm.MethodName) prog_14_method_51_code (2 : Nat) (Option.some Jvm.ClassFile.FieldType.char)) ∈ lw_gd := gdc_7 54 rfl rfl
theorem ms_174 : MS mi_174 := ⟨(List.mem_filter.mp w_1494).1, w_9, by decide +kernel, ⟨by decide +kernel, by decide +kernel⟩, Nat.le_of_ble_eq_true rfl⟩
set_option maxRecDepth 4096 in
theorem w_1492 : (Jvm.Cond.instanceMethod ({ cls := "DominofsModel", name := "ruling", desc := "(I)C" } : Jvm.MethodName)) ∈ lw_gd := gdc_7 52 rfl rfl
set_option maxRecDepth 4096 in
theorem w_1493 : (Jvm.Cond.selects "DominofsModel" ({ cls := "DominofsModel", name := "ruling", desc := "(I)C" } : Jvm.MethodName) ({ cls := "DominofsModel", name := "ruling", desc := "(I)C" } : Jvm.MethodName)) ∈ lw_gd := gdc_7 53 rfl rfl
theorem mk_1_174 : MK 1 174 1 mi_174 := ⟨mt_174, ms_174, by decide +kernel, ⟨w_1492, w_1493, rfl⟩⟩
set_option maxRecDepth 4096 in
theorem w_260 : (Jvm.Cond.methodLink "DominofsLaw" (197 : Nat) ({ cls := "Dominofs", name := "entries", desc := "()I" } : Jvm.MethodName)) ∈ lw_gd := gdc_2 20 rfl rfl
set_option maxRecDepth 4096 in
theorem w_263 : (Jvm.Cond.code ({ cls := "Dominofs", name := "entries", desc := "()I" } : Jvm.MethodName) prog_1_method_24_code (1 : Nat) (Option.some Jvm.ClassFile.FieldType.int)) ∈ lw_gd := gdc_2 23 rfl rfl
theorem ms_102 : MS mi_102 := ⟨(List.mem_filter.mp w_263).1, w_1, by decide +kernel, ⟨by decide +kernel, by decide +kernel⟩, Nat.le_of_ble_eq_true rfl⟩
set_option maxRecDepth 4096 in
theorem w_261 : (Jvm.Cond.instanceMethod ({ cls := "Dominofs", name := "entries", desc := "()I" } : Jvm.MethodName)) ∈ lw_gd := gdc_2 21 rfl rfl
set_option maxRecDepth 4096 in
theorem w_262 : (Jvm.Cond.selects "Dominofs" ({ cls := "Dominofs", name := "entries", desc := "()I" } : Jvm.MethodName) ({ cls := "Dominofs", name := "entries", desc := "()I" } : Jvm.MethodName)) ∈ lw_gd := gdc_2 22 rfl rfl
theorem mk_1_102 : MK 1 102 0 mi_102 := ⟨mt_102, ms_102, by decide +kernel, ⟨w_261, w_262, rfl⟩⟩
set_option maxRecDepth 4096 in
theorem w_1495 : (Jvm.Cond.methodLink "DominofsLaw" (200 : Nat) ({ cls := "DominofsModel", name := "entries", desc := "()I" } : Jvm.MethodName)) ∈ lw_gd := gdc_7 55 rfl rfl
set_option maxRecDepth 4096 in
theorem w_1498 : (Jvm.Cond.code ({ cls := "DominofsModel", name := "entries", desc := "()I" } : Jvm.MethodName) prog_14_method_52_code (1 : Nat) (Option.some Jvm.ClassFile.FieldType.int)) ∈ lw_gd := gdc_7 58 rfl rfl
theorem ms_175 : MS mi_175 := ⟨(List.mem_filter.mp w_1498).1, w_9, by decide +kernel, ⟨by decide +kernel, by decide +kernel⟩, Nat.le_of_ble_eq_true rfl⟩
set_option maxRecDepth 4096 in
theorem w_1496 : (Jvm.Cond.instanceMethod ({ cls := "DominofsModel", name := "entries", desc := "()I" } : Jvm.MethodName)) ∈ lw_gd := gdc_7 56 rfl rfl
set_option maxRecDepth 4096 in
theorem w_1497 : (Jvm.Cond.selects "DominofsModel" ({ cls := "DominofsModel", name := "entries", desc := "()I" } : Jvm.MethodName) ({ cls := "DominofsModel", name := "entries", desc := "()I" } : Jvm.MethodName)) ∈ lw_gd := gdc_7 57 rfl rfl
theorem mk_1_175 : MK 1 175 0 mi_175 := ⟨mt_175, ms_175, by decide +kernel, ⟨w_1496, w_1497, rfl⟩⟩
set_option maxRecDepth 4096 in
theorem w_268 : (Jvm.Cond.methodLink "DominofsLaw" (201 : Nat) ({ cls := "Dominofs", name := "loose", desc := "()I" } : Jvm.MethodName)) ∈ lw_gd := gdc_2 28 rfl rfl
set_option maxRecDepth 4096 in
theorem w_271 : (Jvm.Cond.code ({ cls := "Dominofs", name := "loose", desc := "()I" } : Jvm.MethodName) prog_1_method_25_code (1 : Nat) (Option.some Jvm.ClassFile.FieldType.int)) ∈ lw_gd := gdc_2 31 rfl rfl
theorem ms_103 : MS mi_103 := ⟨(List.mem_filter.mp w_271).1, w_1, by decide +kernel, ⟨by decide +kernel, by decide +kernel⟩, Nat.le_of_ble_eq_true rfl⟩
set_option maxRecDepth 4096 in
theorem w_269 : (Jvm.Cond.instanceMethod ({ cls := "Dominofs", name := "loose", desc := "()I" } : Jvm.MethodName)) ∈ lw_gd := gdc_2 29 rfl rfl
set_option maxRecDepth 4096 in
theorem w_270 : (Jvm.Cond.selects "Dominofs" ({ cls := "Dominofs", name := "loose", desc := "()I" } : Jvm.MethodName) ({ cls := "Dominofs", name := "loose", desc := "()I" } : Jvm.MethodName)) ∈ lw_gd := gdc_2 30 rfl rfl
theorem mk_1_103 : MK 1 103 0 mi_103 := ⟨mt_103, ms_103, by decide +kernel, ⟨w_269, w_270, rfl⟩⟩
set_option maxRecDepth 4096 in
theorem w_1499 : (Jvm.Cond.methodLink "DominofsLaw" (204 : Nat) ({ cls := "DominofsModel", name := "loose", desc := "()I" } : Jvm.MethodName)) ∈ lw_gd := gdc_7 59 rfl rfl
set_option maxRecDepth 4096 in
theorem w_1502 : (Jvm.Cond.code ({ cls := "DominofsModel", name := "loose", desc := "()I" } : Jvm.MethodName) prog_14_method_53_code (1 : Nat) (Option.some Jvm.ClassFile.FieldType.int)) ∈ lw_gd := gdc_7 62 rfl rfl
theorem ms_176 : MS mi_176 := ⟨(List.mem_filter.mp w_1502).1, w_9, by decide +kernel, ⟨by decide +kernel, by decide +kernel⟩, Nat.le_of_ble_eq_true rfl⟩
set_option maxRecDepth 4096 in
theorem w_1500 : (Jvm.Cond.instanceMethod ({ cls := "DominofsModel", name := "loose", desc := "()I" } : Jvm.MethodName)) ∈ lw_gd := gdc_7 60 rfl rfl
set_option maxRecDepth 4096 in
theorem w_1501 : (Jvm.Cond.selects "DominofsModel" ({ cls := "DominofsModel", name := "loose", desc := "()I" } : Jvm.MethodName) ({ cls := "DominofsModel", name := "loose", desc := "()I" } : Jvm.MethodName)) ∈ lw_gd := gdc_7 61 rfl rfl
theorem mk_1_176 : MK 1 176 0 mi_176 := ⟨mt_176, ms_176, by decide +kernel, ⟨w_1500, w_1501, rfl⟩⟩
set_option maxRecDepth 4096 in
theorem w_1106 : (Jvm.Cond.methodLink "DominofsLaw" (205 : Nat) ({ cls := "DominofsLaw", name := "entry", desc := "(LDominofs;I[J)I" } : Jvm.MethodName)) ∈ lw_gd := gdc_5 146 rfl rfl
set_option maxRecDepth 4096 in
theorem w_1108 : (Jvm.Cond.codeWith ({ cls := "DominofsLaw", name := "entry", desc := "(LDominofs;I[J)I" } : Jvm.MethodName) method_24_code (4 : Nat) (Option.some Jvm.ClassFile.FieldType.int) [((0 : Nat), (9 : Nat), (12 : Nat), (51 : Nat))]) ∈ lw_gd := gdc_5 148 rfl rfl
theorem ms_232 : MS mi_232 := ⟨(List.mem_filter.mp w_1108).1, w_0, by decide +kernel, ⟨by decide +kernel, by decide +kernel⟩, Nat.le_of_ble_eq_true rfl⟩
set_option maxRecDepth 4096 in
theorem w_1107 : (Jvm.Cond.static ({ cls := "DominofsLaw", name := "entry", desc := "(LDominofs;I[J)I" } : Jvm.MethodName)) ∈ lw_gd := gdc_5 147 rfl rfl
theorem mk_0_232 : MK 0 232 3 mi_232 := ⟨mt_232, ms_232, by decide +kernel, w_1107⟩
set_option maxRecDepth 4096 in
theorem w_1503 : (Jvm.Cond.methodLink "DominofsLaw" (207 : Nat) ({ cls := "DominofsModel", name := "entry", desc := "(I)C" } : Jvm.MethodName)) ∈ lw_gd := gdc_7 63 rfl rfl
set_option maxRecDepth 4096 in
theorem w_1506 : (Jvm.Cond.code ({ cls := "DominofsModel", name := "entry", desc := "(I)C" } : Jvm.MethodName) prog_14_method_55_code (2 : Nat) (Option.some Jvm.ClassFile.FieldType.char)) ∈ lw_gd := gdc_7 66 rfl rfl
theorem ms_178 : MS mi_178 := ⟨(List.mem_filter.mp w_1506).1, w_9, by decide +kernel, ⟨by decide +kernel, by decide +kernel⟩, Nat.le_of_ble_eq_true rfl⟩
set_option maxRecDepth 4096 in
theorem w_1504 : (Jvm.Cond.instanceMethod ({ cls := "DominofsModel", name := "entry", desc := "(I)C" } : Jvm.MethodName)) ∈ lw_gd := gdc_7 64 rfl rfl
set_option maxRecDepth 4096 in
theorem w_1505 : (Jvm.Cond.selects "DominofsModel" ({ cls := "DominofsModel", name := "entry", desc := "(I)C" } : Jvm.MethodName) ({ cls := "DominofsModel", name := "entry", desc := "(I)C" } : Jvm.MethodName)) ∈ lw_gd := gdc_7 65 rfl rfl
theorem mk_1_178 : MK 1 178 1 mi_178 := ⟨mt_178, ms_178, by decide +kernel, ⟨w_1504, w_1505, rfl⟩⟩
set_option maxRecDepth 4096 in
theorem w_1118 : (Jvm.Cond.methodLink "DominofsLaw" (208 : Nat) ({ cls := "DominofsLaw", name := "gameOf", desc := "(LDominofs;I[J)I" } : Jvm.MethodName)) ∈ lw_gd := gdc_5 158 rfl rfl
set_option maxRecDepth 4096 in
theorem w_1120 : (Jvm.Cond.codeWith ({ cls := "DominofsLaw", name := "gameOf", desc := "(LDominofs;I[J)I" } : Jvm.MethodName) method_25_code (4 : Nat) (Option.some Jvm.ClassFile.FieldType.int) [((0 : Nat), (9 : Nat), (12 : Nat), (51 : Nat))]) ∈ lw_gd := gdc_5 160 rfl rfl
theorem ms_233 : MS mi_233 := ⟨(List.mem_filter.mp w_1120).1, w_0, by decide +kernel, ⟨by decide +kernel, by decide +kernel⟩, Nat.le_of_ble_eq_true rfl⟩
set_option maxRecDepth 4096 in
theorem w_1119 : (Jvm.Cond.static ({ cls := "DominofsLaw", name := "gameOf", desc := "(LDominofs;I[J)I" } : Jvm.MethodName)) ∈ lw_gd := gdc_5 159 rfl rfl
theorem mk_0_233 : MK 0 233 3 mi_233 := ⟨mt_233, ms_233, by decide +kernel, w_1119⟩
set_option maxRecDepth 4096 in
theorem w_1511 : (Jvm.Cond.methodLink "DominofsLaw" (210 : Nat) ({ cls := "DominofsModel", name := "gameOf", desc := "(I)I" } : Jvm.MethodName)) ∈ lw_gd := gdc_7 71 rfl rfl
set_option maxRecDepth 4096 in
theorem w_1514 : (Jvm.Cond.code ({ cls := "DominofsModel", name := "gameOf", desc := "(I)I" } : Jvm.MethodName) prog_14_method_56_code (2 : Nat) (Option.some Jvm.ClassFile.FieldType.int)) ∈ lw_gd := gdc_7 74 rfl rfl
theorem ms_179 : MS mi_179 := ⟨(List.mem_filter.mp w_1514).1, w_9, by decide +kernel, ⟨by decide +kernel, by decide +kernel⟩, Nat.le_of_ble_eq_true rfl⟩
set_option maxRecDepth 4096 in
theorem w_1512 : (Jvm.Cond.instanceMethod ({ cls := "DominofsModel", name := "gameOf", desc := "(I)I" } : Jvm.MethodName)) ∈ lw_gd := gdc_7 72 rfl rfl
set_option maxRecDepth 4096 in
theorem w_1513 : (Jvm.Cond.selects "DominofsModel" ({ cls := "DominofsModel", name := "gameOf", desc := "(I)I" } : Jvm.MethodName) ({ cls := "DominofsModel", name := "gameOf", desc := "(I)I" } : Jvm.MethodName)) ∈ lw_gd := gdc_7 73 rfl rfl
theorem mk_1_179 : MK 1 179 1 mi_179 := ⟨mt_179, ms_179, by decide +kernel, ⟨w_1512, w_1513, rfl⟩⟩
set_option maxRecDepth 4096 in
theorem w_272 : (Jvm.Cond.methodLink "DominofsLaw" (211 : Nat) ({ cls := "Dominofs", name := "flush", desc := "()I" } : Jvm.MethodName)) ∈ lw_gd := gdc_2 32 rfl rfl
set_option maxRecDepth 4096 in
theorem w_275 : (Jvm.Cond.code ({ cls := "Dominofs", name := "flush", desc := "()I" } : Jvm.MethodName) prog_1_method_28_code (2 : Nat) (Option.some Jvm.ClassFile.FieldType.int)) ∈ lw_gd := gdc_2 35 rfl rfl
theorem ms_106 : MS mi_106 := ⟨(List.mem_filter.mp w_275).1, w_1, by decide +kernel, ⟨by decide +kernel, by decide +kernel⟩, Nat.le_of_ble_eq_true rfl⟩
set_option maxRecDepth 4096 in
theorem w_273 : (Jvm.Cond.instanceMethod ({ cls := "Dominofs", name := "flush", desc := "()I" } : Jvm.MethodName)) ∈ lw_gd := gdc_2 33 rfl rfl
set_option maxRecDepth 4096 in
theorem w_274 : (Jvm.Cond.selects "Dominofs" ({ cls := "Dominofs", name := "flush", desc := "()I" } : Jvm.MethodName) ({ cls := "Dominofs", name := "flush", desc := "()I" } : Jvm.MethodName)) ∈ lw_gd := gdc_2 34 rfl rfl
theorem mk_1_106 : MK 1 106 0 mi_106 := ⟨mt_106, ms_106, by decide +kernel, ⟨w_273, w_274, rfl⟩⟩
set_option maxRecDepth 4096 in
theorem w_1515 : (Jvm.Cond.methodLink "DominofsLaw" (214 : Nat) ({ cls := "DominofsModel", name := "flush", desc := "()I" } : Jvm.MethodName)) ∈ lw_gd := gdc_7 75 rfl rfl
set_option maxRecDepth 4096 in
theorem w_1518 : (Jvm.Cond.code ({ cls := "DominofsModel", name := "flush", desc := "()I" } : Jvm.MethodName) prog_14_method_57_code (2 : Nat) (Option.some Jvm.ClassFile.FieldType.int)) ∈ lw_gd := gdc_7 78 rfl rfl
theorem ms_180 : MS mi_180 := ⟨(List.mem_filter.mp w_1518).1, w_9, by decide +kernel, ⟨by decide +kernel, by decide +kernel⟩, Nat.le_of_ble_eq_true rfl⟩
set_option maxRecDepth 4096 in
theorem w_1516 : (Jvm.Cond.instanceMethod ({ cls := "DominofsModel", name := "flush", desc := "()I" } : Jvm.MethodName)) ∈ lw_gd := gdc_7 76 rfl rfl
set_option maxRecDepth 4096 in
theorem w_1517 : (Jvm.Cond.selects "DominofsModel" ({ cls := "DominofsModel", name := "flush", desc := "()I" } : Jvm.MethodName) ({ cls := "DominofsModel", name := "flush", desc := "()I" } : Jvm.MethodName)) ∈ lw_gd := gdc_7 77 rfl rfl
theorem mk_1_180 : MK 1 180 0 mi_180 := ⟨mt_180, ms_180, by decide +kernel, ⟨w_1516, w_1517, rfl⟩⟩
set_option maxRecDepth 4096 in
theorem w_276 : (Jvm.Cond.methodLink "DominofsLaw" (215 : Nat) ({ cls := "Dominofs", name := "crash", desc := "()I" } : Jvm.MethodName)) ∈ lw_gd := gdc_2 36 rfl rfl
set_option maxRecDepth 4096 in
theorem w_279 : (Jvm.Cond.code ({ cls := "Dominofs", name := "crash", desc := "()I" } : Jvm.MethodName) prog_1_method_29_code (3 : Nat) (Option.some Jvm.ClassFile.FieldType.int)) ∈ lw_gd := gdc_2 39 rfl rfl
theorem ms_107 : MS mi_107 := ⟨(List.mem_filter.mp w_279).1, w_1, by decide +kernel, ⟨by decide +kernel, by decide +kernel⟩, Nat.le_of_ble_eq_true rfl⟩
set_option maxRecDepth 4096 in
theorem w_277 : (Jvm.Cond.instanceMethod ({ cls := "Dominofs", name := "crash", desc := "()I" } : Jvm.MethodName)) ∈ lw_gd := gdc_2 37 rfl rfl
set_option maxRecDepth 4096 in
theorem w_278 : (Jvm.Cond.selects "Dominofs" ({ cls := "Dominofs", name := "crash", desc := "()I" } : Jvm.MethodName) ({ cls := "Dominofs", name := "crash", desc := "()I" } : Jvm.MethodName)) ∈ lw_gd := gdc_2 38 rfl rfl
theorem mk_1_107 : MK 1 107 0 mi_107 := ⟨mt_107, ms_107, by decide +kernel, ⟨w_277, w_278, rfl⟩⟩
set_option maxRecDepth 4096 in
theorem w_1519 : (Jvm.Cond.methodLink "DominofsLaw" (218 : Nat) ({ cls := "DominofsModel", name := "crash", desc := "()I" } : Jvm.MethodName)) ∈ lw_gd := gdc_7 79 rfl rfl
set_option maxRecDepth 4096 in
theorem w_1522 : (Jvm.Cond.code ({ cls := "DominofsModel", name := "crash", desc := "()I" } : Jvm.MethodName) prog_14_method_58_code (3 : Nat) (Option.some Jvm.ClassFile.FieldType.int)) ∈ lw_gd := gdc_7 82 rfl rfl
theorem ms_181 : MS mi_181 := ⟨(List.mem_filter.mp w_1522).1, w_9, by decide +kernel, ⟨by decide +kernel, by decide +kernel⟩, Nat.le_of_ble_eq_true rfl⟩
set_option maxRecDepth 4096 in
theorem w_1520 : (Jvm.Cond.instanceMethod ({ cls := "DominofsModel", name := "crash", desc := "()I" } : Jvm.MethodName)) ∈ lw_gd := gdc_7 80 rfl rfl
set_option maxRecDepth 4096 in
theorem w_1521 : (Jvm.Cond.selects "DominofsModel" ({ cls := "DominofsModel", name := "crash", desc := "()I" } : Jvm.MethodName) ({ cls := "DominofsModel", name := "crash", desc := "()I" } : Jvm.MethodName)) ∈ lw_gd := gdc_7 81 rfl rfl
theorem mk_1_181 : MK 1 181 0 mi_181 := ⟨mt_181, ms_181, by decide +kernel, ⟨w_1520, w_1521, rfl⟩⟩
set_option maxRecDepth 4096 in
theorem w_1125 : (Jvm.Cond.methodLink "DominofsLaw" (219 : Nat) ({ cls := "DominofsLaw", name := "checkpoint", desc := "(LDominofs;[J)I" } : Jvm.MethodName)) ∈ lw_gd := gdc_5 165 rfl rfl
set_option maxRecDepth 4096 in
theorem w_1127 : (Jvm.Cond.codeWith ({ cls := "DominofsLaw", name := "checkpoint", desc := "(LDominofs;[J)I" } : Jvm.MethodName) method_26_code (3 : Nat) (Option.some Jvm.ClassFile.FieldType.int) [((0 : Nat), (8 : Nat), (11 : Nat), (27 : Nat)), ((0 : Nat), (8 : Nat), (14 : Nat), (15 : Nat))]) ∈ lw_gd := gdc_5 167 rfl rfl
theorem ms_234 : MS mi_234 := ⟨(List.mem_filter.mp w_1127).1, w_0, by decide +kernel, ⟨by decide +kernel, by decide +kernel⟩, Nat.le_of_ble_eq_true rfl⟩
set_option maxRecDepth 4096 in
theorem w_1126 : (Jvm.Cond.static ({ cls := "DominofsLaw", name := "checkpoint", desc := "(LDominofs;[J)I" } : Jvm.MethodName)) ∈ lw_gd := gdc_5 166 rfl rfl
theorem mk_0_234 : MK 0 234 2 mi_234 := ⟨mt_234, ms_234, by decide +kernel, w_1126⟩
set_option maxRecDepth 4096 in
theorem w_1523 : (Jvm.Cond.methodLink "DominofsLaw" (222 : Nat) ({ cls := "DominofsModel", name := "checkpoint", desc := "()I" } : Jvm.MethodName)) ∈ lw_gd := gdc_7 83 rfl rfl
set_option maxRecDepth 4096 in
theorem w_1526 : (Jvm.Cond.code ({ cls := "DominofsModel", name := "checkpoint", desc := "()I" } : Jvm.MethodName) prog_14_method_59_code (3 : Nat) (Option.some Jvm.ClassFile.FieldType.int)) ∈ lw_gd := gdc_7 86 rfl rfl
theorem ms_182 : MS mi_182 := ⟨(List.mem_filter.mp w_1526).1, w_9, by decide +kernel, ⟨by decide +kernel, by decide +kernel⟩, Nat.le_of_ble_eq_true rfl⟩
set_option maxRecDepth 4096 in
theorem w_1524 : (Jvm.Cond.instanceMethod ({ cls := "DominofsModel", name := "checkpoint", desc := "()I" } : Jvm.MethodName)) ∈ lw_gd := gdc_7 84 rfl rfl
set_option maxRecDepth 4096 in
theorem w_1525 : (Jvm.Cond.selects "DominofsModel" ({ cls := "DominofsModel", name := "checkpoint", desc := "()I" } : Jvm.MethodName) ({ cls := "DominofsModel", name := "checkpoint", desc := "()I" } : Jvm.MethodName)) ∈ lw_gd := gdc_7 85 rfl rfl
theorem mk_1_182 : MK 1 182 0 mi_182 := ⟨mt_182, ms_182, by decide +kernel, ⟨w_1524, w_1525, rfl⟩⟩
set_option maxRecDepth 4096 in
theorem w_1138 : (Jvm.Cond.methodLink "DominofsLaw" (223 : Nat) ({ cls := "DominofsLaw", name := "behind", desc := "(LDominofs;I[J)I" } : Jvm.MethodName)) ∈ lw_gd := gdc_5 178 rfl rfl
set_option maxRecDepth 4096 in
theorem w_1140 : (Jvm.Cond.codeWith ({ cls := "DominofsLaw", name := "behind", desc := "(LDominofs;I[J)I" } : Jvm.MethodName) method_27_code (4 : Nat) (Option.some Jvm.ClassFile.FieldType.int) [((0 : Nat), (9 : Nat), (12 : Nat), (21 : Nat))]) ∈ lw_gd := gdc_5 180 rfl rfl
theorem ms_235 : MS mi_235 := ⟨(List.mem_filter.mp w_1140).1, w_0, by decide +kernel, ⟨by decide +kernel, by decide +kernel⟩, Nat.le_of_ble_eq_true rfl⟩
set_option maxRecDepth 4096 in
theorem w_1139 : (Jvm.Cond.static ({ cls := "DominofsLaw", name := "behind", desc := "(LDominofs;I[J)I" } : Jvm.MethodName)) ∈ lw_gd := gdc_5 179 rfl rfl
theorem mk_0_235 : MK 0 235 3 mi_235 := ⟨mt_235, ms_235, by decide +kernel, w_1139⟩
set_option maxRecDepth 4096 in
theorem w_1527 : (Jvm.Cond.methodLink "DominofsLaw" (225 : Nat) ({ cls := "DominofsModel", name := "behind", desc := "(I)I" } : Jvm.MethodName)) ∈ lw_gd := gdc_7 87 rfl rfl
set_option maxRecDepth 4096 in
theorem w_1530 : (Jvm.Cond.code ({ cls := "DominofsModel", name := "behind", desc := "(I)I" } : Jvm.MethodName) prog_14_method_61_code (2 : Nat) (Option.some Jvm.ClassFile.FieldType.int)) ∈ lw_gd := gdc_7 90 rfl rfl
theorem ms_184 : MS mi_184 := ⟨(List.mem_filter.mp w_1530).1, w_9, by decide +kernel, ⟨by decide +kernel, by decide +kernel⟩, Nat.le_of_ble_eq_true rfl⟩
set_option maxRecDepth 4096 in
theorem w_1528 : (Jvm.Cond.instanceMethod ({ cls := "DominofsModel", name := "behind", desc := "(I)I" } : Jvm.MethodName)) ∈ lw_gd := gdc_7 88 rfl rfl
set_option maxRecDepth 4096 in
theorem w_1529 : (Jvm.Cond.selects "DominofsModel" ({ cls := "DominofsModel", name := "behind", desc := "(I)I" } : Jvm.MethodName) ({ cls := "DominofsModel", name := "behind", desc := "(I)I" } : Jvm.MethodName)) ∈ lw_gd := gdc_7 89 rfl rfl
theorem mk_1_184 : MK 1 184 1 mi_184 := ⟨mt_184, ms_184, by decide +kernel, ⟨w_1528, w_1529, rfl⟩⟩
set_option maxRecDepth 4096 in
theorem w_1146 : (Jvm.Cond.methodLink "DominofsLaw" (226 : Nat) ({ cls := "DominofsLaw", name := "replay", desc := "(LDominofs;I[J)I" } : Jvm.MethodName)) ∈ lw_gd := gdc_5 186 rfl rfl
set_option maxRecDepth 4096 in
theorem w_1148 : (Jvm.Cond.codeWith ({ cls := "DominofsLaw", name := "replay", desc := "(LDominofs;I[J)I" } : Jvm.MethodName) method_28_code (4 : Nat) (Option.some Jvm.ClassFile.FieldType.int) [((0 : Nat), (8 : Nat), (11 : Nat), (21 : Nat))]) ∈ lw_gd := gdc_5 188 rfl rfl
theorem ms_236 : MS mi_236 := ⟨(List.mem_filter.mp w_1148).1, w_0, by decide +kernel, ⟨by decide +kernel, by decide +kernel⟩, Nat.le_of_ble_eq_true rfl⟩
set_option maxRecDepth 4096 in
theorem w_1147 : (Jvm.Cond.static ({ cls := "DominofsLaw", name := "replay", desc := "(LDominofs;I[J)I" } : Jvm.MethodName)) ∈ lw_gd := gdc_5 187 rfl rfl
theorem mk_0_236 : MK 0 236 3 mi_236 := ⟨mt_236, ms_236, by decide +kernel, w_1147⟩
set_option maxRecDepth 4096 in
theorem w_1535 : (Jvm.Cond.methodLink "DominofsLaw" (228 : Nat) ({ cls := "DominofsModel", name := "replay", desc := "(I)J" } : Jvm.MethodName)) ∈ lw_gd := gdc_7 95 rfl rfl
set_option maxRecDepth 4096 in
theorem w_1538 : (Jvm.Cond.code ({ cls := "DominofsModel", name := "replay", desc := "(I)J" } : Jvm.MethodName) prog_14_method_62_code (2 : Nat) (Option.some Jvm.ClassFile.FieldType.long)) ∈ lw_gd := gdc_7 98 rfl rfl
theorem ms_185 : MS mi_185 := ⟨(List.mem_filter.mp w_1538).1, w_9, by decide +kernel, ⟨by decide +kernel, by decide +kernel⟩, Nat.le_of_ble_eq_true rfl⟩
set_option maxRecDepth 4096 in
theorem w_1536 : (Jvm.Cond.instanceMethod ({ cls := "DominofsModel", name := "replay", desc := "(I)J" } : Jvm.MethodName)) ∈ lw_gd := gdc_7 96 rfl rfl
set_option maxRecDepth 4096 in
theorem w_1537 : (Jvm.Cond.selects "DominofsModel" ({ cls := "DominofsModel", name := "replay", desc := "(I)J" } : Jvm.MethodName) ({ cls := "DominofsModel", name := "replay", desc := "(I)J" } : Jvm.MethodName)) ∈ lw_gd := gdc_7 97 rfl rfl
theorem mk_1_185 : MK 1 185 1 mi_185 := ⟨mt_185, ms_185, by decide +kernel, ⟨w_1536, w_1537, rfl⟩⟩
set_option maxRecDepth 4096 in
theorem w_482 : (Jvm.Cond.methodLink "DominofsLaw" (229 : Nat) ({ cls := "Dominofs", name := "checksum", desc := "()J" } : Jvm.MethodName)) ∈ lw_gd := gdc_3 2 rfl rfl
set_option maxRecDepth 4096 in
theorem w_485 : (Jvm.Cond.code ({ cls := "Dominofs", name := "checksum", desc := "()J" } : Jvm.MethodName) prog_1_method_33_code (1 : Nat) (Option.some Jvm.ClassFile.FieldType.long)) ∈ lw_gd := gdc_3 5 rfl rfl
theorem ms_111 : MS mi_111 := ⟨(List.mem_filter.mp w_485).1, w_1, by decide +kernel, ⟨by decide +kernel, by decide +kernel⟩, Nat.le_of_ble_eq_true rfl⟩
set_option maxRecDepth 4096 in
theorem w_483 : (Jvm.Cond.instanceMethod ({ cls := "Dominofs", name := "checksum", desc := "()J" } : Jvm.MethodName)) ∈ lw_gd := gdc_3 3 rfl rfl
set_option maxRecDepth 4096 in
theorem w_484 : (Jvm.Cond.selects "Dominofs" ({ cls := "Dominofs", name := "checksum", desc := "()J" } : Jvm.MethodName) ({ cls := "Dominofs", name := "checksum", desc := "()J" } : Jvm.MethodName)) ∈ lw_gd := gdc_3 4 rfl rfl
theorem mk_1_111 : MK 1 111 0 mi_111 := ⟨mt_111, ms_111, by decide +kernel, ⟨w_483, w_484, rfl⟩⟩
set_option maxRecDepth 4096 in
theorem w_1546 : (Jvm.Cond.methodLink "DominofsLaw" (233 : Nat) ({ cls := "DominofsModel", name := "checksum", desc := "()J" } : Jvm.MethodName)) ∈ lw_gd := gdc_7 106 rfl rfl
set_option maxRecDepth 4096 in
theorem w_1549 : (Jvm.Cond.code ({ cls := "DominofsModel", name := "checksum", desc := "()J" } : Jvm.MethodName) prog_14_method_64_code (1 : Nat) (Option.some Jvm.ClassFile.FieldType.long)) ∈ lw_gd := gdc_7 109 rfl rfl
theorem ms_187 : MS mi_187 := ⟨(List.mem_filter.mp w_1549).1, w_9, by decide +kernel, ⟨by decide +kernel, by decide +kernel⟩, Nat.le_of_ble_eq_true rfl⟩
set_option maxRecDepth 4096 in
theorem w_1547 : (Jvm.Cond.instanceMethod ({ cls := "DominofsModel", name := "checksum", desc := "()J" } : Jvm.MethodName)) ∈ lw_gd := gdc_7 107 rfl rfl
set_option maxRecDepth 4096 in
theorem w_1548 : (Jvm.Cond.selects "DominofsModel" ({ cls := "DominofsModel", name := "checksum", desc := "()J" } : Jvm.MethodName) ({ cls := "DominofsModel", name := "checksum", desc := "()J" } : Jvm.MethodName)) ∈ lw_gd := gdc_7 108 rfl rfl
theorem mk_1_187 : MK 1 187 0 mi_187 := ⟨mt_187, ms_187, by decide +kernel, ⟨w_1547, w_1548, rfl⟩⟩
set_option maxRecDepth 4096 in
theorem w_1153 : (Jvm.Cond.methodLink "DominofsLaw" (234 : Nat) ({ cls := "DominofsLaw", name := "playedShare", desc := "(LDominofs;[D)I" } : Jvm.MethodName)) ∈ lw_gd := gdc_5 193 rfl rfl
set_option maxRecDepth 4096 in
theorem w_1155 : (Jvm.Cond.codeWith ({ cls := "DominofsLaw", name := "playedShare", desc := "(LDominofs;[D)I" } : Jvm.MethodName) method_29_code (3 : Nat) (Option.some Jvm.ClassFile.FieldType.int) [((0 : Nat), (8 : Nat), (11 : Nat), (51 : Nat))]) ∈ lw_gd := gdc_5 195 rfl rfl
theorem ms_237 : MS mi_237 := ⟨(List.mem_filter.mp w_1155).1, w_0, by decide +kernel, ⟨by decide +kernel, by decide +kernel⟩, Nat.le_of_ble_eq_true rfl⟩
set_option maxRecDepth 4096 in
theorem w_1154 : (Jvm.Cond.static ({ cls := "DominofsLaw", name := "playedShare", desc := "(LDominofs;[D)I" } : Jvm.MethodName)) ∈ lw_gd := gdc_5 194 rfl rfl
theorem mk_0_237 : MK 0 237 2 mi_237 := ⟨mt_237, ms_237, by decide +kernel, w_1154⟩
set_option maxRecDepth 4096 in
theorem w_1550 : (Jvm.Cond.methodLink "DominofsLaw" (237 : Nat) ({ cls := "DominofsModel", name := "playedShare", desc := "()F" } : Jvm.MethodName)) ∈ lw_gd := gdc_7 110 rfl rfl
set_option maxRecDepth 4096 in
theorem w_1553 : (Jvm.Cond.code ({ cls := "DominofsModel", name := "playedShare", desc := "()F" } : Jvm.MethodName) prog_14_method_65_code (3 : Nat) (Option.some Jvm.ClassFile.FieldType.float)) ∈ lw_gd := gdc_7 113 rfl rfl
theorem ms_188 : MS mi_188 := ⟨(List.mem_filter.mp w_1553).1, w_9, by decide +kernel, ⟨by decide +kernel, by decide +kernel⟩, Nat.le_of_ble_eq_true rfl⟩
set_option maxRecDepth 4096 in
theorem w_1551 : (Jvm.Cond.instanceMethod ({ cls := "DominofsModel", name := "playedShare", desc := "()F" } : Jvm.MethodName)) ∈ lw_gd := gdc_7 111 rfl rfl
set_option maxRecDepth 4096 in
theorem w_1552 : (Jvm.Cond.selects "DominofsModel" ({ cls := "DominofsModel", name := "playedShare", desc := "()F" } : Jvm.MethodName) ({ cls := "DominofsModel", name := "playedShare", desc := "()F" } : Jvm.MethodName)) ∈ lw_gd := gdc_7 112 rfl rfl
theorem mk_1_188 : MK 1 188 0 mi_188 := ⟨mt_188, ms_188, by decide +kernel, ⟨w_1551, w_1552, rfl⟩⟩
set_option maxRecDepth 4096 in
theorem w_502 : (Jvm.Cond.methodLink "DominofsLaw" (238 : Nat) ({ cls := "Dominofs", name := "meanPurse", desc := "()D" } : Jvm.MethodName)) ∈ lw_gd := gdc_3 22 rfl rfl
set_option maxRecDepth 4096 in
theorem w_505 : (Jvm.Cond.code ({ cls := "Dominofs", name := "meanPurse", desc := "()D" } : Jvm.MethodName) prog_1_method_35_code (1 : Nat) (Option.some Jvm.ClassFile.FieldType.double)) ∈ lw_gd := gdc_3 25 rfl rfl
theorem ms_113 : MS mi_113 := ⟨(List.mem_filter.mp w_505).1, w_1, by decide +kernel, ⟨by decide +kernel, by decide +kernel⟩, Nat.le_of_ble_eq_true rfl⟩
set_option maxRecDepth 4096 in
theorem w_503 : (Jvm.Cond.instanceMethod ({ cls := "Dominofs", name := "meanPurse", desc := "()D" } : Jvm.MethodName)) ∈ lw_gd := gdc_3 23 rfl rfl
set_option maxRecDepth 4096 in
theorem w_504 : (Jvm.Cond.selects "Dominofs" ({ cls := "Dominofs", name := "meanPurse", desc := "()D" } : Jvm.MethodName) ({ cls := "Dominofs", name := "meanPurse", desc := "()D" } : Jvm.MethodName)) ∈ lw_gd := gdc_3 24 rfl rfl
theorem mk_1_113 : MK 1 113 0 mi_113 := ⟨mt_113, ms_113, by decide +kernel, ⟨w_503, w_504, rfl⟩⟩
set_option maxRecDepth 4096 in
theorem w_1554 : (Jvm.Cond.methodLink "DominofsLaw" (242 : Nat) ({ cls := "DominofsModel", name := "meanPurse", desc := "()D" } : Jvm.MethodName)) ∈ lw_gd := gdc_7 114 rfl rfl
set_option maxRecDepth 4096 in
theorem w_1557 : (Jvm.Cond.code ({ cls := "DominofsModel", name := "meanPurse", desc := "()D" } : Jvm.MethodName) prog_14_method_66_code (3 : Nat) (Option.some Jvm.ClassFile.FieldType.double)) ∈ lw_gd := gdc_7 117 rfl rfl
theorem ms_189 : MS mi_189 := ⟨(List.mem_filter.mp w_1557).1, w_9, by decide +kernel, ⟨by decide +kernel, by decide +kernel⟩, Nat.le_of_ble_eq_true rfl⟩
set_option maxRecDepth 4096 in
theorem w_1555 : (Jvm.Cond.instanceMethod ({ cls := "DominofsModel", name := "meanPurse", desc := "()D" } : Jvm.MethodName)) ∈ lw_gd := gdc_7 115 rfl rfl
set_option maxRecDepth 4096 in
theorem w_1556 : (Jvm.Cond.selects "DominofsModel" ({ cls := "DominofsModel", name := "meanPurse", desc := "()D" } : Jvm.MethodName) ({ cls := "DominofsModel", name := "meanPurse", desc := "()D" } : Jvm.MethodName)) ∈ lw_gd := gdc_7 116 rfl rfl
theorem mk_1_189 : MK 1 189 0 mi_189 := ⟨mt_189, ms_189, by decide +kernel, ⟨w_1555, w_1556, rfl⟩⟩
set_option maxRecDepth 4096 in
theorem w_511 : (Jvm.Cond.methodLink "DominofsLaw" (243 : Nat) ({ cls := "Dominofs", name := "isSound", desc := "()Z" } : Jvm.MethodName)) ∈ lw_gd := gdc_3 31 rfl rfl
set_option maxRecDepth 4096 in
theorem w_514 : (Jvm.Cond.code ({ cls := "Dominofs", name := "isSound", desc := "()Z" } : Jvm.MethodName) prog_1_method_36_code (2 : Nat) (Option.some Jvm.ClassFile.FieldType.boolean)) ∈ lw_gd := gdc_3 34 rfl rfl
theorem ms_114 : MS mi_114 := ⟨(List.mem_filter.mp w_514).1, w_1, by decide +kernel, ⟨by decide +kernel, by decide +kernel⟩, Nat.le_of_ble_eq_true rfl⟩
set_option maxRecDepth 4096 in
theorem w_512 : (Jvm.Cond.instanceMethod ({ cls := "Dominofs", name := "isSound", desc := "()Z" } : Jvm.MethodName)) ∈ lw_gd := gdc_3 32 rfl rfl
set_option maxRecDepth 4096 in
theorem w_513 : (Jvm.Cond.selects "Dominofs" ({ cls := "Dominofs", name := "isSound", desc := "()Z" } : Jvm.MethodName) ({ cls := "Dominofs", name := "isSound", desc := "()Z" } : Jvm.MethodName)) ∈ lw_gd := gdc_3 33 rfl rfl
theorem mk_1_114 : MK 1 114 0 mi_114 := ⟨mt_114, ms_114, by decide +kernel, ⟨w_512, w_513, rfl⟩⟩
set_option maxRecDepth 4096 in
theorem w_1559 : (Jvm.Cond.methodLink "DominofsLaw" (247 : Nat) ({ cls := "DominofsModel", name := "isSound", desc := "()Z" } : Jvm.MethodName)) ∈ lw_gd := gdc_7 119 rfl rfl
set_option maxRecDepth 4096 in
theorem w_1562 : (Jvm.Cond.code ({ cls := "DominofsModel", name := "isSound", desc := "()Z" } : Jvm.MethodName) prog_14_method_67_code (1 : Nat) (Option.some Jvm.ClassFile.FieldType.boolean)) ∈ lw_gd := gdc_7 122 rfl rfl
theorem ms_190 : MS mi_190 := ⟨(List.mem_filter.mp w_1562).1, w_9, by decide +kernel, ⟨by decide +kernel, by decide +kernel⟩, Nat.le_of_ble_eq_true rfl⟩
set_option maxRecDepth 4096 in
theorem w_1560 : (Jvm.Cond.instanceMethod ({ cls := "DominofsModel", name := "isSound", desc := "()Z" } : Jvm.MethodName)) ∈ lw_gd := gdc_7 120 rfl rfl
set_option maxRecDepth 4096 in
theorem w_1561 : (Jvm.Cond.selects "DominofsModel" ({ cls := "DominofsModel", name := "isSound", desc := "()Z" } : Jvm.MethodName) ({ cls := "DominofsModel", name := "isSound", desc := "()Z" } : Jvm.MethodName)) ∈ lw_gd := gdc_7 121 rfl rfl
theorem mk_1_190 : MK 1 190 0 mi_190 := ⟨mt_190, ms_190, by decide +kernel, ⟨w_1560, w_1561, rfl⟩⟩
