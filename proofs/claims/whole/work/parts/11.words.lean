/-! the words of the tables, by their places, and what the methods, fields, links are -/
theorem tb_1 {w : Cond} (h : w ∈ tables_1_1) (hk : kw w = true) : w ∈ WS := mem_WS (List.mem_append_right _ (List.mem_append_left _ h)) hk
theorem tb_2 {w : Cond} (h : w ∈ tables_1_2) (hk : kw w = true) : w ∈ WS := mem_WS (List.mem_append_right _ (List.mem_append_right _ (List.mem_append_left _ h))) hk
theorem tb_3 {w : Cond} (h : w ∈ tables_1_3) (hk : kw w = true) : w ∈ WS := mem_WS (List.mem_append_right _ (List.mem_append_right _ (List.mem_append_right _ (List.mem_append_left _ h)))) hk
theorem tb_4 {w : Cond} (h : w ∈ tables_1_4) (hk : kw w = true) : w ∈ WS := mem_WS (List.mem_append_right _ (List.mem_append_right _ (List.mem_append_right _ (List.mem_append_right _ (List.mem_append_left _ h))))) hk
theorem tb_5 {w : Cond} (h : w ∈ tables_1_5) (hk : kw w = true) : w ∈ WS := mem_WS (List.mem_append_right _ (List.mem_append_right _ (List.mem_append_right _ (List.mem_append_right _ (List.mem_append_right _ (h)))))) hk
theorem in_X0 : ∀ w ∈ u_ws RX0 TX0 3, w ∈ WS := fun w h => mem_WS ((by decide +kernel : ∀ w ∈ u_ws RX0 TX0 3, w ∈ lw_tbl) w h) ((by decide +kernel : ∀ w ∈ u_ws RX0 TX0 3, kw w = true) w h)
theorem in_X1 : ∀ w ∈ u_ws RX1 TX1 3, w ∈ WS := fun w h => mem_WS ((by decide +kernel : ∀ w ∈ u_ws RX1 TX1 3, w ∈ lw_tbl) w h) ((by decide +kernel : ∀ w ∈ u_ws RX1 TX1 3, kw w = true) w h)
theorem in_X2 : ∀ w ∈ u_ws RX2 TX2 2, w ∈ WS := fun w h => mem_WS ((by decide +kernel : ∀ w ∈ u_ws RX2 TX2 2, w ∈ lw_tbl) w h) ((by decide +kernel : ∀ w ∈ u_ws RX2 TX2 2, kw w = true) w h)
theorem in_X3 : ∀ w ∈ u_ws RX3 TX3 4, w ∈ WS := fun w h => mem_WS ((by decide +kernel : ∀ w ∈ u_ws RX3 TX3 4, w ∈ lw_tbl) w h) ((by decide +kernel : ∀ w ∈ u_ws RX3 TX3 4, kw w = true) w h)
theorem in_X5 : ∀ w ∈ u_ws RX5 TX5 2, w ∈ WS := fun w h => mem_WS ((by decide +kernel : ∀ w ∈ u_ws RX5 TX5 2, w ∈ lw_tbl) w h) ((by decide +kernel : ∀ w ∈ u_ws RX5 TX5 2, kw w = true) w h)
theorem in_X6 : ∀ w ∈ u_ws RX6 TX6 2, w ∈ WS := fun w h => mem_WS ((by decide +kernel : ∀ w ∈ u_ws RX6 TX6 2, w ∈ lw_tbl) w h) ((by decide +kernel : ∀ w ∈ u_ws RX6 TX6 2, kw w = true) w h)
theorem in_X7 : ∀ w ∈ u_ws RX7 TX7 2, w ∈ WS := fun w h => mem_WS ((by decide +kernel : ∀ w ∈ u_ws RX7 TX7 2, w ∈ lw_tbl) w h) ((by decide +kernel : ∀ w ∈ u_ws RX7 TX7 2, kw w = true) w h)
theorem in_X8 : ∀ w ∈ u_ws RX8 TX8 6, w ∈ WS := fun w h => mem_WS ((by decide +kernel : ∀ w ∈ u_ws RX8 TX8 6, w ∈ lw_tbl) w h) ((by decide +kernel : ∀ w ∈ u_ws RX8 TX8 6, kw w = true) w h)
theorem in_X9 : ∀ w ∈ u_ws RX9 TX9 10, w ∈ WS := fun w h => mem_WS ((by decide +kernel : ∀ w ∈ u_ws RX9 TX9 10, w ∈ lw_tbl) w h) ((by decide +kernel : ∀ w ∈ u_ws RX9 TX9 10, kw w = true) w h)
theorem in_X10 : ∀ w ∈ u_ws RX10 TX10 22, w ∈ WS := fun w h => mem_WS ((by decide +kernel : ∀ w ∈ u_ws RX10 TX10 22, w ∈ lw_tbl) w h) ((by decide +kernel : ∀ w ∈ u_ws RX10 TX10 22, kw w = true) w h)
theorem it_L : Cond.initialized RL ∈ WS := tb_1 (List.mem_of_getElem? (i := 0) rfl) rfl
theorem it_X9 : Cond.initialized RX9 ∈ WS := tb_1 (List.mem_of_getElem? (i := 1) rfl) rfl
theorem it_X6 : Cond.initialized RX6 ∈ WS := tb_1 (List.mem_of_getElem? (i := 2) rfl) rfl
theorem it_X5 : Cond.initialized RX5 ∈ WS := tb_1 (List.mem_of_getElem? (i := 3) rfl) rfl
theorem it_X1 : Cond.initialized RX1 ∈ WS := tb_1 (List.mem_of_getElem? (i := 4) rfl) rfl
theorem it_X7 : Cond.initialized RX7 ∈ WS := tb_1 (List.mem_of_getElem? (i := 5) rfl) rfl
theorem it_X2 : Cond.initialized RX2 ∈ WS := tb_1 (List.mem_of_getElem? (i := 6) rfl) rfl
theorem it_X3 : Cond.initialized RX3 ∈ WS := tb_1 (List.mem_of_getElem? (i := 7) rfl) rfl
theorem it_X0 : Cond.initialized RX0 ∈ WS := tb_1 (List.mem_of_getElem? (i := 8) rfl) rfl
theorem it_X8 : Cond.initialized RX8 ∈ WS := tb_1 (List.mem_of_getElem? (i := 9) rfl) rfl
theorem it_X10 : Cond.initialized RX10 ∈ WS := tb_1 (List.mem_of_getElem? (i := 10) rfl) rfl
theorem it_X4 : Cond.initialized RX4 ∈ WS := tb_1 (List.mem_of_getElem? (i := 16) rfl) rfl
theorem it_J9 : Cond.initialized RJ9 ∈ WS := tb_1 (List.mem_of_getElem? (i := 18) rfl) rfl
theorem it_Jxe99ae : Cond.initialized RJxe99ae ∈ WS := tb_1 (List.mem_of_getElem? (i := 19) rfl) rfl
abbrev mm_X9_init : MI := (yX9_init, cX9_init, 1, none)
theorem mf_X9_init : MF mm_X9_init 0 := ⟨tb_1 (List.mem_of_getElem? (i := 24) rfl) rfl, it_X9, ⟨by decide, by decide⟩, by decide +kernel, by decide⟩
theorem mi_X9_init : Cond.instanceMethod yX9_init ∈ WS := tb_1 (List.mem_of_getElem? (i := 23) rfl) rfl
abbrev mm_X6_init : MI := (yX6_init, cX6_init, 1, none)
theorem mf_X6_init : MF mm_X6_init 0 := ⟨tb_1 (List.mem_of_getElem? (i := 32) rfl) rfl, it_X6, ⟨by decide, by decide⟩, by decide +kernel, by decide⟩
theorem mi_X6_init : Cond.instanceMethod yX6_init ∈ WS := tb_1 (List.mem_of_getElem? (i := 31) rfl) rfl
abbrev mm_X5_init : MI := (yX5_init, cX5_init, 2, none)
theorem mf_X5_init : MF mm_X5_init 1 := ⟨tb_1 (List.mem_of_getElem? (i := 38) rfl) rfl, it_X5, ⟨by decide, by decide⟩, by decide +kernel, by decide⟩
theorem mi_X5_init : Cond.instanceMethod yX5_init ∈ WS := tb_1 (List.mem_of_getElem? (i := 37) rfl) rfl
abbrev mm_X1_init : MI := (yX1_init, cX1_init, 2, none)
theorem mf_X1_init : MF mm_X1_init 0 := ⟨tb_1 (List.mem_of_getElem? (i := 67) rfl) rfl, it_X1, ⟨by decide, by decide⟩, by decide +kernel, by decide⟩
theorem mi_X1_init : Cond.instanceMethod yX1_init ∈ WS := tb_1 (List.mem_of_getElem? (i := 66) rfl) rfl
abbrev mm_X7_init : MI := (yX7_init, cX7_init, 1, none)
theorem mf_X7_init : MF mm_X7_init 0 := ⟨tb_1 (List.mem_of_getElem? (i := 87) rfl) rfl, it_X7, ⟨by decide, by decide⟩, by decide +kernel, by decide⟩
theorem mi_X7_init : Cond.instanceMethod yX7_init ∈ WS := tb_1 (List.mem_of_getElem? (i := 86) rfl) rfl
abbrev mm_X2_init : MI := (yX2_init, cX2_init, 1, none)
theorem mf_X2_init : MF mm_X2_init 0 := ⟨tb_1 (List.mem_of_getElem? (i := 101) rfl) rfl, it_X2, ⟨by decide, by decide⟩, by decide +kernel, by decide⟩
theorem mi_X2_init : Cond.instanceMethod yX2_init ∈ WS := tb_1 (List.mem_of_getElem? (i := 100) rfl) rfl
abbrev mm_X3_init : MI := (yX3_init, cX3_init, 1, none)
theorem mf_X3_init : MF mm_X3_init 0 := ⟨tb_1 (List.mem_of_getElem? (i := 114) rfl) rfl, it_X3, ⟨by decide, by decide⟩, by decide +kernel, by decide⟩
theorem mi_X3_init : Cond.instanceMethod yX3_init ∈ WS := tb_1 (List.mem_of_getElem? (i := 113) rfl) rfl
abbrev mm_X0_init : MI := (yX0_init, cX0_init, 1, none)
theorem mf_X0_init : MF mm_X0_init 0 := ⟨tb_1 (List.mem_of_getElem? (i := 135) rfl) rfl, it_X0, ⟨by decide, by decide⟩, by decide +kernel, by decide⟩
theorem mi_X0_init : Cond.instanceMethod yX0_init ∈ WS := tb_1 (List.mem_of_getElem? (i := 134) rfl) rfl
abbrev mm_X8_init : MI := (yX8_init, cX8_init, 1, none)
theorem mf_X8_init : MF mm_X8_init 0 := ⟨tb_1 (List.mem_of_getElem? (i := 153) rfl) rfl, it_X8, ⟨by decide, by decide⟩, by decide +kernel, by decide⟩
theorem mi_X8_init : Cond.instanceMethod yX8_init ∈ WS := tb_1 (List.mem_of_getElem? (i := 152) rfl) rfl
abbrev mm_X9_pull : MI := (yX9_pull, cX9_pull, 1, (some FieldType.int))
theorem mf_X9_pull : MF mm_X9_pull 0 := ⟨tb_1 (List.mem_of_getElem? (i := 216) rfl) rfl, it_X9, ⟨by decide, by decide⟩, by decide +kernel, by decide⟩
theorem mi_X9_pull : Cond.instanceMethod yX9_pull ∈ WS := tb_1 (List.mem_of_getElem? (i := 214) rfl) rfl
theorem mv_X9_pull : Cond.selects yX9_pull.cls yX9_pull yX9_pull ∈ WS := tb_1 (List.mem_of_getElem? (i := 215) rfl) rfl
abbrev mm_X1_save : MI := (yX1_save, cX1_save, 3, none)
theorem mf_X1_save : MF mm_X1_save 1 := ⟨tb_1 (List.mem_of_getElem? (i := 220) rfl) rfl, it_X1, ⟨by decide, by decide⟩, by decide +kernel, by decide⟩
theorem mi_X1_save : Cond.instanceMethod yX1_save ∈ WS := tb_1 (List.mem_of_getElem? (i := 218) rfl) rfl
theorem mv_X1_save : Cond.selects yX1_save.cls yX1_save yX1_save ∈ WS := tb_1 (List.mem_of_getElem? (i := 219) rfl) rfl
abbrev mm_X1_slotAt : MI := (yX1_slotAt, cX1_slotAt, 2, (some (FieldType.object "LaceTangles$State")))
theorem mf_X1_slotAt : MF mm_X1_slotAt 1 := ⟨tb_1 (List.mem_of_getElem? (i := 224) rfl) rfl, it_X1, ⟨by decide, by decide⟩, by decide +kernel, by decide⟩
theorem mi_X1_slotAt : Cond.instanceMethod yX1_slotAt ∈ WS := tb_1 (List.mem_of_getElem? (i := 223) rfl) rfl
theorem mv_X1_slotAt : Cond.selects yX1_slotAt.cls yX1_slotAt yX1_slotAt ∈ WS := mem_WS (List.mem_append_left _ (List.mem_of_getElem? (i := 0) (by decide +kernel))) rfl
abbrev mm_X6_become : MI := (yX6_become, cX6_become, 2, none)
theorem mf_X6_become : MF mm_X6_become 1 := ⟨tb_1 (List.mem_of_getElem? (i := 228) rfl) rfl, it_X6, ⟨by decide, by decide⟩, by decide +kernel, by decide⟩
theorem mi_X6_become : Cond.instanceMethod yX6_become ∈ WS := tb_1 (List.mem_of_getElem? (i := 226) rfl) rfl
theorem mv_X6_become : Cond.selects yX6_become.cls yX6_become yX6_become ∈ WS := tb_1 (List.mem_of_getElem? (i := 227) rfl) rfl
abbrev mm_X5_become : MI := (yX5_become, cX5_become, 2, none)
theorem mf_X5_become : MF mm_X5_become 1 := ⟨tb_1 (List.mem_of_getElem? (i := 232) rfl) rfl, it_X5, ⟨by decide, by decide⟩, by decide +kernel, by decide⟩
theorem mi_X5_become : Cond.instanceMethod yX5_become ∈ WS := tb_1 (List.mem_of_getElem? (i := 230) rfl) rfl
theorem mv_X5_become : Cond.selects yX5_become.cls yX5_become yX5_become ∈ WS := tb_1 (List.mem_of_getElem? (i := 231) rfl) rfl
abbrev mm_X5_empty : MI := (yX5_empty, cX5_empty, 1, none)
theorem mf_X5_empty : MF mm_X5_empty 0 := ⟨tb_1 (List.mem_of_getElem? (i := 236) rfl) rfl, it_X5, ⟨by decide, by decide⟩, by decide +kernel, by decide⟩
theorem mi_X5_empty : Cond.instanceMethod yX5_empty ∈ WS := tb_1 (List.mem_of_getElem? (i := 234) rfl) rfl
theorem mv_X5_empty : Cond.selects yX5_empty.cls yX5_empty yX5_empty ∈ WS := tb_1 (List.mem_of_getElem? (i := 235) rfl) rfl
abbrev mm_X5_addAll : MI := (yX5_addAll, cX5_addAll, 3, none)
theorem mf_X5_addAll : MF mm_X5_addAll 1 := ⟨tb_2 (List.mem_of_getElem? (i := 0) rfl) rfl, it_X5, ⟨by decide, by decide⟩, by decide +kernel, by decide⟩
theorem mi_X5_addAll : Cond.instanceMethod yX5_addAll ∈ WS := tb_1 (List.mem_of_getElem? (i := 238) rfl) rfl
theorem mv_X5_addAll : Cond.selects yX5_addAll.cls yX5_addAll yX5_addAll ∈ WS := tb_1 (List.mem_of_getElem? (i := 239) rfl) rfl
abbrev mm_X5_at : MI := (yX5_at, cX5_at, 2, (some FieldType.int))
theorem mf_X5_at : MF mm_X5_at 1 := ⟨tb_2 (List.mem_of_getElem? (i := 4) rfl) rfl, it_X5, ⟨by decide, by decide⟩, by decide +kernel, by decide⟩
theorem mi_X5_at : Cond.instanceMethod yX5_at ∈ WS := tb_2 (List.mem_of_getElem? (i := 2) rfl) rfl
theorem mv_X5_at : Cond.selects yX5_at.cls yX5_at yX5_at ∈ WS := tb_2 (List.mem_of_getElem? (i := 3) rfl) rfl
abbrev mm_X5_add : MI := (yX5_add, cX5_add, 2, (some FieldType.boolean))
theorem mf_X5_add : MF mm_X5_add 1 := ⟨tb_2 (List.mem_of_getElem? (i := 8) rfl) rfl, it_X5, ⟨by decide, by decide⟩, by decide +kernel, by decide⟩
theorem mi_X5_add : Cond.instanceMethod yX5_add ∈ WS := tb_2 (List.mem_of_getElem? (i := 6) rfl) rfl
theorem mv_X5_add : Cond.selects yX5_add.cls yX5_add yX5_add ∈ WS := tb_2 (List.mem_of_getElem? (i := 7) rfl) rfl
abbrev mm_X5_cancelAll : MI := (yX5_cancelAll, cX5_cancelAll, 4, (some FieldType.int))
theorem mf_X5_cancelAll : MF mm_X5_cancelAll 0 := ⟨tb_2 (List.mem_of_getElem? (i := 12) rfl) rfl, it_X5, ⟨by decide, by decide⟩, by decide +kernel, by decide⟩
theorem mi_X5_cancelAll : Cond.instanceMethod yX5_cancelAll ∈ WS := tb_2 (List.mem_of_getElem? (i := 10) rfl) rfl
theorem mv_X5_cancelAll : Cond.selects yX5_cancelAll.cls yX5_cancelAll yX5_cancelAll ∈ WS := tb_2 (List.mem_of_getElem? (i := 11) rfl) rfl
abbrev mm_X9_turn : MI := (yX9_turn, cX9_turn, 1, (some FieldType.int))
theorem mf_X9_turn : MF mm_X9_turn 0 := ⟨tb_2 (List.mem_of_getElem? (i := 16) rfl) rfl, it_X9, ⟨by decide, by decide⟩, by decide +kernel, by decide⟩
theorem mi_X9_turn : Cond.instanceMethod yX9_turn ∈ WS := tb_2 (List.mem_of_getElem? (i := 14) rfl) rfl
theorem mv_X9_turn : Cond.selects yX9_turn.cls yX9_turn yX9_turn ∈ WS := tb_2 (List.mem_of_getElem? (i := 15) rfl) rfl
abbrev mm_X5_addTurned : MI := (yX5_addTurned, cX5_addTurned, 3, none)
theorem mf_X5_addTurned : MF mm_X5_addTurned 1 := ⟨tb_2 (List.mem_of_getElem? (i := 21) rfl) rfl, it_X5, ⟨by decide, by decide⟩, by decide +kernel, by decide⟩
theorem mi_X5_addTurned : Cond.instanceMethod yX5_addTurned ∈ WS := tb_2 (List.mem_of_getElem? (i := 19) rfl) rfl
theorem mv_X5_addTurned : Cond.selects yX5_addTurned.cls yX5_addTurned yX5_addTurned ∈ WS := tb_2 (List.mem_of_getElem? (i := 20) rfl) rfl
abbrev mm_X5_twist : MI := (yX5_twist, cX5_twist, 1, (some FieldType.int))
theorem mf_X5_twist : MF mm_X5_twist 0 := ⟨tb_2 (List.mem_of_getElem? (i := 26) rfl) rfl, it_X5, ⟨by decide, by decide⟩, by decide +kernel, by decide⟩
theorem mi_X5_twist : Cond.instanceMethod yX5_twist ∈ WS := tb_2 (List.mem_of_getElem? (i := 24) rfl) rfl
theorem mv_X5_twist : Cond.selects yX5_twist.cls yX5_twist yX5_twist ∈ WS := tb_2 (List.mem_of_getElem? (i := 25) rfl) rfl
abbrev mm_X5_overFromLeft : MI := (yX5_overFromLeft, cX5_overFromLeft, 3, (some FieldType.int))
theorem mf_X5_overFromLeft : MF mm_X5_overFromLeft 0 := ⟨tb_2 (List.mem_of_getElem? (i := 30) rfl) rfl, it_X5, ⟨by decide, by decide⟩, by decide +kernel, by decide⟩
theorem mi_X5_overFromLeft : Cond.instanceMethod yX5_overFromLeft ∈ WS := tb_2 (List.mem_of_getElem? (i := 28) rfl) rfl
theorem mv_X5_overFromLeft : Cond.selects yX5_overFromLeft.cls yX5_overFromLeft yX5_overFromLeft ∈ WS := tb_2 (List.mem_of_getElem? (i := 29) rfl) rfl
abbrev mm_X9_clearBuffer : MI := (yX9_clearBuffer, cX9_clearBuffer, 2, (some FieldType.int))
theorem mf_X9_clearBuffer : MF mm_X9_clearBuffer 0 := ⟨tb_2 (List.mem_of_getElem? (i := 34) rfl) rfl, it_X9, ⟨by decide, by decide⟩, by decide +kernel, by decide⟩
theorem mi_X9_clearBuffer : Cond.instanceMethod yX9_clearBuffer ∈ WS := tb_2 (List.mem_of_getElem? (i := 32) rfl) rfl
theorem mv_X9_clearBuffer : Cond.selects yX9_clearBuffer.cls yX9_clearBuffer yX9_clearBuffer ∈ WS := tb_2 (List.mem_of_getElem? (i := 33) rfl) rfl
abbrev mm_X9_firstError : MI := (yX9_firstError, cX9_firstError, 1, (some FieldType.int))
theorem mf_X9_firstError : MF mm_X9_firstError 0 := ⟨tb_2 (List.mem_of_getElem? (i := 38) rfl) rfl, it_X9, ⟨by decide, by decide⟩, by decide +kernel, by decide⟩
theorem mi_X9_firstError : Cond.instanceMethod yX9_firstError ∈ WS := tb_2 (List.mem_of_getElem? (i := 36) rfl) rfl
theorem mv_X9_firstError : Cond.selects yX9_firstError.cls yX9_firstError yX9_firstError ∈ WS := tb_2 (List.mem_of_getElem? (i := 37) rfl) rfl
abbrev mm_X7_firstWrong : MI := (yX7_firstWrong, cX7_firstWrong, 3, (some FieldType.int))
theorem mf_X7_firstWrong : MF mm_X7_firstWrong 0 := ⟨tb_2 (List.mem_of_getElem? (i := 42) rfl) rfl, it_X7, ⟨by decide, by decide⟩, by decide +kernel, by decide⟩
theorem mi_X7_firstWrong : Cond.instanceMethod yX7_firstWrong ∈ WS := tb_2 (List.mem_of_getElem? (i := 40) rfl) rfl
theorem mv_X7_firstWrong : Cond.selects yX7_firstWrong.cls yX7_firstWrong yX7_firstWrong ∈ WS := tb_2 (List.mem_of_getElem? (i := 41) rfl) rfl
abbrev mm_X7_codeAt : MI := (yX7_codeAt, cX7_codeAt, 2, (some FieldType.int))
theorem mf_X7_codeAt : MF mm_X7_codeAt 1 := ⟨tb_2 (List.mem_of_getElem? (i := 46) rfl) rfl, it_X7, ⟨by decide, by decide⟩, by decide +kernel, by decide⟩
theorem mi_X7_codeAt : Cond.instanceMethod yX7_codeAt ∈ WS := tb_2 (List.mem_of_getElem? (i := 44) rfl) rfl
theorem mv_X7_codeAt : Cond.selects yX7_codeAt.cls yX7_codeAt yX7_codeAt ∈ WS := tb_2 (List.mem_of_getElem? (i := 45) rfl) rfl
abbrev mm_X7_crossingOf : MI := (yX7_crossingOf, cX7_crossingOf, 1, (some FieldType.int))
theorem mf_X7_crossingOf : MF mm_X7_crossingOf 1 := ⟨tb_2 (List.mem_of_getElem? (i := 49) rfl) rfl, it_X7, ⟨by decide, by decide⟩, by decide +kernel, by decide⟩
theorem ms_X7_crossingOf : Cond.static yX7_crossingOf ∈ WS := tb_2 (List.mem_of_getElem? (i := 48) rfl) rfl
abbrev mm_X7_figureOf : MI := (yX7_figureOf, cX7_figureOf, 1, (some FieldType.int))
theorem mf_X7_figureOf : MF mm_X7_figureOf 1 := ⟨tb_2 (List.mem_of_getElem? (i := 52) rfl) rfl, it_X7, ⟨by decide, by decide⟩, by decide +kernel, by decide⟩
theorem ms_X7_figureOf : Cond.static yX7_figureOf ∈ WS := tb_2 (List.mem_of_getElem? (i := 51) rfl) rfl
abbrev mm_X9_keep : MI := (yX9_keep, cX9_keep, 1, (some FieldType.int))
theorem mf_X9_keep : MF mm_X9_keep 0 := ⟨tb_2 (List.mem_of_getElem? (i := 56) rfl) rfl, it_X9, ⟨by decide, by decide⟩, by decide +kernel, by decide⟩
theorem mi_X9_keep : Cond.instanceMethod yX9_keep ∈ WS := tb_2 (List.mem_of_getElem? (i := 54) rfl) rfl
theorem mv_X9_keep : Cond.selects yX9_keep.cls yX9_keep yX9_keep ∈ WS := tb_2 (List.mem_of_getElem? (i := 55) rfl) rfl
abbrev mm_X9_bestMove : MI := (yX9_bestMove, cX9_bestMove, 4, (some FieldType.int))
theorem mf_X9_bestMove : MF mm_X9_bestMove 0 := ⟨tb_2 (List.mem_of_getElem? (i := 61) rfl) rfl, it_X9, ⟨by decide, by decide⟩, by decide +kernel, by decide⟩
theorem mi_X9_bestMove : Cond.instanceMethod yX9_bestMove ∈ WS := tb_2 (List.mem_of_getElem? (i := 59) rfl) rfl
theorem mv_X9_bestMove : Cond.selects yX9_bestMove.cls yX9_bestMove yX9_bestMove ∈ WS := tb_2 (List.mem_of_getElem? (i := 60) rfl) rfl
abbrev mm_X4_placesFor : MI := (yX4_placesFor, cX4_placesFor, 4, (some FieldType.int))
theorem mf_X4_placesFor : MF mm_X4_placesFor 2 := ⟨tb_2 (List.mem_of_getElem? (i := 64) rfl) rfl, it_X4, ⟨by decide, by decide⟩, by decide +kernel, by decide⟩
theorem ms_X4_placesFor : Cond.static yX4_placesFor ∈ WS := tb_2 (List.mem_of_getElem? (i := 63) rfl) rfl
abbrev mm_X4_reasonAgainst : MI := (yX4_reasonAgainst, cX4_reasonAgainst, 6, (some FieldType.int))
theorem mf_X4_reasonAgainst : MF mm_X4_reasonAgainst 3 := ⟨tb_2 (List.mem_of_getElem? (i := 67) rfl) rfl, it_X4, ⟨by decide, by decide⟩, by decide +kernel, by decide⟩
theorem ms_X4_reasonAgainst : Cond.static yX4_reasonAgainst ∈ WS := tb_2 (List.mem_of_getElem? (i := 66) rfl) rfl
abbrev mm_X4_againstCancel : MI := (yX4_againstCancel, cX4_againstCancel, 2, (some FieldType.int))
theorem mf_X4_againstCancel : MF mm_X4_againstCancel 2 := ⟨tb_2 (List.mem_of_getElem? (i := 71) rfl) rfl, it_X4, ⟨by decide, by decide⟩, by decide +kernel, by decide⟩
theorem ms_X4_againstCancel : Cond.static yX4_againstCancel ∈ WS := tb_2 (List.mem_of_getElem? (i := 70) rfl) rfl
abbrev mm_X9_rankOf : MI := (yX9_rankOf, cX9_rankOf, 1, (some FieldType.int))
theorem mf_X9_rankOf : MF mm_X9_rankOf 1 := ⟨tb_2 (List.mem_of_getElem? (i := 74) rfl) rfl, it_X9, ⟨by decide, by decide⟩, by decide +kernel, by decide⟩
theorem ms_X9_rankOf : Cond.static yX9_rankOf ∈ WS := tb_2 (List.mem_of_getElem? (i := 73) rfl) rfl
abbrev mm_X9_signOf : MI := (yX9_signOf, cX9_signOf, 1, (some FieldType.int))
theorem mf_X9_signOf : MF mm_X9_signOf 1 := ⟨tb_2 (List.mem_of_getElem? (i := 77) rfl) rfl, it_X9, ⟨by decide, by decide⟩, by decide +kernel, by decide⟩
theorem ms_X9_signOf : Cond.static yX9_signOf ∈ WS := tb_2 (List.mem_of_getElem? (i := 76) rfl) rfl
abbrev mm_X4_againstThree : MI := (yX4_againstThree, cX4_againstThree, 4, (some FieldType.int))
theorem mf_X4_againstThree : MF mm_X4_againstThree 3 := ⟨tb_2 (List.mem_of_getElem? (i := 80) rfl) rfl, it_X4, ⟨by decide, by decide⟩, by decide +kernel, by decide⟩
theorem ms_X4_againstThree : Cond.static yX4_againstThree ∈ WS := tb_2 (List.mem_of_getElem? (i := 79) rfl) rfl
abbrev mm_X9_pairsBehind : MI := (yX9_pairsBehind, cX9_pairsBehind, 3, (some FieldType.int))
theorem mf_X9_pairsBehind : MF mm_X9_pairsBehind 2 := ⟨tb_2 (List.mem_of_getElem? (i := 85) rfl) rfl, it_X9, ⟨by decide, by decide⟩, by decide +kernel, by decide⟩
theorem mi_X9_pairsBehind : Cond.instanceMethod yX9_pairsBehind ∈ WS := tb_2 (List.mem_of_getElem? (i := 84) rfl) rfl
theorem mv_X9_pairsBehind : Cond.selects yX9_pairsBehind.cls yX9_pairsBehind yX9_pairsBehind ∈ WS := mem_WS (List.mem_append_left _ (List.mem_of_getElem? (i := 1) (by decide +kernel))) rfl
abbrev mm_X4_make : MI := (yX4_make, cX4_make, 6, none)
theorem mf_X4_make : MF mm_X4_make 3 := ⟨tb_2 (List.mem_of_getElem? (i := 88) rfl) rfl, it_X4, ⟨by decide, by decide⟩, by decide +kernel, by decide⟩
theorem ms_X4_make : Cond.static yX4_make ∈ WS := tb_2 (List.mem_of_getElem? (i := 87) rfl) rfl
abbrev mm_X5_removePair : MI := (yX5_removePair, cX5_removePair, 3, none)
theorem mf_X5_removePair : MF mm_X5_removePair 1 := ⟨tb_2 (List.mem_of_getElem? (i := 92) rfl) rfl, it_X5, ⟨by decide, by decide⟩, by decide +kernel, by decide⟩
theorem mi_X5_removePair : Cond.instanceMethod yX5_removePair ∈ WS := tb_2 (List.mem_of_getElem? (i := 90) rfl) rfl
theorem mv_X5_removePair : Cond.selects yX5_removePair.cls yX5_removePair yX5_removePair ∈ WS := tb_2 (List.mem_of_getElem? (i := 91) rfl) rfl
abbrev mm_X5_put : MI := (yX5_put, cX5_put, 3, none)
theorem mf_X5_put : MF mm_X5_put 2 := ⟨tb_2 (List.mem_of_getElem? (i := 96) rfl) rfl, it_X5, ⟨by decide, by decide⟩, by decide +kernel, by decide⟩
theorem mi_X5_put : Cond.instanceMethod yX5_put ∈ WS := tb_2 (List.mem_of_getElem? (i := 94) rfl) rfl
theorem mv_X5_put : Cond.selects yX5_put.cls yX5_put yX5_put ∈ WS := tb_2 (List.mem_of_getElem? (i := 95) rfl) rfl
abbrev mm_X9_slack : MI := (yX9_slack, cX9_slack, 2, (some FieldType.double))
theorem mf_X9_slack : MF mm_X9_slack 0 := ⟨tb_2 (List.mem_of_getElem? (i := 101) rfl) rfl, it_X9, ⟨by decide, by decide⟩, by decide +kernel, by decide⟩
theorem mi_X9_slack : Cond.instanceMethod yX9_slack ∈ WS := tb_2 (List.mem_of_getElem? (i := 99) rfl) rfl
theorem mv_X9_slack : Cond.selects yX9_slack.cls yX9_slack yX9_slack ∈ WS := tb_2 (List.mem_of_getElem? (i := 100) rfl) rfl
abbrev mm_X9_digest : MI := (yX9_digest, cX9_digest, 4, (some FieldType.long))
theorem mf_X9_digest : MF mm_X9_digest 0 := ⟨tb_2 (List.mem_of_getElem? (i := 105) rfl) rfl, it_X9, ⟨by decide, by decide⟩, by decide +kernel, by decide⟩
theorem mi_X9_digest : Cond.instanceMethod yX9_digest ∈ WS := tb_2 (List.mem_of_getElem? (i := 103) rfl) rfl
theorem mv_X9_digest : Cond.selects yX9_digest.cls yX9_digest yX9_digest ∈ WS := tb_2 (List.mem_of_getElem? (i := 104) rfl) rfl
abbrev mm_X9_countOf : MI := (yX9_countOf, cX9_countOf, 2, (some FieldType.int))
theorem mf_X9_countOf : MF mm_X9_countOf 1 := ⟨tb_2 (List.mem_of_getElem? (i := 110) rfl) rfl, it_X9, ⟨by decide, by decide⟩, by decide +kernel, by decide⟩
theorem mi_X9_countOf : Cond.instanceMethod yX9_countOf ∈ WS := tb_2 (List.mem_of_getElem? (i := 109) rfl) rfl
theorem mv_X9_countOf : Cond.selects yX9_countOf.cls yX9_countOf yX9_countOf ∈ WS := mem_WS (List.mem_append_left _ (List.mem_of_getElem? (i := 2) (by decide +kernel))) rfl
abbrev mm_X5_rankMask : MI := (yX5_rankMask, cX5_rankMask, 3, (some FieldType.int))
theorem mf_X5_rankMask : MF mm_X5_rankMask 0 := ⟨tb_2 (List.mem_of_getElem? (i := 115) rfl) rfl, it_X5, ⟨by decide, by decide⟩, by decide +kernel, by decide⟩
theorem mi_X5_rankMask : Cond.instanceMethod yX5_rankMask ∈ WS := tb_2 (List.mem_of_getElem? (i := 113) rfl) rfl
theorem mv_X5_rankMask : Cond.selects yX5_rankMask.cls yX5_rankMask yX5_rankMask ∈ WS := tb_2 (List.mem_of_getElem? (i := 114) rfl) rfl
abbrev mm_X0_findIn : MI := (yX0_findIn, cX0_findIn, 6, (some FieldType.boolean))
theorem mf_X0_findIn : MF mm_X0_findIn 1 := ⟨tb_2 (List.mem_of_getElem? (i := 120) rfl) rfl, it_X0, ⟨by decide, by decide⟩, by decide +kernel, by decide⟩
theorem mi_X0_findIn : Cond.instanceMethod yX0_findIn ∈ WS := tb_2 (List.mem_of_getElem? (i := 118) rfl) rfl
theorem mv_X0_findIn : Cond.selects yX0_findIn.cls yX0_findIn yX0_findIn ∈ WS := tb_2 (List.mem_of_getElem? (i := 119) rfl) rfl
abbrev mm_X0_forget : MI := (yX0_forget, cX0_forget, 2, none)
theorem mf_X0_forget : MF mm_X0_forget 0 := ⟨tb_2 (List.mem_of_getElem? (i := 124) rfl) rfl, it_X0, ⟨by decide, by decide⟩, by decide +kernel, by decide⟩
theorem mi_X0_forget : Cond.instanceMethod yX0_forget ∈ WS := tb_2 (List.mem_of_getElem? (i := 123) rfl) rfl
theorem mv_X0_forget : Cond.selects yX0_forget.cls yX0_forget yX0_forget ∈ WS := mem_WS (List.mem_append_left _ (List.mem_of_getElem? (i := 3) (by decide +kernel))) rfl
abbrev mm_X9_mixed : MI := (yX9_mixed, cX9_mixed, 4, (some FieldType.long))
theorem mf_X9_mixed : MF mm_X9_mixed 2 := ⟨tb_2 (List.mem_of_getElem? (i := 129) rfl) rfl, it_X9, ⟨by decide, by decide⟩, by decide +kernel, by decide⟩
theorem ms_X9_mixed : Cond.static yX9_mixed ∈ WS := tb_2 (List.mem_of_getElem? (i := 128) rfl) rfl
abbrev mm_X9_crossingOrNone : MI := (yX9_crossingOrNone, cX9_crossingOrNone, 2, (some FieldType.int))
theorem mf_X9_crossingOrNone : MF mm_X9_crossingOrNone 2 := ⟨tb_2 (List.mem_of_getElem? (i := 133) rfl) rfl, it_X9, ⟨by decide, by decide⟩, by decide +kernel, by decide⟩
theorem ms_X9_crossingOrNone : Cond.static yX9_crossingOrNone ∈ WS := tb_2 (List.mem_of_getElem? (i := 132) rfl) rfl
abbrev mm_X9_withLaces : MI := (yX9_withLaces, cX9_withLaces, 7, (some FieldType.long))
theorem mf_X9_withLaces : MF mm_X9_withLaces 1 := ⟨tb_2 (List.mem_of_getElem? (i := 138) rfl) rfl, it_X9, ⟨by decide, by decide⟩, by decide +kernel, by decide⟩
theorem mi_X9_withLaces : Cond.instanceMethod yX9_withLaces ∈ WS := tb_2 (List.mem_of_getElem? (i := 137) rfl) rfl
theorem mv_X9_withLaces : Cond.selects yX9_withLaces.cls yX9_withLaces yX9_withLaces ∈ WS := mem_WS (List.mem_append_left _ (List.mem_of_getElem? (i := 4) (by decide +kernel))) rfl
abbrev mm_X2_follow : MI := (yX2_follow, cX2_follow, 4, none)
theorem mf_X2_follow : MF mm_X2_follow 2 := ⟨tb_2 (List.mem_of_getElem? (i := 142) rfl) rfl, it_X2, ⟨by decide, by decide⟩, by decide +kernel, by decide⟩
theorem mi_X2_follow : Cond.instanceMethod yX2_follow ∈ WS := tb_2 (List.mem_of_getElem? (i := 140) rfl) rfl
theorem mv_X2_follow : Cond.selects yX2_follow.cls yX2_follow yX2_follow ∈ WS := tb_2 (List.mem_of_getElem? (i := 141) rfl) rfl
abbrev mm_X2_change : MI := (yX2_change, cX2_change, 5, none)
theorem mf_X2_change : MF mm_X2_change 1 := ⟨tb_2 (List.mem_of_getElem? (i := 147) rfl) rfl, it_X2, ⟨by decide, by decide⟩, by decide +kernel, by decide⟩
theorem mi_X2_change : Cond.instanceMethod yX2_change ∈ WS := tb_2 (List.mem_of_getElem? (i := 146) rfl) rfl
theorem mv_X2_change : Cond.selects yX2_change.cls yX2_change yX2_change ∈ WS := mem_WS (List.mem_append_left _ (List.mem_of_getElem? (i := 5) (by decide +kernel))) rfl
abbrev mm_X2_addTo : MI := (yX2_addTo, cX2_addTo, 4, none)
theorem mf_X2_addTo : MF mm_X2_addTo 3 := ⟨tb_2 (List.mem_of_getElem? (i := 153) rfl) rfl, it_X2, ⟨by decide, by decide⟩, by decide +kernel, by decide⟩
theorem mi_X2_addTo : Cond.instanceMethod yX2_addTo ∈ WS := tb_2 (List.mem_of_getElem? (i := 152) rfl) rfl
theorem mv_X2_addTo : Cond.selects yX2_addTo.cls yX2_addTo yX2_addTo ∈ WS := mem_WS (List.mem_append_left _ (List.mem_of_getElem? (i := 6) (by decide +kernel))) rfl
abbrev mm_X9_isLace : MI := (yX9_isLace, cX9_isLace, 1, (some FieldType.boolean))
theorem mf_X9_isLace : MF mm_X9_isLace 1 := ⟨tb_2 (List.mem_of_getElem? (i := 156) rfl) rfl, it_X9, ⟨by decide, by decide⟩, by decide +kernel, by decide⟩
theorem ms_X9_isLace : Cond.static yX9_isLace ∈ WS := tb_2 (List.mem_of_getElem? (i := 155) rfl) rfl
abbrev mm_X2_laceAt : MI := (yX2_laceAt, cX2_laceAt, 2, (some FieldType.int))
theorem mf_X2_laceAt : MF mm_X2_laceAt 1 := ⟨tb_2 (List.mem_of_getElem? (i := 160) rfl) rfl, it_X2, ⟨by decide, by decide⟩, by decide +kernel, by decide⟩
theorem mi_X2_laceAt : Cond.instanceMethod yX2_laceAt ∈ WS := tb_2 (List.mem_of_getElem? (i := 158) rfl) rfl
theorem mv_X2_laceAt : Cond.selects yX2_laceAt.cls yX2_laceAt yX2_laceAt ∈ WS := tb_2 (List.mem_of_getElem? (i := 159) rfl) rfl
abbrev mm_X2_sumOf : MI := (yX2_sumOf, cX2_sumOf, 3, (some FieldType.int))
theorem mf_X2_sumOf : MF mm_X2_sumOf 2 := ⟨tb_2 (List.mem_of_getElem? (i := 164) rfl) rfl, it_X2, ⟨by decide, by decide⟩, by decide +kernel, by decide⟩
theorem mi_X2_sumOf : Cond.instanceMethod yX2_sumOf ∈ WS := tb_2 (List.mem_of_getElem? (i := 162) rfl) rfl
theorem mv_X2_sumOf : Cond.selects yX2_sumOf.cls yX2_sumOf yX2_sumOf ∈ WS := tb_2 (List.mem_of_getElem? (i := 163) rfl) rfl
abbrev mm_X9_withMeasures : MI := (yX9_withMeasures, cX9_withMeasures, 7, (some FieldType.long))
theorem mf_X9_withMeasures : MF mm_X9_withMeasures 1 := ⟨tb_2 (List.mem_of_getElem? (i := 168) rfl) rfl, it_X9, ⟨by decide, by decide⟩, by decide +kernel, by decide⟩
theorem mi_X9_withMeasures : Cond.instanceMethod yX9_withMeasures ∈ WS := tb_2 (List.mem_of_getElem? (i := 167) rfl) rfl
theorem mv_X9_withMeasures : Cond.selects yX9_withMeasures.cls yX9_withMeasures yX9_withMeasures ∈ WS := mem_WS (List.mem_append_left _ (List.mem_of_getElem? (i := 7) (by decide +kernel))) rfl
abbrev mm_X3_reckonInOrder : MI := (yX3_reckonInOrder, cX3_reckonInOrder, 4, none)
theorem mf_X3_reckonInOrder : MF mm_X3_reckonInOrder 1 := ⟨tb_2 (List.mem_of_getElem? (i := 172) rfl) rfl, it_X3, ⟨by decide, by decide⟩, by decide +kernel, by decide⟩
theorem mi_X3_reckonInOrder : Cond.instanceMethod yX3_reckonInOrder ∈ WS := tb_2 (List.mem_of_getElem? (i := 170) rfl) rfl
theorem mv_X3_reckonInOrder : Cond.selects yX3_reckonInOrder.cls yX3_reckonInOrder yX3_reckonInOrder ∈ WS := tb_2 (List.mem_of_getElem? (i := 171) rfl) rfl
abbrev mm_X3_fillWithNone : MI := (yX3_fillWithNone, cX3_fillWithNone, 2, none)
theorem mf_X3_fillWithNone : MF mm_X3_fillWithNone 1 := ⟨tb_2 (List.mem_of_getElem? (i := 175) rfl) rfl, it_X3, ⟨by decide, by decide⟩, by decide +kernel, by decide⟩
theorem ms_X3_fillWithNone : Cond.static yX3_fillWithNone ∈ WS := tb_2 (List.mem_of_getElem? (i := 174) rfl) rfl
abbrev mm_X3_fillWithOne : MI := (yX3_fillWithOne, cX3_fillWithOne, 5, none)
theorem mf_X3_fillWithOne : MF mm_X3_fillWithOne 2 := ⟨tb_2 (List.mem_of_getElem? (i := 179) rfl) rfl, it_X3, ⟨by decide, by decide⟩, by decide +kernel, by decide⟩
theorem ms_X3_fillWithOne : Cond.static yX3_fillWithOne ∈ WS := tb_2 (List.mem_of_getElem? (i := 178) rfl) rfl
abbrev mm_X3_multiply : MI := (yX3_multiply, cX3_multiply, 7, none)
theorem mf_X3_multiply : MF mm_X3_multiply 3 := ⟨tb_2 (List.mem_of_getElem? (i := 183) rfl) rfl, it_X3, ⟨by decide, by decide⟩, by decide +kernel, by decide⟩
theorem ms_X3_multiply : Cond.static yX3_multiply ∈ WS := tb_2 (List.mem_of_getElem? (i := 182) rfl) rfl
abbrev mm_X3_reckonByHalves : MI := (yX3_reckonByHalves, cX3_reckonByHalves, 2, none)
theorem mf_X3_reckonByHalves : MF mm_X3_reckonByHalves 1 := ⟨tb_2 (List.mem_of_getElem? (i := 187) rfl) rfl, it_X3, ⟨by decide, by decide⟩, by decide +kernel, by decide⟩
theorem mi_X3_reckonByHalves : Cond.instanceMethod yX3_reckonByHalves ∈ WS := tb_2 (List.mem_of_getElem? (i := 185) rfl) rfl
theorem mv_X3_reckonByHalves : Cond.selects yX3_reckonByHalves.cls yX3_reckonByHalves yX3_reckonByHalves ∈ WS := tb_2 (List.mem_of_getElem? (i := 186) rfl) rfl
abbrev mm_X3_halve : MI := (yX3_halve, cX3_halve, 8, none)
theorem mf_X3_halve : MF mm_X3_halve 6 := ⟨tb_2 (List.mem_of_getElem? (i := 190) rfl) rfl, it_X3, ⟨by decide, by decide⟩, by decide +kernel, by decide⟩
theorem ms_X3_halve : Cond.static yX3_halve ∈ WS := tb_2 (List.mem_of_getElem? (i := 189) rfl) rfl
abbrev mm_X3_inOrder : MI := (yX3_inOrder, cX3_inOrder, 3, (some FieldType.int))
theorem mf_X3_inOrder : MF mm_X3_inOrder 2 := ⟨tb_2 (List.mem_of_getElem? (i := 194) rfl) rfl, it_X3, ⟨by decide, by decide⟩, by decide +kernel, by decide⟩
theorem mi_X3_inOrder : Cond.instanceMethod yX3_inOrder ∈ WS := tb_2 (List.mem_of_getElem? (i := 192) rfl) rfl
theorem mv_X3_inOrder : Cond.selects yX3_inOrder.cls yX3_inOrder yX3_inOrder ∈ WS := tb_2 (List.mem_of_getElem? (i := 193) rfl) rfl
abbrev mm_X3_byHalves : MI := (yX3_byHalves, cX3_byHalves, 3, (some FieldType.int))
theorem mf_X3_byHalves : MF mm_X3_byHalves 2 := ⟨tb_2 (List.mem_of_getElem? (i := 199) rfl) rfl, it_X3, ⟨by decide, by decide⟩, by decide +kernel, by decide⟩
theorem mi_X3_byHalves : Cond.instanceMethod yX3_byHalves ∈ WS := tb_2 (List.mem_of_getElem? (i := 197) rfl) rfl
theorem mv_X3_byHalves : Cond.selects yX3_byHalves.cls yX3_byHalves yX3_byHalves ∈ WS := tb_2 (List.mem_of_getElem? (i := 198) rfl) rfl
abbrev mm_X9_withUntangled : MI := (yX9_withUntangled, cX9_withUntangled, 6, (some FieldType.long))
theorem mf_X9_withUntangled : MF mm_X9_withUntangled 1 := ⟨tb_2 (List.mem_of_getElem? (i := 203) rfl) rfl, it_X9, ⟨by decide, by decide⟩, by decide +kernel, by decide⟩
theorem mi_X9_withUntangled : Cond.instanceMethod yX9_withUntangled ∈ WS := tb_2 (List.mem_of_getElem? (i := 202) rfl) rfl
theorem mv_X9_withUntangled : Cond.selects yX9_withUntangled.cls yX9_withUntangled yX9_withUntangled ∈ WS := mem_WS (List.mem_append_left _ (List.mem_of_getElem? (i := 8) (by decide +kernel))) rfl
abbrev mm_X9_untangleNow : MI := (yX9_untangleNow, cX9_untangleNow, 1, none)
theorem mf_X9_untangleNow : MF mm_X9_untangleNow 0 := ⟨tb_2 (List.mem_of_getElem? (i := 207) rfl) rfl, it_X9, ⟨by decide, by decide⟩, by decide +kernel, by decide⟩
theorem mi_X9_untangleNow : Cond.instanceMethod yX9_untangleNow ∈ WS := tb_2 (List.mem_of_getElem? (i := 206) rfl) rfl
theorem mv_X9_untangleNow : Cond.selects yX9_untangleNow.cls yX9_untangleNow yX9_untangleNow ∈ WS := mem_WS (List.mem_append_left _ (List.mem_of_getElem? (i := 9) (by decide +kernel))) rfl
abbrev mm_X8_begin : MI := (yX8_begin, cX8_begin, 1, none)
theorem mf_X8_begin : MF mm_X8_begin 0 := ⟨tb_2 (List.mem_of_getElem? (i := 211) rfl) rfl, it_X8, ⟨by decide, by decide⟩, by decide +kernel, by decide⟩
theorem mi_X8_begin : Cond.instanceMethod yX8_begin ∈ WS := tb_2 (List.mem_of_getElem? (i := 209) rfl) rfl
theorem mv_X8_begin : Cond.selects yX8_begin.cls yX8_begin yX8_begin ∈ WS := tb_2 (List.mem_of_getElem? (i := 210) rfl) rfl
abbrev mm_X8_untangle : MI := (yX8_untangle, cX8_untangle, 2, none)
theorem mf_X8_untangle : MF mm_X8_untangle 0 := ⟨tb_2 (List.mem_of_getElem? (i := 217) rfl) rfl, it_X8, ⟨by decide, by decide⟩, by decide +kernel, by decide⟩
theorem mi_X8_untangle : Cond.instanceMethod yX8_untangle ∈ WS := tb_2 (List.mem_of_getElem? (i := 215) rfl) rfl
theorem mv_X8_untangle : Cond.selects yX8_untangle.cls yX8_untangle yX8_untangle ∈ WS := tb_2 (List.mem_of_getElem? (i := 216) rfl) rfl
abbrev mm_X0_lengthWithout : MI := (yX0_lengthWithout, cX0_lengthWithout, 5, (some FieldType.int))
theorem mf_X0_lengthWithout : MF mm_X0_lengthWithout 1 := ⟨tb_2 (List.mem_of_getElem? (i := 222) rfl) rfl, it_X0, ⟨by decide, by decide⟩, by decide +kernel, by decide⟩
theorem mi_X0_lengthWithout : Cond.instanceMethod yX0_lengthWithout ∈ WS := tb_2 (List.mem_of_getElem? (i := 220) rfl) rfl
theorem mv_X0_lengthWithout : Cond.selects yX0_lengthWithout.cls yX0_lengthWithout yX0_lengthWithout ∈ WS := tb_2 (List.mem_of_getElem? (i := 221) rfl) rfl
abbrev mm_X8_undoOne : MI := (yX8_undoOne, cX8_undoOne, 2, none)
theorem mf_X8_undoOne : MF mm_X8_undoOne 0 := ⟨tb_2 (List.mem_of_getElem? (i := 226) rfl) rfl, it_X8, ⟨by decide, by decide⟩, by decide +kernel, by decide⟩
theorem mi_X8_undoOne : Cond.instanceMethod yX8_undoOne ∈ WS := tb_2 (List.mem_of_getElem? (i := 225) rfl) rfl
theorem mv_X8_undoOne : Cond.selects yX8_undoOne.cls yX8_undoOne yX8_undoOne ∈ WS := mem_WS (List.mem_append_left _ (List.mem_of_getElem? (i := 10) (by decide +kernel))) rfl
abbrev mm_X0_takeOut : MI := (yX0_takeOut, cX0_takeOut, 7, none)
theorem mf_X0_takeOut : MF mm_X0_takeOut 2 := ⟨tb_2 (List.mem_of_getElem? (i := 230) rfl) rfl, it_X0, ⟨by decide, by decide⟩, by decide +kernel, by decide⟩
theorem mi_X0_takeOut : Cond.instanceMethod yX0_takeOut ∈ WS := tb_2 (List.mem_of_getElem? (i := 228) rfl) rfl
theorem mv_X0_takeOut : Cond.selects yX0_takeOut.cls yX0_takeOut yX0_takeOut ∈ WS := tb_2 (List.mem_of_getElem? (i := 229) rfl) rfl
abbrev mm_J9_max_7cf53 : MI := (yJ9_max_7cf53, cJ9_max_7cf53, 2, (some FieldType.int))
theorem mf_J9_max_7cf53 : MF mm_J9_max_7cf53 2 := ⟨tb_2 (List.mem_of_getElem? (i := 236) rfl) rfl, it_J9, ⟨by decide, by decide⟩, by decide +kernel, by decide⟩
theorem ms_J9_max_7cf53 : Cond.static yJ9_max_7cf53 ∈ WS := tb_2 (List.mem_of_getElem? (i := 235) rfl) rfl
abbrev mm_X8_answer : MI := (yX8_answer, cX8_answer, 2, (some FieldType.int))
theorem mf_X8_answer : MF mm_X8_answer 1 := ⟨tb_3 (List.mem_of_getElem? (i := 0) rfl) rfl, it_X8, ⟨by decide, by decide⟩, by decide +kernel, by decide⟩
theorem mi_X8_answer : Cond.instanceMethod yX8_answer ∈ WS := tb_2 (List.mem_of_getElem? (i := 238) rfl) rfl
theorem mv_X8_answer : Cond.selects yX8_answer.cls yX8_answer yX8_answer ∈ WS := tb_2 (List.mem_of_getElem? (i := 239) rfl) rfl
abbrev mm_X8_leaning : MI := (yX8_leaning, cX8_leaning, 2, (some FieldType.int))
theorem mf_X8_leaning : MF mm_X8_leaning 0 := ⟨tb_3 (List.mem_of_getElem? (i := 4) rfl) rfl, it_X8, ⟨by decide, by decide⟩, by decide +kernel, by decide⟩
theorem mi_X8_leaning : Cond.instanceMethod yX8_leaning ∈ WS := tb_3 (List.mem_of_getElem? (i := 3) rfl) rfl
theorem mv_X8_leaning : Cond.selects yX8_leaning.cls yX8_leaning yX8_leaning ∈ WS := mem_WS (List.mem_append_left _ (List.mem_of_getElem? (i := 11) (by decide +kernel))) rfl
abbrev mm_X5_signOfLowestRank : MI := (yX5_signOfLowestRank, cX5_signOfLowestRank, 3, (some FieldType.int))
theorem mf_X5_signOfLowestRank : MF mm_X5_signOfLowestRank 0 := ⟨tb_3 (List.mem_of_getElem? (i := 8) rfl) rfl, it_X5, ⟨by decide, by decide⟩, by decide +kernel, by decide⟩
theorem mi_X5_signOfLowestRank : Cond.instanceMethod yX5_signOfLowestRank ∈ WS := tb_3 (List.mem_of_getElem? (i := 6) rfl) rfl
theorem mv_X5_signOfLowestRank : Cond.selects yX5_signOfLowestRank.cls yX5_signOfLowestRank yX5_signOfLowestRank ∈ WS := tb_3 (List.mem_of_getElem? (i := 7) rfl) rfl
abbrev mm_X8_leftAt : MI := (yX8_leftAt, cX8_leftAt, 2, (some FieldType.int))
theorem mf_X8_leftAt : MF mm_X8_leftAt 1 := ⟨tb_3 (List.mem_of_getElem? (i := 13) rfl) rfl, it_X8, ⟨by decide, by decide⟩, by decide +kernel, by decide⟩
theorem mi_X8_leftAt : Cond.instanceMethod yX8_leftAt ∈ WS := tb_3 (List.mem_of_getElem? (i := 11) rfl) rfl
theorem mv_X8_leftAt : Cond.selects yX8_leftAt.cls yX8_leftAt yX8_leftAt ∈ WS := tb_3 (List.mem_of_getElem? (i := 12) rfl) rfl
abbrev mm_X9_bitsOfShare : MI := (yX9_bitsOfShare, cX9_bitsOfShare, 7, (some FieldType.long))
theorem mf_X9_bitsOfShare : MF mm_X9_bitsOfShare 1 := ⟨tb_3 (List.mem_of_getElem? (i := 19) rfl) rfl, it_X9, ⟨by decide, by decide⟩, by decide +kernel, by decide⟩
theorem ms_X9_bitsOfShare : Cond.static yX9_bitsOfShare ∈ WS := tb_3 (List.mem_of_getElem? (i := 18) rfl) rfl
abbrev mm_X9_cross : MI := (yX9_cross, cX9_cross, 2, (some FieldType.int))
theorem mf_X9_cross : MF mm_X9_cross 1 := ⟨tb_3 (List.mem_of_getElem? (i := 32) rfl) rfl, it_X9, ⟨by decide, by decide⟩, by decide +kernel, by decide⟩
theorem mi_X9_cross : Cond.instanceMethod yX9_cross ∈ WS := tb_3 (List.mem_of_getElem? (i := 30) rfl) rfl
theorem mv_X9_cross : Cond.selects yX9_cross.cls yX9_cross yX9_cross ∈ WS := tb_3 (List.mem_of_getElem? (i := 31) rfl) rfl
abbrev mm_X9_isCrossing : MI := (yX9_isCrossing, cX9_isCrossing, 1, (some FieldType.boolean))
theorem mf_X9_isCrossing : MF mm_X9_isCrossing 1 := ⟨tb_3 (List.mem_of_getElem? (i := 35) rfl) rfl, it_X9, ⟨by decide, by decide⟩, by decide +kernel, by decide⟩
theorem ms_X9_isCrossing : Cond.static yX9_isCrossing ∈ WS := tb_3 (List.mem_of_getElem? (i := 34) rfl) rfl
abbrev mm_X9_open : MI := (yX9_open, cX9_open, 2, (some FieldType.int))
theorem mf_X9_open : MF mm_X9_open 0 := ⟨tb_3 (List.mem_of_getElem? (i := 127) rfl) rfl, it_X9, ⟨by decide, by decide⟩, by decide +kernel, by decide⟩
theorem mi_X9_open : Cond.instanceMethod yX9_open ∈ WS := tb_3 (List.mem_of_getElem? (i := 125) rfl) rfl
theorem mv_X9_open : Cond.selects yX9_open.cls yX9_open yX9_open ∈ WS := tb_3 (List.mem_of_getElem? (i := 126) rfl) rfl
abbrev mm_X9_move : MI := (yX9_move, cX9_move, 3, (some FieldType.int))
theorem mf_X9_move : MF mm_X9_move 2 := ⟨tb_3 (List.mem_of_getElem? (i := 135) rfl) rfl, it_X9, ⟨by decide, by decide⟩, by decide +kernel, by decide⟩
theorem mi_X9_move : Cond.instanceMethod yX9_move ∈ WS := tb_3 (List.mem_of_getElem? (i := 133) rfl) rfl
theorem mv_X9_move : Cond.selects yX9_move.cls yX9_move yX9_move ∈ WS := tb_3 (List.mem_of_getElem? (i := 134) rfl) rfl
abbrev mm_X9_isMove : MI := (yX9_isMove, cX9_isMove, 1, (some FieldType.boolean))
theorem mf_X9_isMove : MF mm_X9_isMove 1 := ⟨tb_3 (List.mem_of_getElem? (i := 138) rfl) rfl, it_X9, ⟨by decide, by decide⟩, by decide +kernel, by decide⟩
theorem ms_X9_isMove : Cond.static yX9_isMove ∈ WS := tb_3 (List.mem_of_getElem? (i := 137) rfl) rfl
abbrev mm_X9_pair : MI := (yX9_pair, cX9_pair, 3, (some FieldType.int))
theorem mf_X9_pair : MF mm_X9_pair 2 := ⟨tb_3 (List.mem_of_getElem? (i := 147) rfl) rfl, it_X9, ⟨by decide, by decide⟩, by decide +kernel, by decide⟩
theorem mi_X9_pair : Cond.instanceMethod yX9_pair ∈ WS := tb_3 (List.mem_of_getElem? (i := 145) rfl) rfl
theorem mv_X9_pair : Cond.selects yX9_pair.cls yX9_pair yX9_pair ∈ WS := tb_3 (List.mem_of_getElem? (i := 146) rfl) rfl
abbrev mm_X5_insertPair : MI := (yX5_insertPair, cX5_insertPair, 4, none)
theorem mf_X5_insertPair : MF mm_X5_insertPair 2 := ⟨tb_3 (List.mem_of_getElem? (i := 153) rfl) rfl, it_X5, ⟨by decide, by decide⟩, by decide +kernel, by decide⟩
theorem mi_X5_insertPair : Cond.instanceMethod yX5_insertPair ∈ WS := tb_3 (List.mem_of_getElem? (i := 151) rfl) rfl
theorem mv_X5_insertPair : Cond.selects yX5_insertPair.cls yX5_insertPair yX5_insertPair ∈ WS := tb_3 (List.mem_of_getElem? (i := 152) rfl) rfl
abbrev mm_X9_handle : MI := (yX9_handle, cX9_handle, 1, (some FieldType.int))
theorem mf_X9_handle : MF mm_X9_handle 0 := ⟨tb_3 (List.mem_of_getElem? (i := 160) rfl) rfl, it_X9, ⟨by decide, by decide⟩, by decide +kernel, by decide⟩
theorem mi_X9_handle : Cond.instanceMethod yX9_handle ∈ WS := tb_3 (List.mem_of_getElem? (i := 158) rfl) rfl
theorem mv_X9_handle : Cond.selects yX9_handle.cls yX9_handle yX9_handle ∈ WS := tb_3 (List.mem_of_getElem? (i := 159) rfl) rfl
abbrev mm_X9_append : MI := (yX9_append, cX9_append, 2, (some FieldType.int))
theorem mf_X9_append : MF mm_X9_append 1 := ⟨tb_3 (List.mem_of_getElem? (i := 171) rfl) rfl, it_X9, ⟨by decide, by decide⟩, by decide +kernel, by decide⟩
theorem mi_X9_append : Cond.instanceMethod yX9_append ∈ WS := tb_3 (List.mem_of_getElem? (i := 169) rfl) rfl
theorem mv_X9_append : Cond.selects yX9_append.cls yX9_append yX9_append ∈ WS := tb_3 (List.mem_of_getElem? (i := 170) rfl) rfl
abbrev mm_X7_add : MI := (yX7_add, cX7_add, 2, none)
theorem mf_X7_add : MF mm_X7_add 1 := ⟨tb_3 (List.mem_of_getElem? (i := 177) rfl) rfl, it_X7, ⟨by decide, by decide⟩, by decide +kernel, by decide⟩
theorem mi_X7_add : Cond.instanceMethod yX7_add ∈ WS := tb_3 (List.mem_of_getElem? (i := 175) rfl) rfl
theorem mv_X7_add : Cond.selects yX7_add.cls yX7_add yX7_add ∈ WS := tb_3 (List.mem_of_getElem? (i := 176) rfl) rfl
abbrev mm_X9_lace : MI := (yX9_lace, cX9_lace, 2, (some FieldType.int))
theorem mf_X9_lace : MF mm_X9_lace 0 := ⟨tb_3 (List.mem_of_getElem? (i := 184) rfl) rfl, it_X9, ⟨by decide, by decide⟩, by decide +kernel, by decide⟩
theorem mi_X9_lace : Cond.instanceMethod yX9_lace ∈ WS := tb_3 (List.mem_of_getElem? (i := 182) rfl) rfl
theorem mv_X9_lace : Cond.selects yX9_lace.cls yX9_lace yX9_lace ∈ WS := tb_3 (List.mem_of_getElem? (i := 183) rfl) rfl
abbrev mm_X7_isTangle : MI := (yX7_isTangle, cX7_isTangle, 1, (some FieldType.boolean))
theorem mf_X7_isTangle : MF mm_X7_isTangle 0 := ⟨tb_3 (List.mem_of_getElem? (i := 188) rfl) rfl, it_X7, ⟨by decide, by decide⟩, by decide +kernel, by decide⟩
theorem mi_X7_isTangle : Cond.instanceMethod yX7_isTangle ∈ WS := tb_3 (List.mem_of_getElem? (i := 186) rfl) rfl
theorem mv_X7_isTangle : Cond.selects yX7_isTangle.cls yX7_isTangle yX7_isTangle ∈ WS := tb_3 (List.mem_of_getElem? (i := 187) rfl) rfl
abbrev mm_X7_putBehind : MI := (yX7_putBehind, cX7_putBehind, 5, none)
theorem mf_X7_putBehind : MF mm_X7_putBehind 1 := ⟨tb_3 (List.mem_of_getElem? (i := 194) rfl) rfl, it_X7, ⟨by decide, by decide⟩, by decide +kernel, by decide⟩
theorem mi_X7_putBehind : Cond.instanceMethod yX7_putBehind ∈ WS := tb_3 (List.mem_of_getElem? (i := 192) rfl) rfl
theorem mv_X7_putBehind : Cond.selects yX7_putBehind.cls yX7_putBehind yX7_putBehind ∈ WS := tb_3 (List.mem_of_getElem? (i := 193) rfl) rfl
abbrev mm_X7_addTimes : MI := (yX7_addTimes, cX7_addTimes, 4, none)
theorem mf_X7_addTimes : MF mm_X7_addTimes 3 := ⟨tb_3 (List.mem_of_getElem? (i := 197) rfl) rfl, it_X7, ⟨by decide, by decide⟩, by decide +kernel, by decide⟩
theorem ms_X7_addTimes : Cond.static yX7_addTimes ∈ WS := tb_3 (List.mem_of_getElem? (i := 196) rfl) rfl
abbrev mm_X9_undo : MI := (yX9_undo, cX9_undo, 1, (some FieldType.int))
theorem mf_X9_undo : MF mm_X9_undo 0 := ⟨tb_3 (List.mem_of_getElem? (i := 205) rfl) rfl, it_X9, ⟨by decide, by decide⟩, by decide +kernel, by decide⟩
theorem mi_X9_undo : Cond.instanceMethod yX9_undo ∈ WS := tb_3 (List.mem_of_getElem? (i := 203) rfl) rfl
theorem mv_X9_undo : Cond.selects yX9_undo.cls yX9_undo yX9_undo ∈ WS := tb_3 (List.mem_of_getElem? (i := 204) rfl) rfl
abbrev mm_X1_takeBack : MI := (yX1_takeBack, cX1_takeBack, 4, none)
theorem mf_X1_takeBack : MF mm_X1_takeBack 1 := ⟨tb_3 (List.mem_of_getElem? (i := 210) rfl) rfl, it_X1, ⟨by decide, by decide⟩, by decide +kernel, by decide⟩
theorem mi_X1_takeBack : Cond.instanceMethod yX1_takeBack ∈ WS := tb_3 (List.mem_of_getElem? (i := 208) rfl) rfl
theorem mv_X1_takeBack : Cond.selects yX1_takeBack.cls yX1_takeBack yX1_takeBack ∈ WS := tb_3 (List.mem_of_getElem? (i := 209) rfl) rfl
abbrev mm_X9_restore : MI := (yX9_restore, cX9_restore, 1, (some FieldType.int))
theorem mf_X9_restore : MF mm_X9_restore 0 := ⟨tb_3 (List.mem_of_getElem? (i := 217) rfl) rfl, it_X9, ⟨by decide, by decide⟩, by decide +kernel, by decide⟩
theorem mi_X9_restore : Cond.instanceMethod yX9_restore ∈ WS := tb_3 (List.mem_of_getElem? (i := 215) rfl) rfl
theorem mv_X9_restore : Cond.selects yX9_restore.cls yX9_restore yX9_restore ∈ WS := tb_3 (List.mem_of_getElem? (i := 216) rfl) rfl
abbrev mm_X9_crossing : MI := (yX9_crossing, cX9_crossing, 2, (some FieldType.int))
theorem mf_X9_crossing : MF mm_X9_crossing 1 := ⟨tb_3 (List.mem_of_getElem? (i := 225) rfl) rfl, it_X9, ⟨by decide, by decide⟩, by decide +kernel, by decide⟩
theorem mi_X9_crossing : Cond.instanceMethod yX9_crossing ∈ WS := tb_3 (List.mem_of_getElem? (i := 223) rfl) rfl
theorem mv_X9_crossing : Cond.selects yX9_crossing.cls yX9_crossing yX9_crossing ∈ WS := tb_3 (List.mem_of_getElem? (i := 224) rfl) rfl
abbrev mm_X9_lies : MI := (yX9_lies, cX9_lies, 3, (some FieldType.int))
theorem mf_X9_lies : MF mm_X9_lies 2 := ⟨tb_3 (List.mem_of_getElem? (i := 234) rfl) rfl, it_X9, ⟨by decide, by decide⟩, by decide +kernel, by decide⟩
theorem mi_X9_lies : Cond.instanceMethod yX9_lies ∈ WS := tb_3 (List.mem_of_getElem? (i := 232) rfl) rfl
theorem mv_X9_lies : Cond.selects yX9_lies.cls yX9_lies yX9_lies ∈ WS := tb_3 (List.mem_of_getElem? (i := 233) rfl) rfl
abbrev mm_X9_winding : MI := (yX9_winding, cX9_winding, 3, (some FieldType.int))
theorem mf_X9_winding : MF mm_X9_winding 2 := ⟨tb_4 (List.mem_of_getElem? (i := 19) rfl) rfl, it_X9, ⟨by decide, by decide⟩, by decide +kernel, by decide⟩
theorem mi_X9_winding : Cond.instanceMethod yX9_winding ∈ WS := tb_4 (List.mem_of_getElem? (i := 17) rfl) rfl
theorem mv_X9_winding : Cond.selects yX9_winding.cls yX9_winding yX9_winding ∈ WS := tb_4 (List.mem_of_getElem? (i := 18) rfl) rfl
abbrev mm_X9_measure : MI := (yX9_measure, cX9_measure, 3, (some FieldType.int))
theorem mf_X9_measure : MF mm_X9_measure 2 := ⟨tb_4 (List.mem_of_getElem? (i := 27) rfl) rfl, it_X9, ⟨by decide, by decide⟩, by decide +kernel, by decide⟩
theorem mi_X9_measure : Cond.instanceMethod yX9_measure ∈ WS := tb_4 (List.mem_of_getElem? (i := 25) rfl) rfl
theorem mv_X9_measure : Cond.selects yX9_measure.cls yX9_measure yX9_measure ∈ WS := tb_4 (List.mem_of_getElem? (i := 26) rfl) rfl
abbrev mm_X9_halved : MI := (yX9_halved, cX9_halved, 3, (some FieldType.int))
theorem mf_X9_halved : MF mm_X9_halved 2 := ⟨tb_4 (List.mem_of_getElem? (i := 35) rfl) rfl, it_X9, ⟨by decide, by decide⟩, by decide +kernel, by decide⟩
theorem mi_X9_halved : Cond.instanceMethod yX9_halved ∈ WS := tb_4 (List.mem_of_getElem? (i := 33) rfl) rfl
theorem mv_X9_halved : Cond.selects yX9_halved.cls yX9_halved yX9_halved ∈ WS := tb_4 (List.mem_of_getElem? (i := 34) rfl) rfl
abbrev mm_X9_count : MI := (yX9_count, cX9_count, 2, (some FieldType.int))
theorem mf_X9_count : MF mm_X9_count 1 := ⟨tb_4 (List.mem_of_getElem? (i := 42) rfl) rfl, it_X9, ⟨by decide, by decide⟩, by decide +kernel, by decide⟩
theorem mi_X9_count : Cond.instanceMethod yX9_count ∈ WS := tb_4 (List.mem_of_getElem? (i := 40) rfl) rfl
theorem mv_X9_count : Cond.selects yX9_count.cls yX9_count yX9_count ∈ WS := tb_4 (List.mem_of_getElem? (i := 41) rfl) rfl
abbrev mm_X9_whyNot : MI := (yX9_whyNot, cX9_whyNot, 3, (some FieldType.int))
theorem mf_X9_whyNot : MF mm_X9_whyNot 2 := ⟨tb_4 (List.mem_of_getElem? (i := 50) rfl) rfl, it_X9, ⟨by decide, by decide⟩, by decide +kernel, by decide⟩
theorem mi_X9_whyNot : Cond.instanceMethod yX9_whyNot ∈ WS := tb_4 (List.mem_of_getElem? (i := 48) rfl) rfl
theorem mv_X9_whyNot : Cond.selects yX9_whyNot.cls yX9_whyNot yX9_whyNot ∈ WS := tb_4 (List.mem_of_getElem? (i := 49) rfl) rfl
abbrev mm_X9_untangled : MI := (yX9_untangled, cX9_untangled, 2, (some FieldType.int))
theorem mf_X9_untangled : MF mm_X9_untangled 1 := ⟨tb_4 (List.mem_of_getElem? (i := 57) rfl) rfl, it_X9, ⟨by decide, by decide⟩, by decide +kernel, by decide⟩
theorem mi_X9_untangled : Cond.instanceMethod yX9_untangled ∈ WS := tb_4 (List.mem_of_getElem? (i := 55) rfl) rfl
theorem mv_X9_untangled : Cond.selects yX9_untangled.cls yX9_untangled yX9_untangled ∈ WS := tb_4 (List.mem_of_getElem? (i := 56) rfl) rfl
abbrev mm_X9_left : MI := (yX9_left, cX9_left, 2, (some FieldType.int))
theorem mf_X9_left : MF mm_X9_left 1 := ⟨tb_4 (List.mem_of_getElem? (i := 65) rfl) rfl, it_X9, ⟨by decide, by decide⟩, by decide +kernel, by decide⟩
theorem mi_X9_left : Cond.instanceMethod yX9_left ∈ WS := tb_4 (List.mem_of_getElem? (i := 63) rfl) rfl
theorem mv_X9_left : Cond.selects yX9_left.cls yX9_left yX9_left ∈ WS := tb_4 (List.mem_of_getElem? (i := 64) rfl) rfl
abbrev mm_X9_same : MI := (yX9_same, cX9_same, 1, (some FieldType.int))
theorem mf_X9_same : MF mm_X9_same 0 := ⟨tb_4 (List.mem_of_getElem? (i := 72) rfl) rfl, it_X9, ⟨by decide, by decide⟩, by decide +kernel, by decide⟩
theorem mi_X9_same : Cond.instanceMethod yX9_same ∈ WS := tb_4 (List.mem_of_getElem? (i := 70) rfl) rfl
theorem mv_X9_same : Cond.selects yX9_same.cls yX9_same yX9_same ∈ WS := tb_4 (List.mem_of_getElem? (i := 71) rfl) rfl
abbrev mm_X9_possible : MI := (yX9_possible, cX9_possible, 2, (some FieldType.int))
theorem mf_X9_possible : MF mm_X9_possible 1 := ⟨tb_4 (List.mem_of_getElem? (i := 79) rfl) rfl, it_X9, ⟨by decide, by decide⟩, by decide +kernel, by decide⟩
theorem mi_X9_possible : Cond.instanceMethod yX9_possible ∈ WS := tb_4 (List.mem_of_getElem? (i := 77) rfl) rfl
theorem mv_X9_possible : Cond.selects yX9_possible.cls yX9_possible yX9_possible ∈ WS := tb_4 (List.mem_of_getElem? (i := 78) rfl) rfl
abbrev mm_X10_init : MI := (yX10_init, cX10_init, 1, none)
theorem mf_X10_init : MF mm_X10_init 0 := ⟨tb_4 (List.mem_of_getElem? (i := 85) rfl) rfl, it_X10, ⟨by decide, by decide⟩, by decide +kernel, by decide⟩
theorem mi_X10_init : Cond.instanceMethod yX10_init ∈ WS := tb_4 (List.mem_of_getElem? (i := 84) rfl) rfl
abbrev mm_X10_thrown : MI := (yX10_thrown, cX10_thrown, 1, (some FieldType.int))
theorem mf_X10_thrown : MF mm_X10_thrown 0 := ⟨tb_4 (List.mem_of_getElem? (i := 157) rfl) rfl, it_X10, ⟨by decide, by decide⟩, by decide +kernel, by decide⟩
theorem mi_X10_thrown : Cond.instanceMethod yX10_thrown ∈ WS := tb_4 (List.mem_of_getElem? (i := 155) rfl) rfl
theorem mv_X10_thrown : Cond.selects yX10_thrown.cls yX10_thrown yX10_thrown ∈ WS := tb_4 (List.mem_of_getElem? (i := 156) rfl) rfl
abbrev mm_X10_undo : MI := (yX10_undo, cX10_undo, 2, (some FieldType.int))
theorem mf_X10_undo : MF mm_X10_undo 0 := ⟨tb_4 (List.mem_of_getElem? (i := 161) rfl) rfl, it_X10, ⟨by decide, by decide⟩, by decide +kernel, by decide⟩
theorem mi_X10_undo : Cond.instanceMethod yX10_undo ∈ WS := tb_4 (List.mem_of_getElem? (i := 159) rfl) rfl
theorem mv_X10_undo : Cond.selects yX10_undo.cls yX10_undo yX10_undo ∈ WS := tb_4 (List.mem_of_getElem? (i := 160) rfl) rfl
abbrev mm_X10_fails : MI := (yX10_fails, cX10_fails, 2, (some FieldType.int))
theorem mf_X10_fails : MF mm_X10_fails 1 := ⟨tb_4 (List.mem_of_getElem? (i := 165) rfl) rfl, it_X10, ⟨by decide, by decide⟩, by decide +kernel, by decide⟩
theorem mi_X10_fails : Cond.instanceMethod yX10_fails ∈ WS := tb_4 (List.mem_of_getElem? (i := 164) rfl) rfl
theorem mv_X10_fails : Cond.selects yX10_fails.cls yX10_fails yX10_fails ∈ WS := mem_WS (List.mem_append_left _ (List.mem_of_getElem? (i := 13) (by decide +kernel))) rfl
abbrev mm_X10_keep : MI := (yX10_keep, cX10_keep, 2, (some FieldType.int))
theorem mf_X10_keep : MF mm_X10_keep 0 := ⟨tb_4 (List.mem_of_getElem? (i := 169) rfl) rfl, it_X10, ⟨by decide, by decide⟩, by decide +kernel, by decide⟩
theorem mi_X10_keep : Cond.instanceMethod yX10_keep ∈ WS := tb_4 (List.mem_of_getElem? (i := 167) rfl) rfl
theorem mv_X10_keep : Cond.selects yX10_keep.cls yX10_keep yX10_keep ∈ WS := tb_4 (List.mem_of_getElem? (i := 168) rfl) rfl
abbrev mm_X10_restore : MI := (yX10_restore, cX10_restore, 2, (some FieldType.int))
theorem mf_X10_restore : MF mm_X10_restore 0 := ⟨tb_4 (List.mem_of_getElem? (i := 173) rfl) rfl, it_X10, ⟨by decide, by decide⟩, by decide +kernel, by decide⟩
theorem mi_X10_restore : Cond.instanceMethod yX10_restore ∈ WS := tb_4 (List.mem_of_getElem? (i := 171) rfl) rfl
theorem mv_X10_restore : Cond.selects yX10_restore.cls yX10_restore yX10_restore ∈ WS := tb_4 (List.mem_of_getElem? (i := 172) rfl) rfl
abbrev mm_X10_save : MI := (yX10_save, cX10_save, 2, none)
theorem mf_X10_save : MF mm_X10_save 0 := ⟨tb_4 (List.mem_of_getElem? (i := 177) rfl) rfl, it_X10, ⟨by decide, by decide⟩, by decide +kernel, by decide⟩
theorem mi_X10_save : Cond.instanceMethod yX10_save ∈ WS := tb_4 (List.mem_of_getElem? (i := 176) rfl) rfl
theorem mv_X10_save : Cond.selects yX10_save.cls yX10_save yX10_save ∈ WS := mem_WS (List.mem_append_left _ (List.mem_of_getElem? (i := 14) (by decide +kernel))) rfl
abbrev mm_X10_cross : MI := (yX10_cross, cX10_cross, 2, (some FieldType.int))
theorem mf_X10_cross : MF mm_X10_cross 1 := ⟨tb_4 (List.mem_of_getElem? (i := 181) rfl) rfl, it_X10, ⟨by decide, by decide⟩, by decide +kernel, by decide⟩
theorem mi_X10_cross : Cond.instanceMethod yX10_cross ∈ WS := tb_4 (List.mem_of_getElem? (i := 179) rfl) rfl
theorem mv_X10_cross : Cond.selects yX10_cross.cls yX10_cross yX10_cross ∈ WS := tb_4 (List.mem_of_getElem? (i := 180) rfl) rfl
abbrev mm_X10_isCrossing : MI := (yX10_isCrossing, cX10_isCrossing, 1, (some FieldType.boolean))
theorem mf_X10_isCrossing : MF mm_X10_isCrossing 1 := ⟨tb_4 (List.mem_of_getElem? (i := 184) rfl) rfl, it_X10, ⟨by decide, by decide⟩, by decide +kernel, by decide⟩
theorem ms_X10_isCrossing : Cond.static yX10_isCrossing ∈ WS := tb_4 (List.mem_of_getElem? (i := 183) rfl) rfl
abbrev mm_X10_within : MI := (yX10_within, cX10_within, 3, (some FieldType.boolean))
theorem mf_X10_within : MF mm_X10_within 3 := ⟨tb_4 (List.mem_of_getElem? (i := 187) rfl) rfl, it_X10, ⟨by decide, by decide⟩, by decide +kernel, by decide⟩
theorem ms_X10_within : Cond.static yX10_within ∈ WS := tb_4 (List.mem_of_getElem? (i := 186) rfl) rfl
abbrev mm_X10_open : MI := (yX10_open, cX10_open, 2, (some FieldType.int))
theorem mf_X10_open : MF mm_X10_open 0 := ⟨tb_4 (List.mem_of_getElem? (i := 191) rfl) rfl, it_X10, ⟨by decide, by decide⟩, by decide +kernel, by decide⟩
theorem mi_X10_open : Cond.instanceMethod yX10_open ∈ WS := tb_4 (List.mem_of_getElem? (i := 189) rfl) rfl
theorem mv_X10_open : Cond.selects yX10_open.cls yX10_open yX10_open ∈ WS := tb_4 (List.mem_of_getElem? (i := 190) rfl) rfl
abbrev mm_X10_of : MI := (yX10_of, cX10_of, 2, (some FieldType.int))
theorem mf_X10_of : MF mm_X10_of 1 := ⟨tb_4 (List.mem_of_getElem? (i := 195) rfl) rfl, it_X10, ⟨by decide, by decide⟩, by decide +kernel, by decide⟩
theorem mi_X10_of : Cond.instanceMethod yX10_of ∈ WS := tb_4 (List.mem_of_getElem? (i := 194) rfl) rfl
theorem mv_X10_of : Cond.selects yX10_of.cls yX10_of yX10_of ∈ WS := mem_WS (List.mem_append_left _ (List.mem_of_getElem? (i := 15) (by decide +kernel))) rfl
abbrev mm_X10_move : MI := (yX10_move, cX10_move, 3, (some FieldType.int))
theorem mf_X10_move : MF mm_X10_move 2 := ⟨tb_4 (List.mem_of_getElem? (i := 199) rfl) rfl, it_X10, ⟨by decide, by decide⟩, by decide +kernel, by decide⟩
theorem mi_X10_move : Cond.instanceMethod yX10_move ∈ WS := tb_4 (List.mem_of_getElem? (i := 197) rfl) rfl
theorem mv_X10_move : Cond.selects yX10_move.cls yX10_move yX10_move ∈ WS := tb_4 (List.mem_of_getElem? (i := 198) rfl) rfl
abbrev mm_X10_isMove : MI := (yX10_isMove, cX10_isMove, 1, (some FieldType.boolean))
theorem mf_X10_isMove : MF mm_X10_isMove 1 := ⟨tb_4 (List.mem_of_getElem? (i := 202) rfl) rfl, it_X10, ⟨by decide, by decide⟩, by decide +kernel, by decide⟩
theorem ms_X10_isMove : Cond.static yX10_isMove ∈ WS := tb_4 (List.mem_of_getElem? (i := 201) rfl) rfl
abbrev mm_X10_takeRow : MI := (yX10_takeRow, cX10_takeRow, 2, none)
theorem mf_X10_takeRow : MF mm_X10_takeRow 0 := ⟨tb_4 (List.mem_of_getElem? (i := 206) rfl) rfl, it_X10, ⟨by decide, by decide⟩, by decide +kernel, by decide⟩
theorem mi_X10_takeRow : Cond.instanceMethod yX10_takeRow ∈ WS := tb_4 (List.mem_of_getElem? (i := 205) rfl) rfl
theorem mv_X10_takeRow : Cond.selects yX10_takeRow.cls yX10_takeRow yX10_takeRow ∈ WS := mem_WS (List.mem_append_left _ (List.mem_of_getElem? (i := 16) (by decide +kernel))) rfl
abbrev mm_X10_reason : MI := (yX10_reason, cX10_reason, 7, (some FieldType.int))
theorem mf_X10_reason : MF mm_X10_reason 2 := ⟨tb_4 (List.mem_of_getElem? (i := 210) rfl) rfl, it_X10, ⟨by decide, by decide⟩, by decide +kernel, by decide⟩
theorem mi_X10_reason : Cond.instanceMethod yX10_reason ∈ WS := tb_4 (List.mem_of_getElem? (i := 209) rfl) rfl
theorem mv_X10_reason : Cond.selects yX10_reason.cls yX10_reason yX10_reason ∈ WS := mem_WS (List.mem_append_left _ (List.mem_of_getElem? (i := 17) (by decide +kernel))) rfl
abbrev mm_X10_lengthOf : MI := (yX10_lengthOf, cX10_lengthOf, 2, (some FieldType.int))
theorem mf_X10_lengthOf : MF mm_X10_lengthOf 1 := ⟨tb_4 (List.mem_of_getElem? (i := 214) rfl) rfl, it_X10, ⟨by decide, by decide⟩, by decide +kernel, by decide⟩
theorem mi_X10_lengthOf : Cond.instanceMethod yX10_lengthOf ∈ WS := tb_4 (List.mem_of_getElem? (i := 213) rfl) rfl
theorem mv_X10_lengthOf : Cond.selects yX10_lengthOf.cls yX10_lengthOf yX10_lengthOf ∈ WS := mem_WS (List.mem_append_left _ (List.mem_of_getElem? (i := 18) (by decide +kernel))) rfl
abbrev mm_X10_rankOf : MI := (yX10_rankOf, cX10_rankOf, 1, (some FieldType.int))
theorem mf_X10_rankOf : MF mm_X10_rankOf 1 := ⟨tb_4 (List.mem_of_getElem? (i := 217) rfl) rfl, it_X10, ⟨by decide, by decide⟩, by decide +kernel, by decide⟩
theorem ms_X10_rankOf : Cond.static yX10_rankOf ∈ WS := tb_4 (List.mem_of_getElem? (i := 216) rfl) rfl
abbrev mm_X10_signOf : MI := (yX10_signOf, cX10_signOf, 1, (some FieldType.int))
theorem mf_X10_signOf : MF mm_X10_signOf 1 := ⟨tb_4 (List.mem_of_getElem? (i := 220) rfl) rfl, it_X10, ⟨by decide, by decide⟩, by decide +kernel, by decide⟩
theorem ms_X10_signOf : Cond.static yX10_signOf ∈ WS := tb_4 (List.mem_of_getElem? (i := 219) rfl) rfl
abbrev mm_X10_makeMove : MI := (yX10_makeMove, cX10_makeMove, 6, none)
theorem mf_X10_makeMove : MF mm_X10_makeMove 2 := ⟨tb_4 (List.mem_of_getElem? (i := 224) rfl) rfl, it_X10, ⟨by decide, by decide⟩, by decide +kernel, by decide⟩
theorem mi_X10_makeMove : Cond.instanceMethod yX10_makeMove ∈ WS := tb_4 (List.mem_of_getElem? (i := 223) rfl) rfl
theorem mv_X10_makeMove : Cond.selects yX10_makeMove.cls yX10_makeMove yX10_makeMove ∈ WS := mem_WS (List.mem_append_left _ (List.mem_of_getElem? (i := 19) (by decide +kernel))) rfl
abbrev mm_X10_dropTwo : MI := (yX10_dropTwo, cX10_dropTwo, 3, none)
theorem mf_X10_dropTwo : MF mm_X10_dropTwo 1 := ⟨tb_4 (List.mem_of_getElem? (i := 228) rfl) rfl, it_X10, ⟨by decide, by decide⟩, by decide +kernel, by decide⟩
theorem mi_X10_dropTwo : Cond.instanceMethod yX10_dropTwo ∈ WS := tb_4 (List.mem_of_getElem? (i := 227) rfl) rfl
theorem mv_X10_dropTwo : Cond.selects yX10_dropTwo.cls yX10_dropTwo yX10_dropTwo ∈ WS := mem_WS (List.mem_append_left _ (List.mem_of_getElem? (i := 20) (by decide +kernel))) rfl
abbrev mm_X10_giveRow : MI := (yX10_giveRow, cX10_giveRow, 2, (some FieldType.int))
theorem mf_X10_giveRow : MF mm_X10_giveRow 0 := ⟨tb_4 (List.mem_of_getElem? (i := 232) rfl) rfl, it_X10, ⟨by decide, by decide⟩, by decide +kernel, by decide⟩
theorem mi_X10_giveRow : Cond.instanceMethod yX10_giveRow ∈ WS := tb_4 (List.mem_of_getElem? (i := 231) rfl) rfl
theorem mv_X10_giveRow : Cond.selects yX10_giveRow.cls yX10_giveRow yX10_giveRow ∈ WS := mem_WS (List.mem_append_left _ (List.mem_of_getElem? (i := 21) (by decide +kernel))) rfl
abbrev mm_X10_pair : MI := (yX10_pair, cX10_pair, 4, (some FieldType.int))
theorem mf_X10_pair : MF mm_X10_pair 2 := ⟨tb_4 (List.mem_of_getElem? (i := 236) rfl) rfl, it_X10, ⟨by decide, by decide⟩, by decide +kernel, by decide⟩
theorem mi_X10_pair : Cond.instanceMethod yX10_pair ∈ WS := tb_4 (List.mem_of_getElem? (i := 234) rfl) rfl
theorem mv_X10_pair : Cond.selects yX10_pair.cls yX10_pair yX10_pair ∈ WS := tb_4 (List.mem_of_getElem? (i := 235) rfl) rfl
abbrev mm_X10_pull : MI := (yX10_pull, cX10_pull, 2, (some FieldType.int))
theorem mf_X10_pull : MF mm_X10_pull 0 := ⟨tb_5 (List.mem_of_getElem? (i := 0) rfl) rfl, it_X10, ⟨by decide, by decide⟩, by decide +kernel, by decide⟩
theorem mi_X10_pull : Cond.instanceMethod yX10_pull ∈ WS := tb_4 (List.mem_of_getElem? (i := 238) rfl) rfl
theorem mv_X10_pull : Cond.selects yX10_pull.cls yX10_pull yX10_pull ∈ WS := tb_4 (List.mem_of_getElem? (i := 239) rfl) rfl
abbrev mm_X10_pullRow : MI := (yX10_pullRow, cX10_pullRow, 3, (some FieldType.int))
theorem mf_X10_pullRow : MF mm_X10_pullRow 0 := ⟨tb_5 (List.mem_of_getElem? (i := 4) rfl) rfl, it_X10, ⟨by decide, by decide⟩, by decide +kernel, by decide⟩
theorem mi_X10_pullRow : Cond.instanceMethod yX10_pullRow ∈ WS := tb_5 (List.mem_of_getElem? (i := 3) rfl) rfl
theorem mv_X10_pullRow : Cond.selects yX10_pullRow.cls yX10_pullRow yX10_pullRow ∈ WS := mem_WS (List.mem_append_left _ (List.mem_of_getElem? (i := 22) (by decide +kernel))) rfl
abbrev mm_X10_turn : MI := (yX10_turn, cX10_turn, 2, (some FieldType.int))
theorem mf_X10_turn : MF mm_X10_turn 0 := ⟨tb_5 (List.mem_of_getElem? (i := 8) rfl) rfl, it_X10, ⟨by decide, by decide⟩, by decide +kernel, by decide⟩
theorem mi_X10_turn : Cond.instanceMethod yX10_turn ∈ WS := tb_5 (List.mem_of_getElem? (i := 6) rfl) rfl
theorem mv_X10_turn : Cond.selects yX10_turn.cls yX10_turn yX10_turn ∈ WS := tb_5 (List.mem_of_getElem? (i := 7) rfl) rfl
abbrev mm_X10_twist : MI := (yX10_twist, cX10_twist, 3, (some FieldType.int))
theorem mf_X10_twist : MF mm_X10_twist 0 := ⟨tb_5 (List.mem_of_getElem? (i := 12) rfl) rfl, it_X10, ⟨by decide, by decide⟩, by decide +kernel, by decide⟩
theorem mi_X10_twist : Cond.instanceMethod yX10_twist ∈ WS := tb_5 (List.mem_of_getElem? (i := 11) rfl) rfl
theorem mv_X10_twist : Cond.selects yX10_twist.cls yX10_twist yX10_twist ∈ WS := mem_WS (List.mem_append_left _ (List.mem_of_getElem? (i := 23) (by decide +kernel))) rfl
abbrev mm_X10_handle : MI := (yX10_handle, cX10_handle, 1, (some FieldType.int))
theorem mf_X10_handle : MF mm_X10_handle 0 := ⟨tb_5 (List.mem_of_getElem? (i := 16) rfl) rfl, it_X10, ⟨by decide, by decide⟩, by decide +kernel, by decide⟩
theorem mi_X10_handle : Cond.instanceMethod yX10_handle ∈ WS := tb_5 (List.mem_of_getElem? (i := 14) rfl) rfl
theorem mv_X10_handle : Cond.selects yX10_handle.cls yX10_handle yX10_handle ∈ WS := tb_5 (List.mem_of_getElem? (i := 15) rfl) rfl
abbrev mm_X10_findHandle : MI := (yX10_findHandle, cX10_findHandle, 2, (some FieldType.boolean))
theorem mf_X10_findHandle : MF mm_X10_findHandle 0 := ⟨tb_5 (List.mem_of_getElem? (i := 20) rfl) rfl, it_X10, ⟨by decide, by decide⟩, by decide +kernel, by decide⟩
theorem mi_X10_findHandle : Cond.instanceMethod yX10_findHandle ∈ WS := tb_5 (List.mem_of_getElem? (i := 19) rfl) rfl
theorem mv_X10_findHandle : Cond.selects yX10_findHandle.cls yX10_findHandle yX10_findHandle ∈ WS := mem_WS (List.mem_append_left _ (List.mem_of_getElem? (i := 24) (by decide +kernel))) rfl
abbrev mm_X10_beginOf : MI := (yX10_beginOf, cX10_beginOf, 4, (some FieldType.int))
theorem mf_X10_beginOf : MF mm_X10_beginOf 1 := ⟨tb_5 (List.mem_of_getElem? (i := 24) rfl) rfl, it_X10, ⟨by decide, by decide⟩, by decide +kernel, by decide⟩
theorem mi_X10_beginOf : Cond.instanceMethod yX10_beginOf ∈ WS := tb_5 (List.mem_of_getElem? (i := 23) rfl) rfl
theorem mv_X10_beginOf : Cond.selects yX10_beginOf.cls yX10_beginOf yX10_beginOf ∈ WS := mem_WS (List.mem_append_left _ (List.mem_of_getElem? (i := 25) (by decide +kernel))) rfl
abbrev mm_X10_lengthBehind : MI := (yX10_lengthBehind, cX10_lengthBehind, 3, (some FieldType.int))
theorem mf_X10_lengthBehind : MF mm_X10_lengthBehind 0 := ⟨tb_5 (List.mem_of_getElem? (i := 28) rfl) rfl, it_X10, ⟨by decide, by decide⟩, by decide +kernel, by decide⟩
theorem mi_X10_lengthBehind : Cond.instanceMethod yX10_lengthBehind ∈ WS := tb_5 (List.mem_of_getElem? (i := 27) rfl) rfl
theorem mv_X10_lengthBehind : Cond.selects yX10_lengthBehind.cls yX10_lengthBehind yX10_lengthBehind ∈ WS := mem_WS (List.mem_append_left _ (List.mem_of_getElem? (i := 26) (by decide +kernel))) rfl
abbrev mm_X10_undoHandle : MI := (yX10_undoHandle, cX10_undoHandle, 6, none)
theorem mf_X10_undoHandle : MF mm_X10_undoHandle 0 := ⟨tb_5 (List.mem_of_getElem? (i := 32) rfl) rfl, it_X10, ⟨by decide, by decide⟩, by decide +kernel, by decide⟩
theorem mi_X10_undoHandle : Cond.instanceMethod yX10_undoHandle ∈ WS := tb_5 (List.mem_of_getElem? (i := 31) rfl) rfl
theorem mv_X10_undoHandle : Cond.selects yX10_undoHandle.cls yX10_undoHandle yX10_undoHandle ∈ WS := mem_WS (List.mem_append_left _ (List.mem_of_getElem? (i := 27) (by decide +kernel))) rfl
abbrev mm_X10_append : MI := (yX10_append, cX10_append, 2, (some FieldType.int))
theorem mf_X10_append : MF mm_X10_append 1 := ⟨tb_5 (List.mem_of_getElem? (i := 36) rfl) rfl, it_X10, ⟨by decide, by decide⟩, by decide +kernel, by decide⟩
theorem mi_X10_append : Cond.instanceMethod yX10_append ∈ WS := tb_5 (List.mem_of_getElem? (i := 34) rfl) rfl
theorem mv_X10_append : Cond.selects yX10_append.cls yX10_append yX10_append ∈ WS := tb_5 (List.mem_of_getElem? (i := 35) rfl) rfl
abbrev mm_X10_clearBuffer : MI := (yX10_clearBuffer, cX10_clearBuffer, 2, (some FieldType.int))
theorem mf_X10_clearBuffer : MF mm_X10_clearBuffer 0 := ⟨tb_5 (List.mem_of_getElem? (i := 40) rfl) rfl, it_X10, ⟨by decide, by decide⟩, by decide +kernel, by decide⟩
theorem mi_X10_clearBuffer : Cond.instanceMethod yX10_clearBuffer ∈ WS := tb_5 (List.mem_of_getElem? (i := 38) rfl) rfl
theorem mv_X10_clearBuffer : Cond.selects yX10_clearBuffer.cls yX10_clearBuffer yX10_clearBuffer ∈ WS := tb_5 (List.mem_of_getElem? (i := 39) rfl) rfl
abbrev mm_X10_firstError : MI := (yX10_firstError, cX10_firstError, 2, (some FieldType.int))
theorem mf_X10_firstError : MF mm_X10_firstError 0 := ⟨tb_5 (List.mem_of_getElem? (i := 44) rfl) rfl, it_X10, ⟨by decide, by decide⟩, by decide +kernel, by decide⟩
theorem mi_X10_firstError : Cond.instanceMethod yX10_firstError ∈ WS := tb_5 (List.mem_of_getElem? (i := 42) rfl) rfl
theorem mv_X10_firstError : Cond.selects yX10_firstError.cls yX10_firstError yX10_firstError ∈ WS := tb_5 (List.mem_of_getElem? (i := 43) rfl) rfl
abbrev mm_X10_findError : MI := (yX10_findError, cX10_findError, 2, (some FieldType.int))
theorem mf_X10_findError : MF mm_X10_findError 0 := ⟨tb_5 (List.mem_of_getElem? (i := 48) rfl) rfl, it_X10, ⟨by decide, by decide⟩, by decide +kernel, by decide⟩
theorem mi_X10_findError : Cond.instanceMethod yX10_findError ∈ WS := tb_5 (List.mem_of_getElem? (i := 47) rfl) rfl
theorem mv_X10_findError : Cond.selects yX10_findError.cls yX10_findError yX10_findError ∈ WS := mem_WS (List.mem_append_left _ (List.mem_of_getElem? (i := 28) (by decide +kernel))) rfl
abbrev mm_X10_readsPart : MI := (yX10_readsPart, cX10_readsPart, 5, (some FieldType.boolean))
theorem mf_X10_readsPart : MF mm_X10_readsPart 0 := ⟨tb_5 (List.mem_of_getElem? (i := 52) rfl) rfl, it_X10, ⟨by decide, by decide⟩, by decide +kernel, by decide⟩
theorem mi_X10_readsPart : Cond.instanceMethod yX10_readsPart ∈ WS := tb_5 (List.mem_of_getElem? (i := 51) rfl) rfl
theorem mv_X10_readsPart : Cond.selects yX10_readsPart.cls yX10_readsPart yX10_readsPart ∈ WS := mem_WS (List.mem_append_left _ (List.mem_of_getElem? (i := 29) (by decide +kernel))) rfl
abbrev mm_X10_nextCode : MI := (yX10_nextCode, cX10_nextCode, 1, (some FieldType.int))
theorem mf_X10_nextCode : MF mm_X10_nextCode 0 := ⟨tb_5 (List.mem_of_getElem? (i := 56) rfl) rfl, it_X10, ⟨by decide, by decide⟩, by decide +kernel, by decide⟩
theorem mi_X10_nextCode : Cond.instanceMethod yX10_nextCode ∈ WS := tb_5 (List.mem_of_getElem? (i := 55) rfl) rfl
theorem mv_X10_nextCode : Cond.selects yX10_nextCode.cls yX10_nextCode yX10_nextCode ∈ WS := mem_WS (List.mem_append_left _ (List.mem_of_getElem? (i := 30) (by decide +kernel))) rfl
abbrev mm_X10_lace : MI := (yX10_lace, cX10_lace, 4, (some FieldType.int))
theorem mf_X10_lace : MF mm_X10_lace 0 := ⟨tb_5 (List.mem_of_getElem? (i := 60) rfl) rfl, it_X10, ⟨by decide, by decide⟩, by decide +kernel, by decide⟩
theorem mi_X10_lace : Cond.instanceMethod yX10_lace ∈ WS := tb_5 (List.mem_of_getElem? (i := 58) rfl) rfl
theorem mv_X10_lace : Cond.selects yX10_lace.cls yX10_lace yX10_lace ∈ WS := tb_5 (List.mem_of_getElem? (i := 59) rfl) rfl
abbrev mm_X10_crossing : MI := (yX10_crossing, cX10_crossing, 2, (some FieldType.int))
theorem mf_X10_crossing : MF mm_X10_crossing 1 := ⟨tb_5 (List.mem_of_getElem? (i := 64) rfl) rfl, it_X10, ⟨by decide, by decide⟩, by decide +kernel, by decide⟩
theorem mi_X10_crossing : Cond.instanceMethod yX10_crossing ∈ WS := tb_5 (List.mem_of_getElem? (i := 62) rfl) rfl
theorem mv_X10_crossing : Cond.selects yX10_crossing.cls yX10_crossing yX10_crossing ∈ WS := tb_5 (List.mem_of_getElem? (i := 63) rfl) rfl
abbrev mm_X10_lies : MI := (yX10_lies, cX10_lies, 3, (some FieldType.int))
theorem mf_X10_lies : MF mm_X10_lies 2 := ⟨tb_5 (List.mem_of_getElem? (i := 68) rfl) rfl, it_X10, ⟨by decide, by decide⟩, by decide +kernel, by decide⟩
theorem mi_X10_lies : Cond.instanceMethod yX10_lies ∈ WS := tb_5 (List.mem_of_getElem? (i := 66) rfl) rfl
theorem mv_X10_lies : Cond.selects yX10_lies.cls yX10_lies yX10_lies ∈ WS := tb_5 (List.mem_of_getElem? (i := 67) rfl) rfl
abbrev mm_X10_laceAt : MI := (yX10_laceAt, cX10_laceAt, 3, (some FieldType.int))
theorem mf_X10_laceAt : MF mm_X10_laceAt 2 := ⟨tb_5 (List.mem_of_getElem? (i := 72) rfl) rfl, it_X10, ⟨by decide, by decide⟩, by decide +kernel, by decide⟩
theorem mi_X10_laceAt : Cond.instanceMethod yX10_laceAt ∈ WS := tb_5 (List.mem_of_getElem? (i := 71) rfl) rfl
theorem mv_X10_laceAt : Cond.selects yX10_laceAt.cls yX10_laceAt yX10_laceAt ∈ WS := mem_WS (List.mem_append_left _ (List.mem_of_getElem? (i := 31) (by decide +kernel))) rfl
abbrev mm_X10_layLaces : MI := (yX10_layLaces, cX10_layLaces, 5, none)
theorem mf_X10_layLaces : MF mm_X10_layLaces 1 := ⟨tb_5 (List.mem_of_getElem? (i := 76) rfl) rfl, it_X10, ⟨by decide, by decide⟩, by decide +kernel, by decide⟩
theorem mi_X10_layLaces : Cond.instanceMethod yX10_layLaces ∈ WS := tb_5 (List.mem_of_getElem? (i := 75) rfl) rfl
theorem mv_X10_layLaces : Cond.selects yX10_layLaces.cls yX10_layLaces yX10_layLaces ∈ WS := mem_WS (List.mem_append_left _ (List.mem_of_getElem? (i := 32) (by decide +kernel))) rfl
abbrev mm_X10_winding : MI := (yX10_winding, cX10_winding, 3, (some FieldType.int))
theorem mf_X10_winding : MF mm_X10_winding 2 := ⟨tb_5 (List.mem_of_getElem? (i := 80) rfl) rfl, it_X10, ⟨by decide, by decide⟩, by decide +kernel, by decide⟩
theorem mi_X10_winding : Cond.instanceMethod yX10_winding ∈ WS := tb_5 (List.mem_of_getElem? (i := 78) rfl) rfl
theorem mv_X10_winding : Cond.selects yX10_winding.cls yX10_winding yX10_winding ∈ WS := tb_5 (List.mem_of_getElem? (i := 79) rfl) rfl
abbrev mm_X10_windingOf : MI := (yX10_windingOf, cX10_windingOf, 9, (some FieldType.int))
theorem mf_X10_windingOf : MF mm_X10_windingOf 2 := ⟨tb_5 (List.mem_of_getElem? (i := 84) rfl) rfl, it_X10, ⟨by decide, by decide⟩, by decide +kernel, by decide⟩
theorem mi_X10_windingOf : Cond.instanceMethod yX10_windingOf ∈ WS := tb_5 (List.mem_of_getElem? (i := 83) rfl) rfl
theorem mv_X10_windingOf : Cond.selects yX10_windingOf.cls yX10_windingOf yX10_windingOf ∈ WS := mem_WS (List.mem_append_left _ (List.mem_of_getElem? (i := 33) (by decide +kernel))) rfl
abbrev mm_X10_measure : MI := (yX10_measure, cX10_measure, 3, (some FieldType.int))
theorem mf_X10_measure : MF mm_X10_measure 2 := ⟨tb_5 (List.mem_of_getElem? (i := 88) rfl) rfl, it_X10, ⟨by decide, by decide⟩, by decide +kernel, by decide⟩
theorem mi_X10_measure : Cond.instanceMethod yX10_measure ∈ WS := tb_5 (List.mem_of_getElem? (i := 86) rfl) rfl
theorem mv_X10_measure : Cond.selects yX10_measure.cls yX10_measure yX10_measure ∈ WS := tb_5 (List.mem_of_getElem? (i := 87) rfl) rfl
abbrev mm_X10_areCells : MI := (yX10_areCells, cX10_areCells, 2, (some FieldType.boolean))
theorem mf_X10_areCells : MF mm_X10_areCells 2 := ⟨tb_5 (List.mem_of_getElem? (i := 91) rfl) rfl, it_X10, ⟨by decide, by decide⟩, by decide +kernel, by decide⟩
theorem ms_X10_areCells : Cond.static yX10_areCells ∈ WS := tb_5 (List.mem_of_getElem? (i := 90) rfl) rfl
abbrev mm_X10_multiply : MI := (yX10_multiply, cX10_multiply, 5, none)
theorem mf_X10_multiply : MF mm_X10_multiply 0 := ⟨tb_5 (List.mem_of_getElem? (i := 95) rfl) rfl, it_X10, ⟨by decide, by decide⟩, by decide +kernel, by decide⟩
theorem mi_X10_multiply : Cond.instanceMethod yX10_multiply ∈ WS := tb_5 (List.mem_of_getElem? (i := 94) rfl) rfl
theorem mv_X10_multiply : Cond.selects yX10_multiply.cls yX10_multiply yX10_multiply ∈ WS := mem_WS (List.mem_append_left _ (List.mem_of_getElem? (i := 34) (by decide +kernel))) rfl
abbrev mm_X10_layUnit : MI := (yX10_layUnit, cX10_layUnit, 2, none)
theorem mf_X10_layUnit : MF mm_X10_layUnit 0 := ⟨tb_5 (List.mem_of_getElem? (i := 99) rfl) rfl, it_X10, ⟨by decide, by decide⟩, by decide +kernel, by decide⟩
theorem mi_X10_layUnit : Cond.instanceMethod yX10_layUnit ∈ WS := tb_5 (List.mem_of_getElem? (i := 98) rfl) rfl
theorem mv_X10_layUnit : Cond.selects yX10_layUnit.cls yX10_layUnit yX10_layUnit ∈ WS := mem_WS (List.mem_append_left _ (List.mem_of_getElem? (i := 35) (by decide +kernel))) rfl
abbrev mm_X10_tableOf : MI := (yX10_tableOf, cX10_tableOf, 6, (some FieldType.int))
theorem mf_X10_tableOf : MF mm_X10_tableOf 3 := ⟨tb_5 (List.mem_of_getElem? (i := 102) rfl) rfl, it_X10, ⟨by decide, by decide⟩, by decide +kernel, by decide⟩
theorem ms_X10_tableOf : Cond.static yX10_tableOf ∈ WS := tb_5 (List.mem_of_getElem? (i := 101) rfl) rfl
abbrev mm_X10_keepProduct : MI := (yX10_keepProduct, cX10_keepProduct, 2, none)
theorem mf_X10_keepProduct : MF mm_X10_keepProduct 0 := ⟨tb_5 (List.mem_of_getElem? (i := 106) rfl) rfl, it_X10, ⟨by decide, by decide⟩, by decide +kernel, by decide⟩
theorem mi_X10_keepProduct : Cond.instanceMethod yX10_keepProduct ∈ WS := tb_5 (List.mem_of_getElem? (i := 105) rfl) rfl
theorem mv_X10_keepProduct : Cond.selects yX10_keepProduct.cls yX10_keepProduct yX10_keepProduct ∈ WS := mem_WS (List.mem_append_left _ (List.mem_of_getElem? (i := 36) (by decide +kernel))) rfl
abbrev mm_X10_halved : MI := (yX10_halved, cX10_halved, 3, (some FieldType.int))
theorem mf_X10_halved : MF mm_X10_halved 2 := ⟨tb_5 (List.mem_of_getElem? (i := 110) rfl) rfl, it_X10, ⟨by decide, by decide⟩, by decide +kernel, by decide⟩
theorem mi_X10_halved : Cond.instanceMethod yX10_halved ∈ WS := tb_5 (List.mem_of_getElem? (i := 108) rfl) rfl
theorem mv_X10_halved : Cond.selects yX10_halved.cls yX10_halved yX10_halved ∈ WS := tb_5 (List.mem_of_getElem? (i := 109) rfl) rfl
abbrev mm_X10_multiplyBack : MI := (yX10_multiplyBack, cX10_multiplyBack, 5, none)
theorem mf_X10_multiplyBack : MF mm_X10_multiplyBack 0 := ⟨tb_5 (List.mem_of_getElem? (i := 114) rfl) rfl, it_X10, ⟨by decide, by decide⟩, by decide +kernel, by decide⟩
theorem mi_X10_multiplyBack : Cond.instanceMethod yX10_multiplyBack ∈ WS := tb_5 (List.mem_of_getElem? (i := 113) rfl) rfl
theorem mv_X10_multiplyBack : Cond.selects yX10_multiplyBack.cls yX10_multiplyBack yX10_multiplyBack ∈ WS := mem_WS (List.mem_append_left _ (List.mem_of_getElem? (i := 37) (by decide +kernel))) rfl
abbrev mm_X10_count : MI := (yX10_count, cX10_count, 2, (some FieldType.int))
theorem mf_X10_count : MF mm_X10_count 1 := ⟨tb_5 (List.mem_of_getElem? (i := 118) rfl) rfl, it_X10, ⟨by decide, by decide⟩, by decide +kernel, by decide⟩
theorem mi_X10_count : Cond.instanceMethod yX10_count ∈ WS := tb_5 (List.mem_of_getElem? (i := 116) rfl) rfl
theorem mv_X10_count : Cond.selects yX10_count.cls yX10_count yX10_count ∈ WS := tb_5 (List.mem_of_getElem? (i := 117) rfl) rfl
abbrev mm_X10_tellsCount : MI := (yX10_tellsCount, cX10_tellsCount, 2, (some FieldType.int))
theorem mf_X10_tellsCount : MF mm_X10_tellsCount 1 := ⟨tb_5 (List.mem_of_getElem? (i := 122) rfl) rfl, it_X10, ⟨by decide, by decide⟩, by decide +kernel, by decide⟩
theorem mi_X10_tellsCount : Cond.instanceMethod yX10_tellsCount ∈ WS := tb_5 (List.mem_of_getElem? (i := 121) rfl) rfl
theorem mv_X10_tellsCount : Cond.selects yX10_tellsCount.cls yX10_tellsCount yX10_tellsCount ∈ WS := mem_WS (List.mem_append_left _ (List.mem_of_getElem? (i := 38) (by decide +kernel))) rfl
abbrev mm_X10_positives : MI := (yX10_positives, cX10_positives, 3, (some FieldType.int))
theorem mf_X10_positives : MF mm_X10_positives 0 := ⟨tb_5 (List.mem_of_getElem? (i := 126) rfl) rfl, it_X10, ⟨by decide, by decide⟩, by decide +kernel, by decide⟩
theorem mi_X10_positives : Cond.instanceMethod yX10_positives ∈ WS := tb_5 (List.mem_of_getElem? (i := 125) rfl) rfl
theorem mv_X10_positives : Cond.selects yX10_positives.cls yX10_positives yX10_positives ∈ WS := mem_WS (List.mem_append_left _ (List.mem_of_getElem? (i := 39) (by decide +kernel))) rfl
abbrev mm_X10_ranks : MI := (yX10_ranks, cX10_ranks, 3, (some FieldType.int))
theorem mf_X10_ranks : MF mm_X10_ranks 0 := ⟨tb_5 (List.mem_of_getElem? (i := 130) rfl) rfl, it_X10, ⟨by decide, by decide⟩, by decide +kernel, by decide⟩
theorem mi_X10_ranks : Cond.instanceMethod yX10_ranks ∈ WS := tb_5 (List.mem_of_getElem? (i := 129) rfl) rfl
theorem mv_X10_ranks : Cond.selects yX10_ranks.cls yX10_ranks yX10_ranks ∈ WS := mem_WS (List.mem_append_left _ (List.mem_of_getElem? (i := 40) (by decide +kernel))) rfl
abbrev mm_X10_whyNot : MI := (yX10_whyNot, cX10_whyNot, 3, (some FieldType.int))
theorem mf_X10_whyNot : MF mm_X10_whyNot 2 := ⟨tb_5 (List.mem_of_getElem? (i := 134) rfl) rfl, it_X10, ⟨by decide, by decide⟩, by decide +kernel, by decide⟩
theorem mi_X10_whyNot : Cond.instanceMethod yX10_whyNot ∈ WS := tb_5 (List.mem_of_getElem? (i := 132) rfl) rfl
theorem mv_X10_whyNot : Cond.selects yX10_whyNot.cls yX10_whyNot yX10_whyNot ∈ WS := tb_5 (List.mem_of_getElem? (i := 133) rfl) rfl
abbrev mm_X10_untangled : MI := (yX10_untangled, cX10_untangled, 2, (some FieldType.int))
theorem mf_X10_untangled : MF mm_X10_untangled 1 := ⟨tb_5 (List.mem_of_getElem? (i := 138) rfl) rfl, it_X10, ⟨by decide, by decide⟩, by decide +kernel, by decide⟩
theorem mi_X10_untangled : Cond.instanceMethod yX10_untangled ∈ WS := tb_5 (List.mem_of_getElem? (i := 136) rfl) rfl
theorem mv_X10_untangled : Cond.selects yX10_untangled.cls yX10_untangled yX10_untangled ∈ WS := tb_5 (List.mem_of_getElem? (i := 137) rfl) rfl
abbrev mm_X10_tellsUntangled : MI := (yX10_tellsUntangled, cX10_tellsUntangled, 2, (some FieldType.int))
theorem mf_X10_tellsUntangled : MF mm_X10_tellsUntangled 1 := ⟨tb_5 (List.mem_of_getElem? (i := 142) rfl) rfl, it_X10, ⟨by decide, by decide⟩, by decide +kernel, by decide⟩
theorem mi_X10_tellsUntangled : Cond.instanceMethod yX10_tellsUntangled ∈ WS := tb_5 (List.mem_of_getElem? (i := 141) rfl) rfl
theorem mv_X10_tellsUntangled : Cond.selects yX10_tellsUntangled.cls yX10_tellsUntangled yX10_tellsUntangled ∈ WS := mem_WS (List.mem_append_left _ (List.mem_of_getElem? (i := 41) (by decide +kernel))) rfl
abbrev mm_X10_untangle : MI := (yX10_untangle, cX10_untangle, 1, (some FieldType.boolean))
theorem mf_X10_untangle : MF mm_X10_untangle 0 := ⟨tb_5 (List.mem_of_getElem? (i := 146) rfl) rfl, it_X10, ⟨by decide, by decide⟩, by decide +kernel, by decide⟩
theorem mi_X10_untangle : Cond.instanceMethod yX10_untangle ∈ WS := tb_5 (List.mem_of_getElem? (i := 145) rfl) rfl
theorem mv_X10_untangle : Cond.selects yX10_untangle.cls yX10_untangle yX10_untangle ∈ WS := mem_WS (List.mem_append_left _ (List.mem_of_getElem? (i := 42) (by decide +kernel))) rfl
abbrev mm_X10_leaning : MI := (yX10_leaning, cX10_leaning, 3, (some FieldType.int))
theorem mf_X10_leaning : MF mm_X10_leaning 0 := ⟨tb_5 (List.mem_of_getElem? (i := 150) rfl) rfl, it_X10, ⟨by decide, by decide⟩, by decide +kernel, by decide⟩
theorem mi_X10_leaning : Cond.instanceMethod yX10_leaning ∈ WS := tb_5 (List.mem_of_getElem? (i := 149) rfl) rfl
theorem mv_X10_leaning : Cond.selects yX10_leaning.cls yX10_leaning yX10_leaning ∈ WS := mem_WS (List.mem_append_left _ (List.mem_of_getElem? (i := 43) (by decide +kernel))) rfl
abbrev mm_X10_left : MI := (yX10_left, cX10_left, 2, (some FieldType.int))
theorem mf_X10_left : MF mm_X10_left 1 := ⟨tb_5 (List.mem_of_getElem? (i := 154) rfl) rfl, it_X10, ⟨by decide, by decide⟩, by decide +kernel, by decide⟩
theorem mi_X10_left : Cond.instanceMethod yX10_left ∈ WS := tb_5 (List.mem_of_getElem? (i := 152) rfl) rfl
theorem mv_X10_left : Cond.selects yX10_left.cls yX10_left yX10_left ∈ WS := tb_5 (List.mem_of_getElem? (i := 153) rfl) rfl
abbrev mm_X10_tellsLeft : MI := (yX10_tellsLeft, cX10_tellsLeft, 2, (some FieldType.int))
theorem mf_X10_tellsLeft : MF mm_X10_tellsLeft 1 := ⟨tb_5 (List.mem_of_getElem? (i := 158) rfl) rfl, it_X10, ⟨by decide, by decide⟩, by decide +kernel, by decide⟩
theorem mi_X10_tellsLeft : Cond.instanceMethod yX10_tellsLeft ∈ WS := tb_5 (List.mem_of_getElem? (i := 157) rfl) rfl
theorem mv_X10_tellsLeft : Cond.selects yX10_tellsLeft.cls yX10_tellsLeft yX10_tellsLeft ∈ WS := mem_WS (List.mem_append_left _ (List.mem_of_getElem? (i := 44) (by decide +kernel))) rfl
abbrev mm_X10_same : MI := (yX10_same, cX10_same, 1, (some FieldType.int))
theorem mf_X10_same : MF mm_X10_same 0 := ⟨tb_5 (List.mem_of_getElem? (i := 162) rfl) rfl, it_X10, ⟨by decide, by decide⟩, by decide +kernel, by decide⟩
theorem mi_X10_same : Cond.instanceMethod yX10_same ∈ WS := tb_5 (List.mem_of_getElem? (i := 160) rfl) rfl
theorem mv_X10_same : Cond.selects yX10_same.cls yX10_same yX10_same ∈ WS := tb_5 (List.mem_of_getElem? (i := 161) rfl) rfl
abbrev mm_X10_tellsSame : MI := (yX10_tellsSame, cX10_tellsSame, 2, (some FieldType.int))
theorem mf_X10_tellsSame : MF mm_X10_tellsSame 0 := ⟨tb_5 (List.mem_of_getElem? (i := 166) rfl) rfl, it_X10, ⟨by decide, by decide⟩, by decide +kernel, by decide⟩
theorem mi_X10_tellsSame : Cond.instanceMethod yX10_tellsSame ∈ WS := tb_5 (List.mem_of_getElem? (i := 165) rfl) rfl
theorem mv_X10_tellsSame : Cond.selects yX10_tellsSame.cls yX10_tellsSame yX10_tellsSame ∈ WS := mem_WS (List.mem_append_left _ (List.mem_of_getElem? (i := 45) (by decide +kernel))) rfl
abbrev mm_X10_possible : MI := (yX10_possible, cX10_possible, 2, (some FieldType.int))
theorem mf_X10_possible : MF mm_X10_possible 1 := ⟨tb_5 (List.mem_of_getElem? (i := 170) rfl) rfl, it_X10, ⟨by decide, by decide⟩, by decide +kernel, by decide⟩
theorem mi_X10_possible : Cond.instanceMethod yX10_possible ∈ WS := tb_5 (List.mem_of_getElem? (i := 168) rfl) rfl
theorem mv_X10_possible : Cond.selects yX10_possible.cls yX10_possible yX10_possible ∈ WS := tb_5 (List.mem_of_getElem? (i := 169) rfl) rfl
abbrev mm_X10_tellsPossible : MI := (yX10_tellsPossible, cX10_tellsPossible, 2, (some FieldType.int))
theorem mf_X10_tellsPossible : MF mm_X10_tellsPossible 1 := ⟨tb_5 (List.mem_of_getElem? (i := 174) rfl) rfl, it_X10, ⟨by decide, by decide⟩, by decide +kernel, by decide⟩
theorem mi_X10_tellsPossible : Cond.instanceMethod yX10_tellsPossible ∈ WS := tb_5 (List.mem_of_getElem? (i := 173) rfl) rfl
theorem mv_X10_tellsPossible : Cond.selects yX10_tellsPossible.cls yX10_tellsPossible yX10_tellsPossible ∈ WS := mem_WS (List.mem_append_left _ (List.mem_of_getElem? (i := 46) (by decide +kernel))) rfl
abbrev mm_X10_possibleIn : MI := (yX10_possibleIn, cX10_possibleIn, 4, (some FieldType.int))
theorem mf_X10_possibleIn : MF mm_X10_possibleIn 1 := ⟨tb_5 (List.mem_of_getElem? (i := 178) rfl) rfl, it_X10, ⟨by decide, by decide⟩, by decide +kernel, by decide⟩
theorem mi_X10_possibleIn : Cond.instanceMethod yX10_possibleIn ∈ WS := tb_5 (List.mem_of_getElem? (i := 177) rfl) rfl
theorem mv_X10_possibleIn : Cond.selects yX10_possibleIn.cls yX10_possibleIn yX10_possibleIn ∈ WS := mem_WS (List.mem_append_left _ (List.mem_of_getElem? (i := 47) (by decide +kernel))) rfl
abbrev mm_X10_bestMove : MI := (yX10_bestMove, cX10_bestMove, 1, (some FieldType.int))
theorem mf_X10_bestMove : MF mm_X10_bestMove 0 := ⟨tb_5 (List.mem_of_getElem? (i := 182) rfl) rfl, it_X10, ⟨by decide, by decide⟩, by decide +kernel, by decide⟩
theorem mi_X10_bestMove : Cond.instanceMethod yX10_bestMove ∈ WS := tb_5 (List.mem_of_getElem? (i := 180) rfl) rfl
theorem mv_X10_bestMove : Cond.selects yX10_bestMove.cls yX10_bestMove yX10_bestMove ∈ WS := tb_5 (List.mem_of_getElem? (i := 181) rfl) rfl
abbrev mm_X10_tellsBest : MI := (yX10_tellsBest, cX10_tellsBest, 4, (some FieldType.int))
theorem mf_X10_tellsBest : MF mm_X10_tellsBest 0 := ⟨tb_5 (List.mem_of_getElem? (i := 186) rfl) rfl, it_X10, ⟨by decide, by decide⟩, by decide +kernel, by decide⟩
theorem mi_X10_tellsBest : Cond.instanceMethod yX10_tellsBest ∈ WS := tb_5 (List.mem_of_getElem? (i := 185) rfl) rfl
theorem mv_X10_tellsBest : Cond.selects yX10_tellsBest.cls yX10_tellsBest yX10_tellsBest ∈ WS := mem_WS (List.mem_append_left _ (List.mem_of_getElem? (i := 48) (by decide +kernel))) rfl
abbrev mm_X10_slack : MI := (yX10_slack, cX10_slack, 1, (some FieldType.double))
theorem mf_X10_slack : MF mm_X10_slack 0 := ⟨tb_5 (List.mem_of_getElem? (i := 190) rfl) rfl, it_X10, ⟨by decide, by decide⟩, by decide +kernel, by decide⟩
theorem mi_X10_slack : Cond.instanceMethod yX10_slack ∈ WS := tb_5 (List.mem_of_getElem? (i := 188) rfl) rfl
theorem mv_X10_slack : Cond.selects yX10_slack.cls yX10_slack yX10_slack ∈ WS := tb_5 (List.mem_of_getElem? (i := 189) rfl) rfl
abbrev mm_X10_share : MI := (yX10_share, cX10_share, 1, (some FieldType.double))
theorem mf_X10_share : MF mm_X10_share 0 := ⟨tb_5 (List.mem_of_getElem? (i := 194) rfl) rfl, it_X10, ⟨by decide, by decide⟩, by decide +kernel, by decide⟩
theorem mi_X10_share : Cond.instanceMethod yX10_share ∈ WS := tb_5 (List.mem_of_getElem? (i := 193) rfl) rfl
theorem mv_X10_share : Cond.selects yX10_share.cls yX10_share yX10_share ∈ WS := mem_WS (List.mem_append_left _ (List.mem_of_getElem? (i := 49) (by decide +kernel))) rfl
abbrev mm_X10_digest : MI := (yX10_digest, cX10_digest, 3, (some FieldType.long))
theorem mf_X10_digest : MF mm_X10_digest 0 := ⟨tb_5 (List.mem_of_getElem? (i := 198) rfl) rfl, it_X10, ⟨by decide, by decide⟩, by decide +kernel, by decide⟩
theorem mi_X10_digest : Cond.instanceMethod yX10_digest ∈ WS := tb_5 (List.mem_of_getElem? (i := 196) rfl) rfl
theorem mv_X10_digest : Cond.selects yX10_digest.cls yX10_digest yX10_digest ∈ WS := tb_5 (List.mem_of_getElem? (i := 197) rfl) rfl
abbrev mm_X10_mix : MI := (yX10_mix, cX10_mix, 3, none)
theorem mf_X10_mix : MF mm_X10_mix 1 := ⟨tb_5 (List.mem_of_getElem? (i := 203) rfl) rfl, it_X10, ⟨by decide, by decide⟩, by decide +kernel, by decide⟩
theorem mi_X10_mix : Cond.instanceMethod yX10_mix ∈ WS := tb_5 (List.mem_of_getElem? (i := 202) rfl) rfl
theorem mv_X10_mix : Cond.selects yX10_mix.cls yX10_mix yX10_mix ∈ WS := mem_WS (List.mem_append_left _ (List.mem_of_getElem? (i := 50) (by decide +kernel))) rfl
abbrev mm_X10_mixMeasure : MI := (yX10_mixMeasure, cX10_mixMeasure, 2, none)
theorem mf_X10_mixMeasure : MF mm_X10_mixMeasure 0 := ⟨tb_5 (List.mem_of_getElem? (i := 208) rfl) rfl, it_X10, ⟨by decide, by decide⟩, by decide +kernel, by decide⟩
theorem mi_X10_mixMeasure : Cond.instanceMethod yX10_mixMeasure ∈ WS := tb_5 (List.mem_of_getElem? (i := 207) rfl) rfl
theorem mv_X10_mixMeasure : Cond.selects yX10_mixMeasure.cls yX10_mixMeasure yX10_mixMeasure ∈ WS := mem_WS (List.mem_append_left _ (List.mem_of_getElem? (i := 51) (by decide +kernel))) rfl
abbrev mm_Jxe99ae_doubleToLongBits_ccdee : MI := (yJxe99ae_doubleToLongBits_ccdee, cJxe99ae_doubleToLongBits_ccdee, 2, (some FieldType.long))
theorem mf_Jxe99ae_doubleToLongBits_ccdee : MF mm_Jxe99ae_doubleToLongBits_ccdee 1 := ⟨tb_5 (List.mem_of_getElem? (i := 211) rfl) rfl, it_Jxe99ae, ⟨by decide, by decide⟩, by decide +kernel, by decide⟩
theorem ms_Jxe99ae_doubleToLongBits_ccdee : Cond.static yJxe99ae_doubleToLongBits_ccdee ∈ WS := tb_5 (List.mem_of_getElem? (i := 210) rfl) rfl
abbrev mm_Jxe99ae_isNaN_b9ae7 : MI := (yJxe99ae_isNaN_b9ae7, cJxe99ae_isNaN_b9ae7, 2, (some FieldType.boolean))
theorem mf_Jxe99ae_isNaN_b9ae7 : MF mm_Jxe99ae_isNaN_b9ae7 1 := ⟨tb_5 (List.mem_of_getElem? (i := 214) rfl) rfl, it_Jxe99ae, ⟨by decide, by decide⟩, by decide +kernel, by decide⟩
theorem ms_Jxe99ae_isNaN_b9ae7 : Cond.static yJxe99ae_isNaN_b9ae7 ∈ WS := tb_5 (List.mem_of_getElem? (i := 213) rfl) rfl
theorem mi_Object : Cond.instanceMethod Lib.objectInit ∈ WS := tb_1 (List.mem_of_getElem? (i := 26) rfl) rfl
theorem mc_Object : Cond.code Lib.objectInit ⟨#[0xb1]⟩ 1 none ∈ WS := tb_1 (List.mem_of_getElem? (i := 27) rfl) rfl
theorem lk_L_78 : Cond.methodLink RL 78 yX9_init ∈ WS := tb_1 (List.mem_of_getElem? (i := 22) rfl) rfl
theorem lo_X9_1 : Cond.methodLink RX9 1 Lib.objectInit ∈ WS := tb_1 (List.mem_of_getElem? (i := 25) rfl) rfl
theorem lk_X9_9 : Cond.methodLink RX9 9 yX6_init ∈ WS := tb_1 (List.mem_of_getElem? (i := 30) rfl) rfl
theorem lo_X6_3 : Cond.methodLink RX6 3 Lib.objectInit ∈ WS := tb_1 (List.mem_of_getElem? (i := 33) rfl) rfl
theorem lk_X6_11 : Cond.methodLink RX6 11 yX5_init ∈ WS := tb_1 (List.mem_of_getElem? (i := 36) rfl) rfl
theorem lo_X5_1 : Cond.methodLink RX5 1 Lib.objectInit ∈ WS := tb_1 (List.mem_of_getElem? (i := 39) rfl) rfl
theorem lk_X9_25 : Cond.methodLink RX9 25 yX1_init ∈ WS := tb_1 (List.mem_of_getElem? (i := 65) rfl) rfl
theorem lo_X1_3 : Cond.methodLink RX1 3 Lib.objectInit ∈ WS := tb_1 (List.mem_of_getElem? (i := 68) rfl) rfl
theorem lk_X1_17 : Cond.methodLink RX1 17 yX6_init ∈ WS := tb_1 (List.mem_of_getElem? (i := 71) rfl) rfl
theorem lk_X9_32 : Cond.methodLink RX9 32 yX7_init ∈ WS := tb_1 (List.mem_of_getElem? (i := 85) rfl) rfl
theorem lo_X7_3 : Cond.methodLink RX7 3 Lib.objectInit ∈ WS := tb_1 (List.mem_of_getElem? (i := 88) rfl) rfl
theorem lk_X9_39 : Cond.methodLink RX9 39 yX2_init ∈ WS := tb_1 (List.mem_of_getElem? (i := 99) rfl) rfl
theorem lo_X2_3 : Cond.methodLink RX2 3 Lib.objectInit ∈ WS := tb_1 (List.mem_of_getElem? (i := 102) rfl) rfl
theorem lk_X9_46 : Cond.methodLink RX9 46 yX3_init ∈ WS := tb_1 (List.mem_of_getElem? (i := 112) rfl) rfl
theorem lo_X3_3 : Cond.methodLink RX3 3 Lib.objectInit ∈ WS := tb_1 (List.mem_of_getElem? (i := 115) rfl) rfl
theorem lk_X9_53 : Cond.methodLink RX9 53 yX0_init ∈ WS := tb_1 (List.mem_of_getElem? (i := 133) rfl) rfl
theorem lo_X0_3 : Cond.methodLink RX0 3 Lib.objectInit ∈ WS := tb_1 (List.mem_of_getElem? (i := 136) rfl) rfl
theorem lk_X9_60 : Cond.methodLink RX9 60 yX8_init ∈ WS := tb_1 (List.mem_of_getElem? (i := 151) rfl) rfl
theorem lo_X8_3 : Cond.methodLink RX8 3 Lib.objectInit ∈ WS := tb_1 (List.mem_of_getElem? (i := 154) rfl) rfl
theorem lk_X8_11 : Cond.methodLink RX8 11 yX5_init ∈ WS := tb_1 (List.mem_of_getElem? (i := 156) rfl) rfl
theorem lk_X8_25 : Cond.methodLink RX8 25 yX0_init ∈ WS := tb_1 (List.mem_of_getElem? (i := 158) rfl) rfl
theorem lk_X9_67 : Cond.methodLink RX9 67 yX5_init ∈ WS := tb_1 (List.mem_of_getElem? (i := 181) rfl) rfl
theorem lk_L_102 : LK RL 102 mm_X9_pull := Or.inl (tb_1 (List.mem_of_getElem? (i := 213) rfl) rfl)
theorem lk_X9_97 : LK RX9 97 mm_X1_save := Or.inl (tb_1 (List.mem_of_getElem? (i := 217) rfl) rfl)
theorem lk_X1_25 : LK RX1 25 mm_X1_slotAt := Or.inl (tb_1 (List.mem_of_getElem? (i := 221) rfl) rfl)
theorem lk_X1_29 : LK RX1 29 mm_X6_become := Or.inl (tb_1 (List.mem_of_getElem? (i := 225) rfl) rfl)
theorem lk_X6_24 : LK RX6 24 mm_X5_become := Or.inl (tb_1 (List.mem_of_getElem? (i := 229) rfl) rfl)
theorem lk_X5_25 : LK RX5 25 mm_X5_empty := Or.inl (tb_1 (List.mem_of_getElem? (i := 233) rfl) rfl)
theorem lk_X5_28 : LK RX5 28 mm_X5_addAll := Or.inl (tb_1 (List.mem_of_getElem? (i := 237) rfl) rfl)
theorem lk_X5_17 : LK RX5 17 mm_X5_at := Or.inl (tb_2 (List.mem_of_getElem? (i := 1) rfl) rfl)
theorem lk_X5_21 : LK RX5 21 mm_X5_add := Or.inl (tb_2 (List.mem_of_getElem? (i := 5) rfl) rfl)
theorem lk_X9_138 : LK RX9 138 mm_X5_cancelAll := Or.inl (tb_2 (List.mem_of_getElem? (i := 9) rfl) rfl)
theorem lk_L_106 : LK RL 106 mm_X9_turn := Or.inl (tb_2 (List.mem_of_getElem? (i := 13) rfl) rfl)
theorem lk_X9_142 : LK RX9 142 mm_X5_empty := Or.inl (tb_2 (List.mem_of_getElem? (i := 17) rfl) rfl)
theorem lk_X9_145 : LK RX9 145 mm_X5_addTurned := Or.inl (tb_2 (List.mem_of_getElem? (i := 18) rfl) rfl)
theorem lk_X9_149 : LK RX9 149 mm_X5_become := Or.inl (tb_2 (List.mem_of_getElem? (i := 22) rfl) rfl)
theorem lk_X9_152 : LK RX9 152 mm_X5_twist := Or.inl (tb_2 (List.mem_of_getElem? (i := 23) rfl) rfl)
theorem lk_X5_36 : LK RX5 36 mm_X5_overFromLeft := Or.inl (tb_2 (List.mem_of_getElem? (i := 27) rfl) rfl)
theorem lk_L_116 : LK RL 116 mm_X9_clearBuffer := Or.inl (tb_2 (List.mem_of_getElem? (i := 31) rfl) rfl)
theorem lk_L_120 : LK RL 120 mm_X9_firstError := Or.inl (tb_2 (List.mem_of_getElem? (i := 35) rfl) rfl)
theorem lk_X9_178 : LK RX9 178 mm_X7_firstWrong := Or.inl (tb_2 (List.mem_of_getElem? (i := 39) rfl) rfl)
theorem lk_X7_19 : LK RX7 19 mm_X7_codeAt := Or.inl (tb_2 (List.mem_of_getElem? (i := 43) rfl) rfl)
theorem lk_X7_23 : LK RX7 23 mm_X7_crossingOf := Or.inl (tb_2 (List.mem_of_getElem? (i := 47) rfl) rfl)
theorem lk_X7_26 : LK RX7 26 mm_X7_figureOf := Or.inl (tb_2 (List.mem_of_getElem? (i := 50) rfl) rfl)
theorem lk_L_130 : LK RL 130 mm_X9_keep := Or.inl (tb_2 (List.mem_of_getElem? (i := 53) rfl) rfl)
theorem lk_X9_198 : LK RX9 198 mm_X6_become := Or.inl (tb_2 (List.mem_of_getElem? (i := 57) rfl) rfl)
theorem lk_L_170 : LK RL 170 mm_X9_bestMove := Or.inl (tb_2 (List.mem_of_getElem? (i := 58) rfl) rfl)
theorem lk_X9_278 : LK RX9 278 mm_X4_placesFor := Or.inl (tb_2 (List.mem_of_getElem? (i := 62) rfl) rfl)
theorem lk_X4_43 : LK RX4 43 mm_X4_reasonAgainst := Or.inl (tb_2 (List.mem_of_getElem? (i := 65) rfl) rfl)
theorem lk_X4_15 : LK RX4 15 mm_X5_at := Or.inl (tb_2 (List.mem_of_getElem? (i := 68) rfl) rfl)
theorem lk_X4_19 : LK RX4 19 mm_X4_againstCancel := Or.inl (tb_2 (List.mem_of_getElem? (i := 69) rfl) rfl)
theorem lk_X4_25 : LK RX4 25 mm_X9_rankOf := Or.inr ⟨"LaceTangles", tb_2 (List.mem_of_getElem? (i := 72) rfl) rfl⟩
theorem lk_X4_32 : LK RX4 32 mm_X9_signOf := Or.inr ⟨"LaceTangles", tb_2 (List.mem_of_getElem? (i := 75) rfl) rfl⟩
theorem lk_X4_28 : LK RX4 28 mm_X4_againstThree := Or.inl (tb_2 (List.mem_of_getElem? (i := 78) rfl) rfl)
theorem lk_X9_115 : LK RX9 115 mm_X4_reasonAgainst := Or.inl (tb_2 (List.mem_of_getElem? (i := 81) rfl) rfl)
theorem lk_X9_281 : LK RX9 281 mm_X9_pairsBehind := Or.inl (tb_2 (List.mem_of_getElem? (i := 82) rfl) rfl)
theorem lk_X9_123 : LK RX9 123 mm_X4_make := Or.inl (tb_2 (List.mem_of_getElem? (i := 86) rfl) rfl)
theorem lk_X4_35 : LK RX4 35 mm_X5_removePair := Or.inl (tb_2 (List.mem_of_getElem? (i := 89) rfl) rfl)
theorem lk_X5_32 : LK RX5 32 mm_X5_put := Or.inl (tb_2 (List.mem_of_getElem? (i := 93) rfl) rfl)
theorem lk_X4_39 : LK RX4 39 mm_X5_put := Or.inl (tb_2 (List.mem_of_getElem? (i := 97) rfl) rfl)
theorem lk_L_174 : LK RL 174 mm_X9_slack := Or.inl (tb_2 (List.mem_of_getElem? (i := 98) rfl) rfl)
theorem lk_L_179 : LK RL 179 mm_X9_digest := Or.inl (tb_2 (List.mem_of_getElem? (i := 102) rfl) rfl)
theorem lk_X9_247 : LK RX9 247 mm_X9_countOf := Or.inl (tb_2 (List.mem_of_getElem? (i := 107) rfl) rfl)
theorem lk_X9_322 : LK RX9 322 mm_X5_overFromLeft := Or.inl (tb_2 (List.mem_of_getElem? (i := 111) rfl) rfl)
theorem lk_X9_325 : LK RX9 325 mm_X5_rankMask := Or.inl (tb_2 (List.mem_of_getElem? (i := 112) rfl) rfl)
theorem lk_X5_40 : LK RX5 40 mm_X9_rankOf := Or.inr ⟨"LaceTangles", tb_2 (List.mem_of_getElem? (i := 116) rfl) rfl⟩
theorem lk_X9_155 : LK RX9 155 mm_X0_findIn := Or.inl (tb_2 (List.mem_of_getElem? (i := 117) rfl) rfl)
theorem lk_X0_22 : LK RX0 22 mm_X0_forget := Or.inl (tb_2 (List.mem_of_getElem? (i := 121) rfl) rfl)
theorem lk_X0_30 : LK RX0 30 mm_X5_at := Or.inl (tb_2 (List.mem_of_getElem? (i := 125) rfl) rfl)
theorem lk_X0_34 : LK RX0 34 mm_X9_rankOf := Or.inr ⟨"LaceTangles", tb_2 (List.mem_of_getElem? (i := 126) rfl) rfl⟩
theorem lk_X9_286 : LK RX9 286 mm_X9_mixed := Or.inl (tb_2 (List.mem_of_getElem? (i := 127) rfl) rfl)
theorem lk_X9_204 : LK RX9 204 mm_X9_crossingOrNone := Or.inl (tb_2 (List.mem_of_getElem? (i := 131) rfl) rfl)
theorem lk_X9_106 : LK RX9 106 mm_X5_at := Or.inl (tb_2 (List.mem_of_getElem? (i := 134) rfl) rfl)
theorem lk_X9_290 : LK RX9 290 mm_X9_withLaces := Or.inl (tb_2 (List.mem_of_getElem? (i := 135) rfl) rfl)
theorem lk_X9_218 : LK RX9 218 mm_X2_follow := Or.inl (tb_2 (List.mem_of_getElem? (i := 139) rfl) rfl)
theorem lk_X2_24 : LK RX2 24 mm_X5_at := Or.inl (tb_2 (List.mem_of_getElem? (i := 143) rfl) rfl)
theorem lk_X2_28 : LK RX2 28 mm_X2_change := Or.inl (tb_2 (List.mem_of_getElem? (i := 144) rfl) rfl)
theorem lk_X2_32 : LK RX2 32 mm_X9_rankOf := Or.inr ⟨"LaceTangles", tb_2 (List.mem_of_getElem? (i := 148) rfl) rfl⟩
theorem lk_X2_35 : LK RX2 35 mm_X9_signOf := Or.inr ⟨"LaceTangles", tb_2 (List.mem_of_getElem? (i := 149) rfl) rfl⟩
theorem lk_X2_38 : LK RX2 38 mm_X2_addTo := Or.inl (tb_2 (List.mem_of_getElem? (i := 150) rfl) rfl)
theorem lk_X2_42 : LK RX2 42 mm_X9_isLace := Or.inr ⟨"LaceTangles", tb_2 (List.mem_of_getElem? (i := 154) rfl) rfl⟩
theorem lk_X9_222 : LK RX9 222 mm_X2_laceAt := Or.inl (tb_2 (List.mem_of_getElem? (i := 157) rfl) rfl)
theorem lk_X9_227 : LK RX9 227 mm_X2_sumOf := Or.inl (tb_2 (List.mem_of_getElem? (i := 161) rfl) rfl)
theorem lk_X9_294 : LK RX9 294 mm_X9_withMeasures := Or.inl (tb_2 (List.mem_of_getElem? (i := 165) rfl) rfl)
theorem lk_X9_233 : LK RX9 233 mm_X3_reckonInOrder := Or.inl (tb_2 (List.mem_of_getElem? (i := 169) rfl) rfl)
theorem lk_X3_26 : LK RX3 26 mm_X3_fillWithNone := Or.inl (tb_2 (List.mem_of_getElem? (i := 173) rfl) rfl)
theorem lk_X3_36 : LK RX3 36 mm_X5_at := Or.inl (tb_2 (List.mem_of_getElem? (i := 176) rfl) rfl)
theorem lk_X3_40 : LK RX3 40 mm_X3_fillWithOne := Or.inl (tb_2 (List.mem_of_getElem? (i := 177) rfl) rfl)
theorem lk_X3_56 : LK RX3 56 mm_X9_rankOf := Or.inr ⟨"LaceTangles", tb_2 (List.mem_of_getElem? (i := 180) rfl) rfl⟩
theorem lk_X3_44 : LK RX3 44 mm_X3_multiply := Or.inl (tb_2 (List.mem_of_getElem? (i := 181) rfl) rfl)
theorem lk_X9_239 : LK RX9 239 mm_X3_reckonByHalves := Or.inl (tb_2 (List.mem_of_getElem? (i := 184) rfl) rfl)
theorem lk_X3_48 : LK RX3 48 mm_X3_halve := Or.inl (tb_2 (List.mem_of_getElem? (i := 188) rfl) rfl)
theorem lk_X9_236 : LK RX9 236 mm_X3_inOrder := Or.inl (tb_2 (List.mem_of_getElem? (i := 191) rfl) rfl)
theorem lk_X3_52 : LK RX3 52 mm_X9_isLace := Or.inr ⟨"LaceTangles", tb_2 (List.mem_of_getElem? (i := 195) rfl) rfl⟩
theorem lk_X9_242 : LK RX9 242 mm_X3_byHalves := Or.inl (tb_2 (List.mem_of_getElem? (i := 196) rfl) rfl)
theorem lk_X9_297 : LK RX9 297 mm_X9_withUntangled := Or.inl (tb_2 (List.mem_of_getElem? (i := 200) rfl) rfl)
theorem lk_X9_252 : LK RX9 252 mm_X9_untangleNow := Or.inl (tb_2 (List.mem_of_getElem? (i := 204) rfl) rfl)
theorem lk_X9_261 : LK RX9 261 mm_X8_begin := Or.inl (tb_2 (List.mem_of_getElem? (i := 208) rfl) rfl)
theorem lk_X8_41 : LK RX8 41 mm_X5_empty := Or.inl (tb_2 (List.mem_of_getElem? (i := 212) rfl) rfl)
theorem lk_X9_267 : LK RX9 267 mm_X5_addAll := Or.inl (tb_2 (List.mem_of_getElem? (i := 213) rfl) rfl)
theorem lk_X9_270 : LK RX9 270 mm_X8_untangle := Or.inl (tb_2 (List.mem_of_getElem? (i := 214) rfl) rfl)
theorem lk_X8_47 : LK RX8 47 mm_X0_findIn := Or.inl (tb_2 (List.mem_of_getElem? (i := 218) rfl) rfl)
theorem lk_X8_51 : LK RX8 51 mm_X0_lengthWithout := Or.inl (tb_2 (List.mem_of_getElem? (i := 219) rfl) rfl)
theorem lk_X8_55 : LK RX8 55 mm_X8_undoOne := Or.inl (tb_2 (List.mem_of_getElem? (i := 223) rfl) rfl)
theorem lk_X8_58 : LK RX8 58 mm_X0_takeOut := Or.inl (tb_2 (List.mem_of_getElem? (i := 227) rfl) rfl)
theorem lk_X0_37 : LK RX0 37 mm_X9_signOf := Or.inr ⟨"LaceTangles", tb_2 (List.mem_of_getElem? (i := 231) rfl) rfl⟩
theorem lk_X0_40 : LK RX0 40 mm_X5_empty := Or.inl (tb_2 (List.mem_of_getElem? (i := 232) rfl) rfl)
theorem lk_X0_43 : LK RX0 43 mm_X5_add := Or.inl (tb_2 (List.mem_of_getElem? (i := 233) rfl) rfl)
theorem lk_X8_62 : LK RX8 62 mm_J9_max_7cf53 := Or.inl (tb_2 (List.mem_of_getElem? (i := 234) rfl) rfl)
theorem lk_X9_255 : LK RX9 255 mm_X8_answer := Or.inl (tb_2 (List.mem_of_getElem? (i := 237) rfl) rfl)
theorem lk_X8_68 : LK RX8 68 mm_X8_leaning := Or.inl (tb_3 (List.mem_of_getElem? (i := 1) rfl) rfl)
theorem lk_X8_72 : LK RX8 72 mm_X5_signOfLowestRank := Or.inl (tb_3 (List.mem_of_getElem? (i := 5) rfl) rfl)
theorem lk_X5_45 : LK RX5 45 mm_X9_signOf := Or.inr ⟨"LaceTangles", tb_3 (List.mem_of_getElem? (i := 9) rfl) rfl⟩
theorem lk_X9_258 : LK RX9 258 mm_X8_leftAt := Or.inl (tb_3 (List.mem_of_getElem? (i := 10) rfl) rfl)
theorem lk_X8_75 : LK RX8 75 mm_X9_crossingOrNone := Or.inr ⟨"LaceTangles", tb_3 (List.mem_of_getElem? (i := 14) rfl) rfl⟩
theorem lk_X9_300 : LK RX9 300 mm_X9_bestMove := Or.inl (tb_3 (List.mem_of_getElem? (i := 15) rfl) rfl)
theorem lk_X9_303 : LK RX9 303 mm_X9_slack := Or.inl (tb_3 (List.mem_of_getElem? (i := 16) rfl) rfl)
theorem lk_X9_307 : LK RX9 307 mm_X9_bitsOfShare := Or.inl (tb_3 (List.mem_of_getElem? (i := 17) rfl) rfl)
theorem lk_X9_311 : LK RX9 311 mm_X7_codeAt := Or.inl (tb_3 (List.mem_of_getElem? (i := 23) rfl) rfl)
theorem lk_L_7 : LK RL 7 mm_X9_cross := Or.inl (tb_3 (List.mem_of_getElem? (i := 29) rfl) rfl)
theorem lk_X9_74 : LK RX9 74 mm_X9_isCrossing := Or.inl (tb_3 (List.mem_of_getElem? (i := 33) rfl) rfl)
theorem lk_X9_101 : LK RX9 101 mm_X5_add := Or.inl (tb_3 (List.mem_of_getElem? (i := 120) rfl) rfl)
theorem lk_L_17 : LK RL 17 mm_X9_open := Or.inl (tb_3 (List.mem_of_getElem? (i := 124) rfl) rfl)
theorem lk_L_21 : LK RL 21 mm_X9_move := Or.inl (tb_3 (List.mem_of_getElem? (i := 132) rfl) rfl)
theorem lk_X9_110 : LK RX9 110 mm_X9_isMove := Or.inl (tb_3 (List.mem_of_getElem? (i := 136) rfl) rfl)
theorem lk_L_25 : LK RL 25 mm_X9_pair := Or.inl (tb_3 (List.mem_of_getElem? (i := 144) rfl) rfl)
theorem lk_X9_134 : LK RX9 134 mm_X5_insertPair := Or.inl (tb_3 (List.mem_of_getElem? (i := 150) rfl) rfl)
theorem lk_L_28 : LK RL 28 mm_X9_handle := Or.inl (tb_3 (List.mem_of_getElem? (i := 157) rfl) rfl)
theorem lk_X9_161 : LK RX9 161 mm_X0_lengthWithout := Or.inl (tb_3 (List.mem_of_getElem? (i := 162) rfl) rfl)
theorem lk_X9_167 : LK RX9 167 mm_X0_takeOut := Or.inl (tb_3 (List.mem_of_getElem? (i := 164) rfl) rfl)
theorem lk_L_31 : LK RL 31 mm_X9_append := Or.inl (tb_3 (List.mem_of_getElem? (i := 168) rfl) rfl)
theorem lk_X9_176 : LK RX9 176 mm_X7_add := Or.inl (tb_3 (List.mem_of_getElem? (i := 174) rfl) rfl)
theorem lk_L_34 : LK RL 34 mm_X9_lace := Or.inl (tb_3 (List.mem_of_getElem? (i := 181) rfl) rfl)
theorem lk_X9_181 : LK RX9 181 mm_X7_isTangle := Or.inl (tb_3 (List.mem_of_getElem? (i := 185) rfl) rfl)
theorem lk_X7_29 : LK RX7 29 mm_X7_firstWrong := Or.inl (tb_3 (List.mem_of_getElem? (i := 189) rfl) rfl)
theorem lk_X9_187 : LK RX9 187 mm_X7_putBehind := Or.inl (tb_3 (List.mem_of_getElem? (i := 191) rfl) rfl)
theorem lk_X7_33 : LK RX7 33 mm_X7_addTimes := Or.inl (tb_3 (List.mem_of_getElem? (i := 195) rfl) rfl)
theorem lk_X7_37 : LK RX7 37 mm_X5_add := Or.inl (tb_3 (List.mem_of_getElem? (i := 198) rfl) rfl)
theorem lk_L_37 : LK RL 37 mm_X9_undo := Or.inl (tb_3 (List.mem_of_getElem? (i := 202) rfl) rfl)
theorem lk_X9_195 : LK RX9 195 mm_X1_takeBack := Or.inl (tb_3 (List.mem_of_getElem? (i := 207) rfl) rfl)
theorem lk_L_40 : LK RL 40 mm_X9_restore := Or.inl (tb_3 (List.mem_of_getElem? (i := 214) rfl) rfl)
theorem lk_L_43 : LK RL 43 mm_X9_crossing := Or.inl (tb_3 (List.mem_of_getElem? (i := 222) rfl) rfl)
theorem lk_L_46 : LK RL 46 mm_X9_lies := Or.inl (tb_3 (List.mem_of_getElem? (i := 231) rfl) rfl)
theorem lk_X9_208 : LK RX9 208 mm_X9_isLace := Or.inl (tb_3 (List.mem_of_getElem? (i := 235) rfl) rfl)
theorem lk_L_51 : LK RL 51 mm_X9_winding := Or.inl (tb_4 (List.mem_of_getElem? (i := 16) rfl) rfl)
theorem lk_L_54 : LK RL 54 mm_X9_measure := Or.inl (tb_4 (List.mem_of_getElem? (i := 24) rfl) rfl)
theorem lk_L_57 : LK RL 57 mm_X9_halved := Or.inl (tb_4 (List.mem_of_getElem? (i := 32) rfl) rfl)
theorem lk_L_60 : LK RL 60 mm_X9_count := Or.inl (tb_4 (List.mem_of_getElem? (i := 39) rfl) rfl)
theorem lk_L_63 : LK RL 63 mm_X9_whyNot := Or.inl (tb_4 (List.mem_of_getElem? (i := 47) rfl) rfl)
theorem lk_L_66 : LK RL 66 mm_X9_untangled := Or.inl (tb_4 (List.mem_of_getElem? (i := 54) rfl) rfl)
theorem lk_L_69 : LK RL 69 mm_X9_left := Or.inl (tb_4 (List.mem_of_getElem? (i := 62) rfl) rfl)
theorem lk_L_72 : LK RL 72 mm_X9_same := Or.inl (tb_4 (List.mem_of_getElem? (i := 69) rfl) rfl)
theorem lk_L_75 : LK RL 75 mm_X9_possible := Or.inl (tb_4 (List.mem_of_getElem? (i := 76) rfl) rfl)
theorem lk_L_81 : Cond.methodLink RL 81 yX10_init ∈ WS := tb_4 (List.mem_of_getElem? (i := 83) rfl) rfl
theorem lo_X10_1 : Cond.methodLink RX10 1 Lib.objectInit ∈ WS := tb_4 (List.mem_of_getElem? (i := 86) rfl) rfl
theorem lk_L_88 : LK RL 88 mm_X10_thrown := Or.inl (tb_4 (List.mem_of_getElem? (i := 154) rfl) rfl)
theorem lk_L_129 : LK RL 129 mm_X10_undo := Or.inl (tb_4 (List.mem_of_getElem? (i := 158) rfl) rfl)
theorem lk_X10_52 : LK RX10 52 mm_X10_fails := Or.inl (tb_4 (List.mem_of_getElem? (i := 162) rfl) rfl)
theorem lk_L_133 : LK RL 133 mm_X10_keep := Or.inl (tb_4 (List.mem_of_getElem? (i := 166) rfl) rfl)
theorem lk_L_136 : LK RL 136 mm_X10_restore := Or.inl (tb_4 (List.mem_of_getElem? (i := 170) rfl) rfl)
theorem lk_X10_56 : LK RX10 56 mm_X10_save := Or.inl (tb_4 (List.mem_of_getElem? (i := 174) rfl) rfl)
theorem lk_L_87 : LK RL 87 mm_X10_cross := Or.inl (tb_4 (List.mem_of_getElem? (i := 178) rfl) rfl)
theorem lk_X10_108 : LK RX10 108 mm_X10_isCrossing := Or.inl (tb_4 (List.mem_of_getElem? (i := 182) rfl) rfl)
theorem lk_X10_45 : LK RX10 45 mm_X10_within := Or.inl (tb_4 (List.mem_of_getElem? (i := 185) rfl) rfl)
theorem lk_L_94 : LK RL 94 mm_X10_open := Or.inl (tb_4 (List.mem_of_getElem? (i := 188) rfl) rfl)
theorem lk_X10_62 : LK RX10 62 mm_X10_of := Or.inl (tb_4 (List.mem_of_getElem? (i := 192) rfl) rfl)
theorem lk_L_98 : LK RL 98 mm_X10_move := Or.inl (tb_4 (List.mem_of_getElem? (i := 196) rfl) rfl)
theorem lk_X10_112 : LK RX10 112 mm_X10_isMove := Or.inl (tb_4 (List.mem_of_getElem? (i := 200) rfl) rfl)
theorem lk_X10_115 : LK RX10 115 mm_X10_takeRow := Or.inl (tb_4 (List.mem_of_getElem? (i := 203) rfl) rfl)
theorem lk_X10_78 : LK RX10 78 mm_X10_reason := Or.inl (tb_4 (List.mem_of_getElem? (i := 207) rfl) rfl)
theorem lk_X10_65 : LK RX10 65 mm_X10_lengthOf := Or.inl (tb_4 (List.mem_of_getElem? (i := 211) rfl) rfl)
theorem lk_X10_68 : LK RX10 68 mm_X10_rankOf := Or.inl (tb_4 (List.mem_of_getElem? (i := 215) rfl) rfl)
theorem lk_X10_71 : LK RX10 71 mm_X10_signOf := Or.inl (tb_4 (List.mem_of_getElem? (i := 218) rfl) rfl)
theorem lk_X10_118 : LK RX10 118 mm_X10_makeMove := Or.inl (tb_4 (List.mem_of_getElem? (i := 221) rfl) rfl)
theorem lk_X10_74 : LK RX10 74 mm_X10_dropTwo := Or.inl (tb_4 (List.mem_of_getElem? (i := 225) rfl) rfl)
theorem lk_X10_122 : LK RX10 122 mm_X10_giveRow := Or.inl (tb_4 (List.mem_of_getElem? (i := 229) rfl) rfl)
theorem lk_L_101 : LK RL 101 mm_X10_pair := Or.inl (tb_4 (List.mem_of_getElem? (i := 233) rfl) rfl)
theorem lk_L_105 : LK RL 105 mm_X10_pull := Or.inl (tb_4 (List.mem_of_getElem? (i := 237) rfl) rfl)
theorem lk_X10_125 : LK RX10 125 mm_X10_pullRow := Or.inl (tb_5 (List.mem_of_getElem? (i := 1) rfl) rfl)
theorem lk_L_109 : LK RL 109 mm_X10_turn := Or.inl (tb_5 (List.mem_of_getElem? (i := 5) rfl) rfl)
theorem lk_X10_128 : LK RX10 128 mm_X10_twist := Or.inl (tb_5 (List.mem_of_getElem? (i := 9) rfl) rfl)
theorem lk_L_112 : LK RL 112 mm_X10_handle := Or.inl (tb_5 (List.mem_of_getElem? (i := 13) rfl) rfl)
theorem lk_X10_97 : LK RX10 97 mm_X10_findHandle := Or.inl (tb_5 (List.mem_of_getElem? (i := 17) rfl) rfl)
theorem lk_X10_82 : LK RX10 82 mm_X10_beginOf := Or.inl (tb_5 (List.mem_of_getElem? (i := 21) rfl) rfl)
theorem lk_X10_101 : LK RX10 101 mm_X10_lengthBehind := Or.inl (tb_5 (List.mem_of_getElem? (i := 25) rfl) rfl)
theorem lk_X10_105 : LK RX10 105 mm_X10_undoHandle := Or.inl (tb_5 (List.mem_of_getElem? (i := 29) rfl) rfl)
theorem lk_L_115 : LK RL 115 mm_X10_append := Or.inl (tb_5 (List.mem_of_getElem? (i := 33) rfl) rfl)
theorem lk_L_119 : LK RL 119 mm_X10_clearBuffer := Or.inl (tb_5 (List.mem_of_getElem? (i := 37) rfl) rfl)
theorem lk_L_123 : LK RL 123 mm_X10_firstError := Or.inl (tb_5 (List.mem_of_getElem? (i := 41) rfl) rfl)
theorem lk_X10_149 : LK RX10 149 mm_X10_findError := Or.inl (tb_5 (List.mem_of_getElem? (i := 45) rfl) rfl)
theorem lk_X10_146 : LK RX10 146 mm_X10_readsPart := Or.inl (tb_5 (List.mem_of_getElem? (i := 49) rfl) rfl)
theorem lk_X10_137 : LK RX10 137 mm_X10_nextCode := Or.inl (tb_5 (List.mem_of_getElem? (i := 53) rfl) rfl)
theorem lk_L_126 : LK RL 126 mm_X10_lace := Or.inl (tb_5 (List.mem_of_getElem? (i := 57) rfl) rfl)
theorem lk_L_139 : LK RL 139 mm_X10_crossing := Or.inl (tb_5 (List.mem_of_getElem? (i := 61) rfl) rfl)
theorem lk_L_142 : LK RL 142 mm_X10_lies := Or.inl (tb_5 (List.mem_of_getElem? (i := 65) rfl) rfl)
theorem lk_X10_155 : LK RX10 155 mm_X10_laceAt := Or.inl (tb_5 (List.mem_of_getElem? (i := 69) rfl) rfl)
theorem lk_X10_152 : LK RX10 152 mm_X10_layLaces := Or.inl (tb_5 (List.mem_of_getElem? (i := 73) rfl) rfl)
theorem lk_L_145 : LK RL 145 mm_X10_winding := Or.inl (tb_5 (List.mem_of_getElem? (i := 77) rfl) rfl)
theorem lk_X10_158 : LK RX10 158 mm_X10_windingOf := Or.inl (tb_5 (List.mem_of_getElem? (i := 81) rfl) rfl)
theorem lk_L_148 : LK RL 148 mm_X10_measure := Or.inl (tb_5 (List.mem_of_getElem? (i := 85) rfl) rfl)
theorem lk_X10_171 : LK RX10 171 mm_X10_areCells := Or.inl (tb_5 (List.mem_of_getElem? (i := 89) rfl) rfl)
theorem lk_X10_175 : LK RX10 175 mm_X10_multiply := Or.inl (tb_5 (List.mem_of_getElem? (i := 92) rfl) rfl)
theorem lk_X10_161 : LK RX10 161 mm_X10_layUnit := Or.inl (tb_5 (List.mem_of_getElem? (i := 96) rfl) rfl)
theorem lk_X10_164 : LK RX10 164 mm_X10_tableOf := Or.inl (tb_5 (List.mem_of_getElem? (i := 100) rfl) rfl)
theorem lk_X10_168 : LK RX10 168 mm_X10_keepProduct := Or.inl (tb_5 (List.mem_of_getElem? (i := 103) rfl) rfl)
theorem lk_L_151 : LK RL 151 mm_X10_halved := Or.inl (tb_5 (List.mem_of_getElem? (i := 107) rfl) rfl)
theorem lk_X10_178 : LK RX10 178 mm_X10_multiplyBack := Or.inl (tb_5 (List.mem_of_getElem? (i := 111) rfl) rfl)
theorem lk_L_154 : LK RL 154 mm_X10_count := Or.inl (tb_5 (List.mem_of_getElem? (i := 115) rfl) rfl)
theorem lk_X10_187 : LK RX10 187 mm_X10_tellsCount := Or.inl (tb_5 (List.mem_of_getElem? (i := 119) rfl) rfl)
theorem lk_X10_181 : LK RX10 181 mm_X10_positives := Or.inl (tb_5 (List.mem_of_getElem? (i := 123) rfl) rfl)
theorem lk_X10_184 : LK RX10 184 mm_X10_ranks := Or.inl (tb_5 (List.mem_of_getElem? (i := 127) rfl) rfl)
theorem lk_L_157 : LK RL 157 mm_X10_whyNot := Or.inl (tb_5 (List.mem_of_getElem? (i := 131) rfl) rfl)
theorem lk_L_160 : LK RL 160 mm_X10_untangled := Or.inl (tb_5 (List.mem_of_getElem? (i := 135) rfl) rfl)
theorem lk_X10_196 : LK RX10 196 mm_X10_tellsUntangled := Or.inl (tb_5 (List.mem_of_getElem? (i := 139) rfl) rfl)
theorem lk_X10_190 : LK RX10 190 mm_X10_untangle := Or.inl (tb_5 (List.mem_of_getElem? (i := 143) rfl) rfl)
theorem lk_X10_193 : LK RX10 193 mm_X10_leaning := Or.inl (tb_5 (List.mem_of_getElem? (i := 147) rfl) rfl)
theorem lk_L_163 : LK RL 163 mm_X10_left := Or.inl (tb_5 (List.mem_of_getElem? (i := 151) rfl) rfl)
theorem lk_X10_199 : LK RX10 199 mm_X10_tellsLeft := Or.inl (tb_5 (List.mem_of_getElem? (i := 155) rfl) rfl)
theorem lk_L_166 : LK RL 166 mm_X10_same := Or.inl (tb_5 (List.mem_of_getElem? (i := 159) rfl) rfl)
theorem lk_X10_202 : LK RX10 202 mm_X10_tellsSame := Or.inl (tb_5 (List.mem_of_getElem? (i := 163) rfl) rfl)
theorem lk_L_169 : LK RL 169 mm_X10_possible := Or.inl (tb_5 (List.mem_of_getElem? (i := 167) rfl) rfl)
theorem lk_X10_208 : LK RX10 208 mm_X10_tellsPossible := Or.inl (tb_5 (List.mem_of_getElem? (i := 171) rfl) rfl)
theorem lk_X10_205 : LK RX10 205 mm_X10_possibleIn := Or.inl (tb_5 (List.mem_of_getElem? (i := 175) rfl) rfl)
theorem lk_L_173 : LK RL 173 mm_X10_bestMove := Or.inl (tb_5 (List.mem_of_getElem? (i := 179) rfl) rfl)
theorem lk_X10_211 : LK RX10 211 mm_X10_tellsBest := Or.inl (tb_5 (List.mem_of_getElem? (i := 183) rfl) rfl)
theorem lk_L_178 : LK RL 178 mm_X10_slack := Or.inl (tb_5 (List.mem_of_getElem? (i := 187) rfl) rfl)
theorem lk_X10_214 : LK RX10 214 mm_X10_share := Or.inl (tb_5 (List.mem_of_getElem? (i := 191) rfl) rfl)
theorem lk_L_183 : LK RL 183 mm_X10_digest := Or.inl (tb_5 (List.mem_of_getElem? (i := 195) rfl) rfl)
theorem lk_X10_224 : LK RX10 224 mm_X10_mix := Or.inl (tb_5 (List.mem_of_getElem? (i := 200) rfl) rfl)
theorem lk_X10_230 : LK RX10 230 mm_X10_mixMeasure := Or.inl (tb_5 (List.mem_of_getElem? (i := 205) rfl) rfl)
theorem lk_X10_233 : LK RX10 233 mm_Jxe99ae_doubleToLongBits_ccdee := Or.inl (tb_5 (List.mem_of_getElem? (i := 209) rfl) rfl)
theorem lk_Jxe99ae_122 : LK RJxe99ae 122 mm_Jxe99ae_isNaN_b9ae7 := Or.inl (tb_5 (List.mem_of_getElem? (i := 212) rfl) rfl)
theorem fg_X5_7 : FL RX5 7 4 0 := ⟨RX5, TX5, 2, tyX5, rfl, in_X5, tyX5_ok, nmX5, by decide, Or.inl (tb_1 (List.mem_of_getElem? (i := 40) rfl) rfl)⟩
theorem fp_X5_7 : FPF RX5 7 4 0 (.array .int) := ⟨RX5, TX5, 2, tyX5, rfl, in_X5, tyX5_ok, nmX5, by decide, tb_1 (List.mem_of_getElem? (i := 40) rfl) rfl, rfl, rfl, by decide +kernel⟩
theorem fg_X5_13 : FL RX5 13 4 1 := ⟨RX5, TX5, 2, tyX5, rfl, in_X5, tyX5_ok, nmX5, by decide, Or.inl (tb_1 (List.mem_of_getElem? (i := 41) rfl) rfl)⟩
theorem fp_X5_13 : FP RX5 13 4 1 (.int) := ⟨RX5, TX5, 2, tyX5, rfl, in_X5, tyX5_ok, nmX5, by decide, tb_1 (List.mem_of_getElem? (i := 41) rfl) rfl, rfl, by decide +kernel⟩
theorem fg_X0_25 : FL RX0 25 4 1 := ⟨RX5, TX5, 2, tyX5, rfl, in_X5, tyX5_ok, nmX5, by decide, Or.inr ⟨"LaceTangles", tb_1 (List.mem_of_getElem? (i := 42) rfl) rfl⟩⟩
theorem fg_X3_30 : FL RX3 30 4 1 := ⟨RX5, TX5, 2, tyX5, rfl, in_X5, tyX5_ok, nmX5, by decide, Or.inr ⟨"LaceTangles", tb_1 (List.mem_of_getElem? (i := 43) rfl) rfl⟩⟩
theorem fg_X4_9 : FL RX4 9 4 1 := ⟨RX5, TX5, 2, tyX5, rfl, in_X5, tyX5_ok, nmX5, by decide, Or.inr ⟨"LaceTangles", tb_1 (List.mem_of_getElem? (i := 44) rfl) rfl⟩⟩
theorem fg_X9_88 : FL RX9 88 4 1 := ⟨RX5, TX5, 2, tyX5, rfl, in_X5, tyX5_ok, nmX5, by decide, Or.inr ⟨"LaceTangles", tb_1 (List.mem_of_getElem? (i := 45) rfl) rfl⟩⟩
theorem fp_X9_88 : FPN RX9 88 4 1 (.int) := ⟨RX5, TX5, 2, tyX5, rfl, in_X5, tyX5_ok, nmX5, by decide, ⟨"LaceTangles", tb_1 (List.mem_of_getElem? (i := 45) rfl) rfl⟩, rfl, by decide +kernel⟩
theorem fg_X2_18 : FL RX2 18 4 1 := ⟨RX5, TX5, 2, tyX5, rfl, in_X5, tyX5_ok, nmX5, by decide, Or.inr ⟨"LaceTangles", tb_1 (List.mem_of_getElem? (i := 46) rfl) rfl⟩⟩
theorem fg_X8_44 : FL RX8 44 4 1 := ⟨RX5, TX5, 2, tyX5, rfl, in_X5, tyX5_ok, nmX5, by decide, Or.inr ⟨"LaceTangles", tb_1 (List.mem_of_getElem? (i := 47) rfl) rfl⟩⟩
theorem fg_X6_14 : FL RX6 14 5 0 := ⟨RX6, TX6, 2, tyX6, rfl, in_X6, tyX6_ok, nmX6, by decide, Or.inl (tb_1 (List.mem_of_getElem? (i := 54) rfl) rfl)⟩
theorem fp_X6_14 : FPF RX6 14 5 0 (.object "LaceTangles$Row") := ⟨RX6, TX6, 2, tyX6, rfl, in_X6, tyX6_ok, nmX6, by decide, tb_1 (List.mem_of_getElem? (i := 54) rfl) rfl, rfl, rfl, by decide +kernel⟩
theorem fg_X9_85 : FL RX9 85 5 0 := ⟨RX6, TX6, 2, tyX6, rfl, in_X6, tyX6_ok, nmX6, by decide, Or.inr ⟨"LaceTangles", tb_1 (List.mem_of_getElem? (i := 55) rfl) rfl⟩⟩
theorem fg_X6_20 : FL RX6 20 5 1 := ⟨RX6, TX6, 2, tyX6, rfl, in_X6, tyX6_ok, nmX6, by decide, Or.inl (tb_1 (List.mem_of_getElem? (i := 56) rfl) rfl)⟩
theorem fp_X6_20 : FP RX6 20 5 1 (.int) := ⟨RX6, TX6, 2, tyX6, rfl, in_X6, tyX6_ok, nmX6, by decide, tb_1 (List.mem_of_getElem? (i := 56) rfl) rfl, rfl, by decide +kernel⟩
theorem fg_X9_127 : FL RX9 127 5 1 := ⟨RX6, TX6, 2, tyX6, rfl, in_X6, tyX6_ok, nmX6, by decide, Or.inr ⟨"LaceTangles", tb_1 (List.mem_of_getElem? (i := 57) rfl) rfl⟩⟩
theorem fp_X9_127 : FPN RX9 127 5 1 (.int) := ⟨RX6, TX6, 2, tyX6, rfl, in_X6, tyX6_ok, nmX6, by decide, ⟨"LaceTangles", tb_1 (List.mem_of_getElem? (i := 57) rfl) rfl⟩, rfl, by decide +kernel⟩
theorem fg_X1_11 : FL RX1 11 1 0 := ⟨RX1, TX1, 3, tyX1, rfl, in_X1, tyX1_ok, nmX1, by decide, Or.inl (tb_1 (List.mem_of_getElem? (i := 72) rfl) rfl)⟩
theorem fp_X1_11 : FPF RX1 11 1 0 (.array (.object "LaceTangles$State")) := ⟨RX1, TX1, 3, tyX1, rfl, in_X1, tyX1_ok, nmX1, by decide, tb_1 (List.mem_of_getElem? (i := 72) rfl) rfl, rfl, rfl, by decide +kernel⟩
theorem fg_X1_18 : FL RX1 18 1 1 := ⟨RX1, TX1, 3, tyX1, rfl, in_X1, tyX1_ok, nmX1, by decide, Or.inl (tb_1 (List.mem_of_getElem? (i := 73) rfl) rfl)⟩
theorem fp_X1_18 : FP RX1 18 1 1 (.int) := ⟨RX1, TX1, 3, tyX1, rfl, in_X1, tyX1_ok, nmX1, by decide, tb_1 (List.mem_of_getElem? (i := 73) rfl) rfl, rfl, by decide +kernel⟩
theorem fg_X1_22 : FL RX1 22 1 2 := ⟨RX1, TX1, 3, tyX1, rfl, in_X1, tyX1_ok, nmX1, by decide, Or.inl (tb_1 (List.mem_of_getElem? (i := 74) rfl) rfl)⟩
theorem fp_X1_22 : FP RX1 22 1 2 (.int) := ⟨RX1, TX1, 3, tyX1, rfl, in_X1, tyX1_ok, nmX1, by decide, tb_1 (List.mem_of_getElem? (i := 74) rfl) rfl, rfl, by decide +kernel⟩
theorem fg_X9_190 : FL RX9 190 1 2 := ⟨RX1, TX1, 3, tyX1, rfl, in_X1, tyX1_ok, nmX1, by decide, Or.inr ⟨"LaceTangles", tb_1 (List.mem_of_getElem? (i := 75) rfl) rfl⟩⟩
theorem fg_X7_9 : FL RX7 9 6 0 := ⟨RX7, TX7, 2, tyX7, rfl, in_X7, tyX7_ok, nmX7, by decide, Or.inl (tb_1 (List.mem_of_getElem? (i := 89) rfl) rfl)⟩
theorem fp_X7_9 : FPF RX7 9 6 0 (.array .int) := ⟨RX7, TX7, 2, tyX7, rfl, in_X7, tyX7_ok, nmX7, by decide, tb_1 (List.mem_of_getElem? (i := 89) rfl) rfl, rfl, rfl, by decide +kernel⟩
theorem fg_X7_15 : FL RX7 15 6 1 := ⟨RX7, TX7, 2, tyX7, rfl, in_X7, tyX7_ok, nmX7, by decide, Or.inl (tb_1 (List.mem_of_getElem? (i := 90) rfl) rfl)⟩
theorem fp_X7_15 : FP RX7 15 6 1 (.int) := ⟨RX7, TX7, 2, tyX7, rfl, in_X7, tyX7_ok, nmX7, by decide, tb_1 (List.mem_of_getElem? (i := 90) rfl) rfl, rfl, by decide +kernel⟩
theorem fg_X9_173 : FL RX9 173 6 1 := ⟨RX7, TX7, 2, tyX7, rfl, in_X7, tyX7_ok, nmX7, by decide, Or.inr ⟨"LaceTangles", tb_1 (List.mem_of_getElem? (i := 91) rfl) rfl⟩⟩
theorem fp_X9_173 : FPN RX9 173 6 1 (.int) := ⟨RX7, TX7, 2, tyX7, rfl, in_X7, tyX7_ok, nmX7, by decide, ⟨"LaceTangles", tb_1 (List.mem_of_getElem? (i := 91) rfl) rfl⟩, rfl, by decide +kernel⟩
theorem fg_X2_9 : FL RX2 9 2 0 := ⟨RX2, TX2, 2, tyX2, rfl, in_X2, tyX2_ok, nmX2, by decide, Or.inl (tb_1 (List.mem_of_getElem? (i := 103) rfl) rfl)⟩
theorem fp_X2_9 : FPF RX2 9 2 0 (.array .int) := ⟨RX2, TX2, 2, tyX2, rfl, in_X2, tyX2_ok, nmX2, by decide, tb_1 (List.mem_of_getElem? (i := 103) rfl) rfl, rfl, rfl, by decide +kernel⟩
theorem fg_X2_15 : FL RX2 15 2 1 := ⟨RX2, TX2, 2, tyX2, rfl, in_X2, tyX2_ok, nmX2, by decide, Or.inl (tb_1 (List.mem_of_getElem? (i := 104) rfl) rfl)⟩
theorem fp_X2_15 : FPF RX2 15 2 1 (.array .int) := ⟨RX2, TX2, 2, tyX2, rfl, in_X2, tyX2_ok, nmX2, by decide, tb_1 (List.mem_of_getElem? (i := 104) rfl) rfl, rfl, rfl, by decide +kernel⟩
theorem fg_X3_11 : FL RX3 11 3 0 := ⟨RX3, TX3, 4, tyX3, rfl, in_X3, tyX3_ok, nmX3, by decide, Or.inl (tb_1 (List.mem_of_getElem? (i := 118) rfl) rfl)⟩
theorem fp_X3_11 : FPF RX3 11 3 0 (.array .int) := ⟨RX3, TX3, 4, tyX3, rfl, in_X3, tyX3_ok, nmX3, by decide, tb_1 (List.mem_of_getElem? (i := 118) rfl) rfl, rfl, rfl, by decide +kernel⟩
theorem fg_X3_15 : FL RX3 15 3 1 := ⟨RX3, TX3, 4, tyX3, rfl, in_X3, tyX3_ok, nmX3, by decide, Or.inl (tb_1 (List.mem_of_getElem? (i := 119) rfl) rfl)⟩
theorem fp_X3_15 : FPF RX3 15 3 1 (.array .int) := ⟨RX3, TX3, 4, tyX3, rfl, in_X3, tyX3_ok, nmX3, by decide, tb_1 (List.mem_of_getElem? (i := 119) rfl) rfl, rfl, rfl, by decide +kernel⟩
theorem fg_X3_18 : FL RX3 18 3 2 := ⟨RX3, TX3, 4, tyX3, rfl, in_X3, tyX3_ok, nmX3, by decide, Or.inl (tb_1 (List.mem_of_getElem? (i := 120) rfl) rfl)⟩
theorem fp_X3_18 : FPF RX3 18 3 2 (.array .int) := ⟨RX3, TX3, 4, tyX3, rfl, in_X3, tyX3_ok, nmX3, by decide, tb_1 (List.mem_of_getElem? (i := 120) rfl) rfl, rfl, rfl, by decide +kernel⟩
theorem fg_X3_23 : FL RX3 23 3 3 := ⟨RX3, TX3, 4, tyX3, rfl, in_X3, tyX3_ok, nmX3, by decide, Or.inl (tb_1 (List.mem_of_getElem? (i := 121) rfl) rfl)⟩
theorem fp_X3_23 : FPF RX3 23 3 3 (.array (.array .int)) := ⟨RX3, TX3, 4, tyX3, rfl, in_X3, tyX3_ok, nmX3, by decide, tb_1 (List.mem_of_getElem? (i := 121) rfl) rfl, rfl, rfl, by decide +kernel⟩
theorem fg_X0_9 : FL RX0 9 0 0 := ⟨RX0, TX0, 3, tyX0, rfl, in_X0, tyX0_ok, nmX0, by decide, Or.inl (tb_1 (List.mem_of_getElem? (i := 137) rfl) rfl)⟩
theorem fp_X0_9 : FPF RX0 9 0 0 (.array .int) := ⟨RX0, TX0, 3, tyX0, rfl, in_X0, tyX0_ok, nmX0, by decide, tb_1 (List.mem_of_getElem? (i := 137) rfl) rfl, rfl, rfl, by decide +kernel⟩
theorem fg_X0_15 : FL RX0 15 0 1 := ⟨RX0, TX0, 3, tyX0, rfl, in_X0, tyX0_ok, nmX0, by decide, Or.inl (tb_1 (List.mem_of_getElem? (i := 138) rfl) rfl)⟩
theorem fp_X0_15 : FP RX0 15 0 1 (.int) := ⟨RX0, TX0, 3, tyX0, rfl, in_X0, tyX0_ok, nmX0, by decide, tb_1 (List.mem_of_getElem? (i := 138) rfl) rfl, rfl, by decide +kernel⟩
theorem fg_X9_328 : FL RX9 328 0 1 := ⟨RX0, TX0, 3, tyX0, rfl, in_X0, tyX0_ok, nmX0, by decide, Or.inr ⟨"LaceTangles", tb_1 (List.mem_of_getElem? (i := 139) rfl) rfl⟩⟩
theorem fg_X0_19 : FL RX0 19 0 2 := ⟨RX0, TX0, 3, tyX0, rfl, in_X0, tyX0_ok, nmX0, by decide, Or.inl (tb_1 (List.mem_of_getElem? (i := 140) rfl) rfl)⟩
theorem fp_X0_19 : FP RX0 19 0 2 (.int) := ⟨RX0, TX0, 3, tyX0, rfl, in_X0, tyX0_ok, nmX0, by decide, tb_1 (List.mem_of_getElem? (i := 140) rfl) rfl, rfl, by decide +kernel⟩
theorem fg_X9_330 : FL RX9 330 0 2 := ⟨RX0, TX0, 3, tyX0, rfl, in_X0, tyX0_ok, nmX0, by decide, Or.inr ⟨"LaceTangles", tb_1 (List.mem_of_getElem? (i := 141) rfl) rfl⟩⟩
theorem fg_X8_14 : FL RX8 14 7 0 := ⟨RX8, TX8, 6, tyX8, rfl, in_X8, tyX8_ok, nmX8, by decide, Or.inl (tb_1 (List.mem_of_getElem? (i := 159) rfl) rfl)⟩
theorem fp_X8_14 : FP RX8 14 7 0 (.object "LaceTangles$Row") := ⟨RX8, TX8, 6, tyX8, rfl, in_X8, tyX8_ok, nmX8, by decide, tb_1 (List.mem_of_getElem? (i := 159) rfl) rfl, rfl, by decide +kernel⟩
theorem fg_X9_264 : FL RX9 264 7 0 := ⟨RX8, TX8, 6, tyX8, rfl, in_X8, tyX8_ok, nmX8, by decide, Or.inr ⟨"LaceTangles", tb_1 (List.mem_of_getElem? (i := 160) rfl) rfl⟩⟩
theorem fg_X8_20 : FL RX8 20 7 1 := ⟨RX8, TX8, 6, tyX8, rfl, in_X8, tyX8_ok, nmX8, by decide, Or.inl (tb_1 (List.mem_of_getElem? (i := 161) rfl) rfl)⟩
theorem fp_X8_20 : FP RX8 20 7 1 (.object "LaceTangles$Row") := ⟨RX8, TX8, 6, tyX8, rfl, in_X8, tyX8_ok, nmX8, by decide, tb_1 (List.mem_of_getElem? (i := 161) rfl) rfl, rfl, by decide +kernel⟩
theorem fg_X8_26 : FL RX8 26 7 2 := ⟨RX8, TX8, 6, tyX8, rfl, in_X8, tyX8_ok, nmX8, by decide, Or.inl (tb_1 (List.mem_of_getElem? (i := 162) rfl) rfl)⟩
theorem fp_X8_26 : FPF RX8 26 7 2 (.object "LaceTangles$Handle") := ⟨RX8, TX8, 6, tyX8, rfl, in_X8, tyX8_ok, nmX8, by decide, tb_1 (List.mem_of_getElem? (i := 162) rfl) rfl, rfl, rfl, by decide +kernel⟩
theorem fg_X8_30 : FL RX8 30 7 3 := ⟨RX8, TX8, 6, tyX8, rfl, in_X8, tyX8_ok, nmX8, by decide, Or.inl (tb_1 (List.mem_of_getElem? (i := 163) rfl) rfl)⟩
theorem fp_X8_30 : FP RX8 30 7 3 (.int) := ⟨RX8, TX8, 6, tyX8, rfl, in_X8, tyX8_ok, nmX8, by decide, tb_1 (List.mem_of_getElem? (i := 163) rfl) rfl, rfl, by decide +kernel⟩
theorem fg_X8_34 : FL RX8 34 7 4 := ⟨RX8, TX8, 6, tyX8, rfl, in_X8, tyX8_ok, nmX8, by decide, Or.inl (tb_1 (List.mem_of_getElem? (i := 164) rfl) rfl)⟩
theorem fp_X8_34 : FP RX8 34 7 4 (.int) := ⟨RX8, TX8, 6, tyX8, rfl, in_X8, tyX8_ok, nmX8, by decide, tb_1 (List.mem_of_getElem? (i := 164) rfl) rfl, rfl, by decide +kernel⟩
theorem fg_X8_37 : FL RX8 37 7 5 := ⟨RX8, TX8, 6, tyX8, rfl, in_X8, tyX8_ok, nmX8, by decide, Or.inl (tb_1 (List.mem_of_getElem? (i := 165) rfl) rfl)⟩
theorem fp_X8_37 : FP RX8 37 7 5 (.boolean) := ⟨RX8, TX8, 6, tyX8, rfl, in_X8, tyX8_ok, nmX8, by decide, tb_1 (List.mem_of_getElem? (i := 165) rfl) rfl, rfl, by decide +kernel⟩
theorem fg_X9_273 : FL RX9 273 7 5 := ⟨RX8, TX8, 6, tyX8, rfl, in_X8, tyX8_ok, nmX8, by decide, Or.inr ⟨"LaceTangles", tb_1 (List.mem_of_getElem? (i := 166) rfl) rfl⟩⟩
theorem fg_X9_10 : FL RX9 10 8 0 := ⟨RX9, TX9, 10, tyX9, rfl, in_X9, tyX9_ok, nmX9, by decide, Or.inl (tb_1 (List.mem_of_getElem? (i := 182) rfl) rfl)⟩
theorem fp_X9_10 : FPF RX9 10 8 0 (.object "LaceTangles$State") := ⟨RX9, TX9, 10, tyX9, rfl, in_X9, tyX9_ok, nmX9, by decide, tb_1 (List.mem_of_getElem? (i := 182) rfl) rfl, rfl, rfl, by decide +kernel⟩
theorem fg_X9_16 : FL RX9 16 8 1 := ⟨RX9, TX9, 10, tyX9, rfl, in_X9, tyX9_ok, nmX9, by decide, Or.inl (tb_1 (List.mem_of_getElem? (i := 183) rfl) rfl)⟩
theorem fp_X9_16 : FPF RX9 16 8 1 (.object "LaceTangles$State") := ⟨RX9, TX9, 10, tyX9, rfl, in_X9, tyX9_ok, nmX9, by decide, tb_1 (List.mem_of_getElem? (i := 183) rfl) rfl, rfl, rfl, by decide +kernel⟩
theorem fg_X9_19 : FL RX9 19 8 2 := ⟨RX9, TX9, 10, tyX9, rfl, in_X9, tyX9_ok, nmX9, by decide, Or.inl (tb_1 (List.mem_of_getElem? (i := 184) rfl) rfl)⟩
theorem fp_X9_19 : FP RX9 19 8 2 (.boolean) := ⟨RX9, TX9, 10, tyX9, rfl, in_X9, tyX9_ok, nmX9, by decide, tb_1 (List.mem_of_getElem? (i := 184) rfl) rfl, rfl, by decide +kernel⟩
theorem fg_X9_26 : FL RX9 26 8 3 := ⟨RX9, TX9, 10, tyX9, rfl, in_X9, tyX9_ok, nmX9, by decide, Or.inl (tb_1 (List.mem_of_getElem? (i := 185) rfl) rfl)⟩
theorem fp_X9_26 : FPF RX9 26 8 3 (.object "LaceTangles$History") := ⟨RX9, TX9, 10, tyX9, rfl, in_X9, tyX9_ok, nmX9, by decide, tb_1 (List.mem_of_getElem? (i := 185) rfl) rfl, rfl, rfl, by decide +kernel⟩
theorem fg_X9_33 : FL RX9 33 8 4 := ⟨RX9, TX9, 10, tyX9, rfl, in_X9, tyX9_ok, nmX9, by decide, Or.inl (tb_1 (List.mem_of_getElem? (i := 186) rfl) rfl)⟩
theorem fp_X9_33 : FPF RX9 33 8 4 (.object "LaceTangles$Text") := ⟨RX9, TX9, 10, tyX9, rfl, in_X9, tyX9_ok, nmX9, by decide, tb_1 (List.mem_of_getElem? (i := 186) rfl) rfl, rfl, rfl, by decide +kernel⟩
theorem fg_X9_40 : FL RX9 40 8 5 := ⟨RX9, TX9, 10, tyX9, rfl, in_X9, tyX9_ok, nmX9, by decide, Or.inl (tb_1 (List.mem_of_getElem? (i := 187) rfl) rfl)⟩
theorem fp_X9_40 : FPF RX9 40 8 5 (.object "LaceTangles$Laces") := ⟨RX9, TX9, 10, tyX9, rfl, in_X9, tyX9_ok, nmX9, by decide, tb_1 (List.mem_of_getElem? (i := 187) rfl) rfl, rfl, rfl, by decide +kernel⟩
theorem fg_X9_47 : FL RX9 47 8 6 := ⟨RX9, TX9, 10, tyX9, rfl, in_X9, tyX9_ok, nmX9, by decide, Or.inl (tb_1 (List.mem_of_getElem? (i := 188) rfl) rfl)⟩
theorem fp_X9_47 : FPF RX9 47 8 6 (.object "LaceTangles$Measures") := ⟨RX9, TX9, 10, tyX9, rfl, in_X9, tyX9_ok, nmX9, by decide, tb_1 (List.mem_of_getElem? (i := 188) rfl) rfl, rfl, rfl, by decide +kernel⟩
theorem fg_X9_54 : FL RX9 54 8 7 := ⟨RX9, TX9, 10, tyX9, rfl, in_X9, tyX9_ok, nmX9, by decide, Or.inl (tb_1 (List.mem_of_getElem? (i := 189) rfl) rfl)⟩
theorem fp_X9_54 : FPF RX9 54 8 7 (.object "LaceTangles$Handle") := ⟨RX9, TX9, 10, tyX9, rfl, in_X9, tyX9_ok, nmX9, by decide, tb_1 (List.mem_of_getElem? (i := 189) rfl) rfl, rfl, rfl, by decide +kernel⟩
theorem fg_X9_61 : FL RX9 61 8 8 := ⟨RX9, TX9, 10, tyX9, rfl, in_X9, tyX9_ok, nmX9, by decide, Or.inl (tb_1 (List.mem_of_getElem? (i := 190) rfl) rfl)⟩
theorem fp_X9_61 : FPF RX9 61 8 8 (.object "LaceTangles$Untangler") := ⟨RX9, TX9, 10, tyX9, rfl, in_X9, tyX9_ok, nmX9, by decide, tb_1 (List.mem_of_getElem? (i := 190) rfl) rfl, rfl, rfl, by decide +kernel⟩
theorem fg_X9_70 : FL RX9 70 8 9 := ⟨RX9, TX9, 10, tyX9, rfl, in_X9, tyX9_ok, nmX9, by decide, Or.inl (tb_1 (List.mem_of_getElem? (i := 191) rfl) rfl)⟩
theorem fp_X9_70 : FPF RX9 70 8 9 (.object "LaceTangles$Row") := ⟨RX9, TX9, 10, tyX9, rfl, in_X9, tyX9_ok, nmX9, by decide, tb_1 (List.mem_of_getElem? (i := 191) rfl) rfl, rfl, rfl, by decide +kernel⟩
theorem fg_X10_41 : FL RX10 41 9 0 := ⟨RX10, TX10, 22, tyX10, rfl, in_X10, tyX10_ok, nmX10, by decide, Or.inl (tb_4 (List.mem_of_getElem? (i := 87) rfl) rfl)⟩
theorem fp_X10_41 : FP RX10 41 9 0 (.int) := ⟨RX10, TX10, 22, tyX10, rfl, in_X10, tyX10_ok, nmX10, by decide, tb_4 (List.mem_of_getElem? (i := 87) rfl) rfl, rfl, by decide +kernel⟩
theorem fg_X10_7 : FL RX10 7 9 1 := ⟨RX10, TX10, 22, tyX10, rfl, in_X10, tyX10_ok, nmX10, by decide, Or.inl (tb_4 (List.mem_of_getElem? (i := 88) rfl) rfl)⟩
theorem fp_X10_7 : FPF RX10 7 9 1 (.array .int) := ⟨RX10, TX10, 22, tyX10, rfl, in_X10, tyX10_ok, nmX10, by decide, tb_4 (List.mem_of_getElem? (i := 88) rfl) rfl, rfl, rfl, by decide +kernel⟩
theorem fg_X10_13 : FL RX10 13 9 2 := ⟨RX10, TX10, 22, tyX10, rfl, in_X10, tyX10_ok, nmX10, by decide, Or.inl (tb_4 (List.mem_of_getElem? (i := 89) rfl) rfl)⟩
theorem fp_X10_13 : FPF RX10 13 9 2 (.array .int) := ⟨RX10, TX10, 22, tyX10, rfl, in_X10, tyX10_ok, nmX10, by decide, tb_4 (List.mem_of_getElem? (i := 89) rfl) rfl, rfl, rfl, by decide +kernel⟩
theorem fg_X10_49 : FL RX10 49 9 3 := ⟨RX10, TX10, 22, tyX10, rfl, in_X10, tyX10_ok, nmX10, by decide, Or.inl (tb_4 (List.mem_of_getElem? (i := 90) rfl) rfl)⟩
theorem fp_X10_49 : FP RX10 49 9 3 (.int) := ⟨RX10, TX10, 22, tyX10, rfl, in_X10, tyX10_ok, nmX10, by decide, tb_4 (List.mem_of_getElem? (i := 90) rfl) rfl, rfl, by decide +kernel⟩
theorem fg_X10_16 : FL RX10 16 9 4 := ⟨RX10, TX10, 22, tyX10, rfl, in_X10, tyX10_ok, nmX10, by decide, Or.inl (tb_4 (List.mem_of_getElem? (i := 91) rfl) rfl)⟩
theorem fp_X10_16 : FPF RX10 16 9 4 (.array .int) := ⟨RX10, TX10, 22, tyX10, rfl, in_X10, tyX10_ok, nmX10, by decide, tb_4 (List.mem_of_getElem? (i := 91) rfl) rfl, rfl, rfl, by decide +kernel⟩
theorem fg_X10_37 : FL RX10 37 9 5 := ⟨RX10, TX10, 22, tyX10, rfl, in_X10, tyX10_ok, nmX10, by decide, Or.inl (tb_4 (List.mem_of_getElem? (i := 92) rfl) rfl)⟩
theorem fp_X10_37 : FP RX10 37 9 5 (.boolean) := ⟨RX10, TX10, 22, tyX10, rfl, in_X10, tyX10_ok, nmX10, by decide, tb_4 (List.mem_of_getElem? (i := 92) rfl) rfl, rfl, by decide +kernel⟩
theorem fg_X10_19 : FL RX10 19 9 6 := ⟨RX10, TX10, 22, tyX10, rfl, in_X10, tyX10_ok, nmX10, by decide, Or.inl (tb_4 (List.mem_of_getElem? (i := 93) rfl) rfl)⟩
theorem fp_X10_19 : FPF RX10 19 9 6 (.array .int) := ⟨RX10, TX10, 22, tyX10, rfl, in_X10, tyX10_ok, nmX10, by decide, tb_4 (List.mem_of_getElem? (i := 93) rfl) rfl, rfl, rfl, by decide +kernel⟩
theorem fg_X10_131 : FL RX10 131 9 7 := ⟨RX10, TX10, 22, tyX10, rfl, in_X10, tyX10_ok, nmX10, by decide, Or.inl (tb_4 (List.mem_of_getElem? (i := 94) rfl) rfl)⟩
theorem fp_X10_131 : FP RX10 131 9 7 (.int) := ⟨RX10, TX10, 22, tyX10, rfl, in_X10, tyX10_ok, nmX10, by decide, tb_4 (List.mem_of_getElem? (i := 94) rfl) rfl, rfl, by decide +kernel⟩
theorem fg_X10_134 : FL RX10 134 9 8 := ⟨RX10, TX10, 22, tyX10, rfl, in_X10, tyX10_ok, nmX10, by decide, Or.inl (tb_4 (List.mem_of_getElem? (i := 95) rfl) rfl)⟩
theorem fp_X10_134 : FP RX10 134 9 8 (.int) := ⟨RX10, TX10, 22, tyX10, rfl, in_X10, tyX10_ok, nmX10, by decide, tb_4 (List.mem_of_getElem? (i := 95) rfl) rfl, rfl, by decide +kernel⟩
theorem fg_X10_140 : FL RX10 140 9 9 := ⟨RX10, TX10, 22, tyX10, rfl, in_X10, tyX10_ok, nmX10, by decide, Or.inl (tb_4 (List.mem_of_getElem? (i := 96) rfl) rfl)⟩
theorem fp_X10_140 : FP RX10 140 9 9 (.int) := ⟨RX10, TX10, 22, tyX10, rfl, in_X10, tyX10_ok, nmX10, by decide, tb_4 (List.mem_of_getElem? (i := 96) rfl) rfl, rfl, by decide +kernel⟩
theorem fg_X10_143 : FL RX10 143 9 10 := ⟨RX10, TX10, 22, tyX10, rfl, in_X10, tyX10_ok, nmX10, by decide, Or.inl (tb_4 (List.mem_of_getElem? (i := 97) rfl) rfl)⟩
theorem fp_X10_143 : FP RX10 143 9 10 (.int) := ⟨RX10, TX10, 22, tyX10, rfl, in_X10, tyX10_ok, nmX10, by decide, tb_4 (List.mem_of_getElem? (i := 97) rfl) rfl, rfl, by decide +kernel⟩
theorem fg_X10_22 : FL RX10 22 9 11 := ⟨RX10, TX10, 22, tyX10, rfl, in_X10, tyX10_ok, nmX10, by decide, Or.inl (tb_4 (List.mem_of_getElem? (i := 98) rfl) rfl)⟩
theorem fp_X10_22 : FPF RX10 22 9 11 (.array .int) := ⟨RX10, TX10, 22, tyX10, rfl, in_X10, tyX10_ok, nmX10, by decide, tb_4 (List.mem_of_getElem? (i := 98) rfl) rfl, rfl, rfl, by decide +kernel⟩
theorem fg_X10_59 : FL RX10 59 9 12 := ⟨RX10, TX10, 22, tyX10, rfl, in_X10, tyX10_ok, nmX10, by decide, Or.inl (tb_4 (List.mem_of_getElem? (i := 99) rfl) rfl)⟩
theorem fp_X10_59 : FP RX10 59 9 12 (.int) := ⟨RX10, TX10, 22, tyX10, rfl, in_X10, tyX10_ok, nmX10, by decide, tb_4 (List.mem_of_getElem? (i := 99) rfl) rfl, rfl, by decide +kernel⟩
theorem fg_X10_25 : FL RX10 25 9 13 := ⟨RX10, TX10, 22, tyX10, rfl, in_X10, tyX10_ok, nmX10, by decide, Or.inl (tb_4 (List.mem_of_getElem? (i := 100) rfl) rfl)⟩
theorem fp_X10_25 : FPF RX10 25 9 13 (.array .int) := ⟨RX10, TX10, 22, tyX10, rfl, in_X10, tyX10_ok, nmX10, by decide, tb_4 (List.mem_of_getElem? (i := 100) rfl) rfl, rfl, rfl, by decide +kernel⟩
theorem fg_X10_85 : FL RX10 85 9 14 := ⟨RX10, TX10, 22, tyX10, rfl, in_X10, tyX10_ok, nmX10, by decide, Or.inl (tb_4 (List.mem_of_getElem? (i := 101) rfl) rfl)⟩
theorem fp_X10_85 : FP RX10 85 9 14 (.int) := ⟨RX10, TX10, 22, tyX10, rfl, in_X10, tyX10_ok, nmX10, by decide, tb_4 (List.mem_of_getElem? (i := 101) rfl) rfl, rfl, by decide +kernel⟩
theorem fg_X10_88 : FL RX10 88 9 15 := ⟨RX10, TX10, 22, tyX10, rfl, in_X10, tyX10_ok, nmX10, by decide, Or.inl (tb_4 (List.mem_of_getElem? (i := 102) rfl) rfl)⟩
theorem fp_X10_88 : FP RX10 88 9 15 (.int) := ⟨RX10, TX10, 22, tyX10, rfl, in_X10, tyX10_ok, nmX10, by decide, tb_4 (List.mem_of_getElem? (i := 102) rfl) rfl, rfl, by decide +kernel⟩
theorem fg_X10_91 : FL RX10 91 9 16 := ⟨RX10, TX10, 22, tyX10, rfl, in_X10, tyX10_ok, nmX10, by decide, Or.inl (tb_4 (List.mem_of_getElem? (i := 103) rfl) rfl)⟩
theorem fp_X10_91 : FP RX10 91 9 16 (.int) := ⟨RX10, TX10, 22, tyX10, rfl, in_X10, tyX10_ok, nmX10, by decide, tb_4 (List.mem_of_getElem? (i := 103) rfl) rfl, rfl, by decide +kernel⟩
theorem fg_X10_94 : FL RX10 94 9 17 := ⟨RX10, TX10, 22, tyX10, rfl, in_X10, tyX10_ok, nmX10, by decide, Or.inl (tb_4 (List.mem_of_getElem? (i := 104) rfl) rfl)⟩
theorem fp_X10_94 : FP RX10 94 9 17 (.int) := ⟨RX10, TX10, 22, tyX10, rfl, in_X10, tyX10_ok, nmX10, by decide, tb_4 (List.mem_of_getElem? (i := 104) rfl) rfl, rfl, by decide +kernel⟩
theorem fg_X10_28 : FL RX10 28 9 18 := ⟨RX10, TX10, 22, tyX10, rfl, in_X10, tyX10_ok, nmX10, by decide, Or.inl (tb_4 (List.mem_of_getElem? (i := 105) rfl) rfl)⟩
theorem fp_X10_28 : FPF RX10 28 9 18 (.array .int) := ⟨RX10, TX10, 22, tyX10, rfl, in_X10, tyX10_ok, nmX10, by decide, tb_4 (List.mem_of_getElem? (i := 105) rfl) rfl, rfl, rfl, by decide +kernel⟩
theorem fg_X10_31 : FL RX10 31 9 19 := ⟨RX10, TX10, 22, tyX10, rfl, in_X10, tyX10_ok, nmX10, by decide, Or.inl (tb_4 (List.mem_of_getElem? (i := 106) rfl) rfl)⟩
theorem fp_X10_31 : FPF RX10 31 9 19 (.array .int) := ⟨RX10, TX10, 22, tyX10, rfl, in_X10, tyX10_ok, nmX10, by decide, tb_4 (List.mem_of_getElem? (i := 106) rfl) rfl, rfl, rfl, by decide +kernel⟩
theorem fg_X10_34 : FL RX10 34 9 20 := ⟨RX10, TX10, 22, tyX10, rfl, in_X10, tyX10_ok, nmX10, by decide, Or.inl (tb_4 (List.mem_of_getElem? (i := 107) rfl) rfl)⟩
theorem fp_X10_34 : FPF RX10 34 9 20 (.array .int) := ⟨RX10, TX10, 22, tyX10, rfl, in_X10, tyX10_ok, nmX10, by decide, tb_4 (List.mem_of_getElem? (i := 107) rfl) rfl, rfl, rfl, by decide +kernel⟩
theorem fg_X10_220 : FL RX10 220 9 21 := ⟨RX10, TX10, 22, tyX10, rfl, in_X10, tyX10_ok, nmX10, by decide, Or.inl (tb_4 (List.mem_of_getElem? (i := 108) rfl) rfl)⟩
theorem fp_X10_220 : FP RX10 220 9 21 (.long) := ⟨RX10, TX10, 22, tyX10, rfl, in_X10, tyX10_ok, nmX10, by decide, tb_4 (List.mem_of_getElem? (i := 108) rfl) rfl, rfl, by decide +kernel⟩
theorem kc_X9_284 : Cond.constantLong RX9 284 (3673 : Int64) ∈ WS := tb_2 (List.mem_of_getElem? (i := 106) rfl) rfl
theorem kc_X9_314 : Cond.constantLong RX9 314 (31 : Int64) ∈ WS := tb_2 (List.mem_of_getElem? (i := 130) rfl) rfl
theorem kc_X9_316 : Cond.constantLong RX9 316 (1023 : Int64) ∈ WS := tb_3 (List.mem_of_getElem? (i := 20) rfl) rfl
theorem kc_X9_318 : Cond.constantDouble RX9 318 (4611686018427387904 : UInt64) ∈ WS := tb_3 (List.mem_of_getElem? (i := 21) rfl) rfl
theorem kc_X9_320 : Cond.constantDouble RX9 320 (4841369599423283200 : UInt64) ∈ WS := tb_3 (List.mem_of_getElem? (i := 22) rfl) rfl
theorem kc_X10_228 : Cond.constantLong RX10 228 (3673 : Int64) ∈ WS := tb_5 (List.mem_of_getElem? (i := 199) rfl) rfl
theorem kc_X10_218 : Cond.constantLong RX10 218 (31 : Int64) ∈ WS := tb_5 (List.mem_of_getElem? (i := 204) rfl) rfl
theorem kc_Jxe99ae_137 : Cond.constantLong RJxe99ae 137 (9221120237041090560 : Int64) ∈ WS := tb_5 (List.mem_of_getElem? (i := 218) rfl) rfl
theorem fn_L_8 : FN RL 8 8 [.null, .null, .int 0, .null, .null, .null, .null, .null, .null, .null] := ⟨RX9, TX9, 10, tyX9, rfl, in_X9, tyX9_ok, tb_1 (List.mem_of_getElem? (i := 20) rfl) rfl, tb_1 (List.mem_of_getElem? (i := 21) rfl) rfl, it_X9, rfl, fun j hj => by
  rcases (show j = 0 ∨ j = 1 ∨ j = 2 ∨ j = 3 ∨ j = 4 ∨ j = 5 ∨ j = 6 ∨ j = 7 ∨ j = 8 ∨ j = 9 by omega) with rfl | rfl | rfl | rfl | rfl | rfl | rfl | rfl | rfl | rfl <;> rfl⟩
theorem cl_L_8 : Cond.classLink RL 8 "LaceTangles" ∈ WS := tb_1 (List.mem_of_getElem? (i := 20) rfl) rfl
theorem fn_X9_7 : FN RX9 7 5 [.null, .int 0] := ⟨RX6, TX6, 2, tyX6, rfl, in_X6, tyX6_ok, tb_1 (List.mem_of_getElem? (i := 28) rfl) rfl, tb_1 (List.mem_of_getElem? (i := 29) rfl) rfl, it_X6, rfl, fun j hj => by
  rcases (show j = 0 ∨ j = 1 by omega) with rfl | rfl <;> rfl⟩
theorem cl_X9_7 : Cond.classLink RX9 7 "LaceTangles$State" ∈ WS := tb_1 (List.mem_of_getElem? (i := 28) rfl) rfl
theorem fn_X6_9 : FN RX6 9 4 [.null, .int 0] := ⟨RX5, TX5, 2, tyX5, rfl, in_X5, tyX5_ok, tb_1 (List.mem_of_getElem? (i := 34) rfl) rfl, tb_1 (List.mem_of_getElem? (i := 35) rfl) rfl, it_X5, rfl, fun j hj => by
  rcases (show j = 0 ∨ j = 1 by omega) with rfl | rfl <;> rfl⟩
theorem cl_X6_9 : Cond.classLink RX6 9 "LaceTangles$Row" ∈ WS := tb_1 (List.mem_of_getElem? (i := 34) rfl) rfl
theorem fn_X9_23 : FN RX9 23 1 [.null, .int 0, .int 0] := ⟨RX1, TX1, 3, tyX1, rfl, in_X1, tyX1_ok, tb_1 (List.mem_of_getElem? (i := 63) rfl) rfl, tb_1 (List.mem_of_getElem? (i := 64) rfl) rfl, it_X1, rfl, fun j hj => by
  rcases (show j = 0 ∨ j = 1 ∨ j = 2 by omega) with rfl | rfl | rfl <;> rfl⟩
theorem cl_X9_23 : Cond.classLink RX9 23 "LaceTangles$History" ∈ WS := tb_1 (List.mem_of_getElem? (i := 63) rfl) rfl
theorem fn_X1_9 : FN RX1 9 5 [.null, .int 0] := ⟨RX6, TX6, 2, tyX6, rfl, in_X6, tyX6_ok, tb_1 (List.mem_of_getElem? (i := 69) rfl) rfl, tb_1 (List.mem_of_getElem? (i := 29) rfl) rfl, it_X6, rfl, fun j hj => by
  rcases (show j = 0 ∨ j = 1 by omega) with rfl | rfl <;> rfl⟩
theorem cl_X1_9 : Cond.classLink RX1 9 "LaceTangles$State" ∈ WS := tb_1 (List.mem_of_getElem? (i := 69) rfl) rfl
theorem fn_X9_30 : FN RX9 30 6 [.null, .int 0] := ⟨RX7, TX7, 2, tyX7, rfl, in_X7, tyX7_ok, tb_1 (List.mem_of_getElem? (i := 83) rfl) rfl, tb_1 (List.mem_of_getElem? (i := 84) rfl) rfl, it_X7, rfl, fun j hj => by
  rcases (show j = 0 ∨ j = 1 by omega) with rfl | rfl <;> rfl⟩
theorem cl_X9_30 : Cond.classLink RX9 30 "LaceTangles$Text" ∈ WS := tb_1 (List.mem_of_getElem? (i := 83) rfl) rfl
theorem fn_X9_37 : FN RX9 37 2 [.null, .null] := ⟨RX2, TX2, 2, tyX2, rfl, in_X2, tyX2_ok, tb_1 (List.mem_of_getElem? (i := 97) rfl) rfl, tb_1 (List.mem_of_getElem? (i := 98) rfl) rfl, it_X2, rfl, fun j hj => by
  rcases (show j = 0 ∨ j = 1 by omega) with rfl | rfl <;> rfl⟩
theorem cl_X9_37 : Cond.classLink RX9 37 "LaceTangles$Laces" ∈ WS := tb_1 (List.mem_of_getElem? (i := 97) rfl) rfl
theorem fn_X9_44 : FN RX9 44 3 [.null, .null, .null, .null] := ⟨RX3, TX3, 4, tyX3, rfl, in_X3, tyX3_ok, tb_1 (List.mem_of_getElem? (i := 110) rfl) rfl, tb_1 (List.mem_of_getElem? (i := 111) rfl) rfl, it_X3, rfl, fun j hj => by
  rcases (show j = 0 ∨ j = 1 ∨ j = 2 ∨ j = 3 by omega) with rfl | rfl | rfl | rfl <;> rfl⟩
theorem cl_X9_44 : Cond.classLink RX9 44 "LaceTangles$Measures" ∈ WS := tb_1 (List.mem_of_getElem? (i := 110) rfl) rfl
theorem cl_X3_21 : Cond.classLink RX3 21 "[[I" ∈ WS := tb_1 (List.mem_of_getElem? (i := 116) rfl) rfl
theorem fn_X9_51 : FN RX9 51 0 [.null, .int 0, .int 0] := ⟨RX0, TX0, 3, tyX0, rfl, in_X0, tyX0_ok, tb_1 (List.mem_of_getElem? (i := 131) rfl) rfl, tb_1 (List.mem_of_getElem? (i := 132) rfl) rfl, it_X0, rfl, fun j hj => by
  rcases (show j = 0 ∨ j = 1 ∨ j = 2 by omega) with rfl | rfl | rfl <;> rfl⟩
theorem cl_X9_51 : Cond.classLink RX9 51 "LaceTangles$Handle" ∈ WS := tb_1 (List.mem_of_getElem? (i := 131) rfl) rfl
theorem fn_X9_58 : FN RX9 58 7 [.null, .null, .null, .int 0, .int 0, .int 0] := ⟨RX8, TX8, 6, tyX8, rfl, in_X8, tyX8_ok, tb_1 (List.mem_of_getElem? (i := 149) rfl) rfl, tb_1 (List.mem_of_getElem? (i := 150) rfl) rfl, it_X8, rfl, fun j hj => by
  rcases (show j = 0 ∨ j = 1 ∨ j = 2 ∨ j = 3 ∨ j = 4 ∨ j = 5 by omega) with rfl | rfl | rfl | rfl | rfl | rfl <;> rfl⟩
theorem cl_X9_58 : Cond.classLink RX9 58 "LaceTangles$Untangler" ∈ WS := tb_1 (List.mem_of_getElem? (i := 149) rfl) rfl
theorem fn_X8_9 : FN RX8 9 4 [.null, .int 0] := ⟨RX5, TX5, 2, tyX5, rfl, in_X5, tyX5_ok, tb_1 (List.mem_of_getElem? (i := 155) rfl) rfl, tb_1 (List.mem_of_getElem? (i := 35) rfl) rfl, it_X5, rfl, fun j hj => by
  rcases (show j = 0 ∨ j = 1 by omega) with rfl | rfl <;> rfl⟩
theorem cl_X8_9 : Cond.classLink RX8 9 "LaceTangles$Row" ∈ WS := tb_1 (List.mem_of_getElem? (i := 155) rfl) rfl
theorem fn_X8_23 : FN RX8 23 0 [.null, .int 0, .int 0] := ⟨RX0, TX0, 3, tyX0, rfl, in_X0, tyX0_ok, tb_1 (List.mem_of_getElem? (i := 157) rfl) rfl, tb_1 (List.mem_of_getElem? (i := 132) rfl) rfl, it_X0, rfl, fun j hj => by
  rcases (show j = 0 ∨ j = 1 ∨ j = 2 by omega) with rfl | rfl | rfl <;> rfl⟩
theorem cl_X8_23 : Cond.classLink RX8 23 "LaceTangles$Handle" ∈ WS := tb_1 (List.mem_of_getElem? (i := 157) rfl) rfl
theorem fn_X9_65 : FN RX9 65 4 [.null, .int 0] := ⟨RX5, TX5, 2, tyX5, rfl, in_X5, tyX5_ok, tb_1 (List.mem_of_getElem? (i := 180) rfl) rfl, tb_1 (List.mem_of_getElem? (i := 35) rfl) rfl, it_X5, rfl, fun j hj => by
  rcases (show j = 0 ∨ j = 1 by omega) with rfl | rfl <;> rfl⟩
theorem cl_X9_65 : Cond.classLink RX9 65 "LaceTangles$Row" ∈ WS := tb_1 (List.mem_of_getElem? (i := 180) rfl) rfl
theorem cl_L_13 : Cond.classLink RL 13 "java/lang/IllegalArgumentException" ∈ WS := tb_3 (List.mem_of_getElem? (i := 27) rfl) rfl
theorem cl_L_15 : Cond.classLink RL 15 "java/lang/IllegalStateException" ∈ WS := tb_3 (List.mem_of_getElem? (i := 28) rfl) rfl
theorem cl_X9_78 : Cond.classLink RX9 78 "java/lang/IllegalArgumentException" ∈ WS := tb_3 (List.mem_of_getElem? (i := 36) rfl) rfl
theorem cl_X9_92 : Cond.classLink RX9 92 "java/lang/IllegalStateException" ∈ WS := tb_3 (List.mem_of_getElem? (i := 104) rfl) rfl
theorem cl_L_49 : Cond.classLink RL 49 "java/lang/IndexOutOfBoundsException" ∈ WS := tb_3 (List.mem_of_getElem? (i := 230) rfl) rfl
theorem cl_X9_211 : Cond.classLink RX9 211 "java/lang/IndexOutOfBoundsException" ∈ WS := tb_3 (List.mem_of_getElem? (i := 236) rfl) rfl
theorem fn_L_79 : FN RL 79 9 [.int 0, .null, .null, .int 0, .null, .int 0, .null, .int 0, .int 0, .int 0, .int 0, .null, .int 0, .null, .int 0, .int 0, .int 0, .int 0, .null, .null, .null, .long 0] := ⟨RX10, TX10, 22, tyX10, rfl, in_X10, tyX10_ok, tb_4 (List.mem_of_getElem? (i := 81) rfl) rfl, tb_4 (List.mem_of_getElem? (i := 82) rfl) rfl, it_X10, rfl, fun j hj => by
  rcases (show j = 0 ∨ j = 1 ∨ j = 2 ∨ j = 3 ∨ j = 4 ∨ j = 5 ∨ j = 6 ∨ j = 7 ∨ j = 8 ∨ j = 9 ∨ j = 10 ∨ j = 11 ∨ j = 12 ∨ j = 13 ∨ j = 14 ∨ j = 15 ∨ j = 16 ∨ j = 17 ∨ j = 18 ∨ j = 19 ∨ j = 20 ∨ j = 21 by omega) with rfl | rfl | rfl | rfl | rfl | rfl | rfl | rfl | rfl | rfl | rfl | rfl | rfl | rfl | rfl | rfl | rfl | rfl | rfl | rfl | rfl | rfl <;> rfl⟩
theorem cl_L_79 : Cond.classLink RL 79 "LaceTanglesModel" ∈ WS := tb_4 (List.mem_of_getElem? (i := 81) rfl) rfl
theorem ca_int : Cond.arrayClass FieldType.int ∈ WS := tb_1 (List.mem_of_getElem? (i := 53) rfl) rfl
theorem oa_object_LaceTangles_State : Cond.arrayOver (FieldType.object "LaceTangles$State") ∈ WS := tb_1 (List.mem_of_getElem? (i := 70) rfl) rfl
theorem oa_array_int : Cond.arrayOver (FieldType.array FieldType.int) ∈ WS := tb_1 (List.mem_of_getElem? (i := 117) rfl) rfl
theorem ca_byte : Cond.arrayClass FieldType.byte ∈ WS := tb_3 (List.mem_of_getElem? (i := 103) rfl) rfl
theorem ca_long : Cond.arrayClass FieldType.long ∈ WS := tb_5 (List.mem_of_getElem? (i := 219) rfl) rfl
