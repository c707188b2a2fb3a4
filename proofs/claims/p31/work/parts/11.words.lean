/-! the words of the tables, by their places, and what the methods, fields, links are -/
theorem tb_1 {w : Cond} (h : w ∈ tables_1_1) (hk : kw w = true) : w ∈ WS := mem_WS (List.mem_append_right _ (List.mem_append_left _ h)) hk
theorem tb_2 {w : Cond} (h : w ∈ tables_1_2) (hk : kw w = true) : w ∈ WS := mem_WS (List.mem_append_right _ (List.mem_append_right _ (List.mem_append_left _ h))) hk
theorem tb_3 {w : Cond} (h : w ∈ tables_1_3) (hk : kw w = true) : w ∈ WS := mem_WS (List.mem_append_right _ (List.mem_append_right _ (List.mem_append_right _ (h)))) hk
theorem in_X0 : ∀ w ∈ u_ws RX0 TX0 3, w ∈ WS := fun w h => mem_WS ((by decide +kernel : ∀ w ∈ u_ws RX0 TX0 3, w ∈ lw_tbl) w h) ((by decide +kernel : ∀ w ∈ u_ws RX0 TX0 3, kw w = true) w h)
theorem in_X1 : ∀ w ∈ u_ws RX1 TX1 3, w ∈ WS := fun w h => mem_WS ((by decide +kernel : ∀ w ∈ u_ws RX1 TX1 3, w ∈ lw_tbl) w h) ((by decide +kernel : ∀ w ∈ u_ws RX1 TX1 3, kw w = true) w h)
theorem in_X2 : ∀ w ∈ u_ws RX2 TX2 2, w ∈ WS := fun w h => mem_WS ((by decide +kernel : ∀ w ∈ u_ws RX2 TX2 2, w ∈ lw_tbl) w h) ((by decide +kernel : ∀ w ∈ u_ws RX2 TX2 2, kw w = true) w h)
theorem in_X3 : ∀ w ∈ u_ws RX3 TX3 4, w ∈ WS := fun w h => mem_WS ((by decide +kernel : ∀ w ∈ u_ws RX3 TX3 4, w ∈ lw_tbl) w h) ((by decide +kernel : ∀ w ∈ u_ws RX3 TX3 4, kw w = true) w h)
theorem in_X5 : ∀ w ∈ u_ws RX5 TX5 2, w ∈ WS := fun w h => mem_WS ((by decide +kernel : ∀ w ∈ u_ws RX5 TX5 2, w ∈ lw_tbl) w h) ((by decide +kernel : ∀ w ∈ u_ws RX5 TX5 2, kw w = true) w h)
theorem in_X6 : ∀ w ∈ u_ws RX6 TX6 2, w ∈ WS := fun w h => mem_WS ((by decide +kernel : ∀ w ∈ u_ws RX6 TX6 2, w ∈ lw_tbl) w h) ((by decide +kernel : ∀ w ∈ u_ws RX6 TX6 2, kw w = true) w h)
theorem in_X7 : ∀ w ∈ u_ws RX7 TX7 2, w ∈ WS := fun w h => mem_WS ((by decide +kernel : ∀ w ∈ u_ws RX7 TX7 2, w ∈ lw_tbl) w h) ((by decide +kernel : ∀ w ∈ u_ws RX7 TX7 2, kw w = true) w h)
theorem in_X8 : ∀ w ∈ u_ws RX8 TX8 6, w ∈ WS := fun w h => mem_WS ((by decide +kernel : ∀ w ∈ u_ws RX8 TX8 6, w ∈ lw_tbl) w h) ((by decide +kernel : ∀ w ∈ u_ws RX8 TX8 6, kw w = true) w h)
theorem in_X9 : ∀ w ∈ u_ws RX9 TX9 10, w ∈ WS := fun w h => mem_WS ((by decide +kernel : ∀ w ∈ u_ws RX9 TX9 10, w ∈ lw_tbl) w h) ((by decide +kernel : ∀ w ∈ u_ws RX9 TX9 10, kw w = true) w h)
theorem it_L : Cond.initialized RL ∈ WS := tb_1 (List.mem_of_getElem? (i := 0) rfl) rfl
theorem it_X9 : Cond.initialized RX9 ∈ WS := tb_1 (List.mem_of_getElem? (i := 1) rfl) rfl
theorem it_X6 : Cond.initialized RX6 ∈ WS := tb_1 (List.mem_of_getElem? (i := 2) rfl) rfl
theorem it_X5 : Cond.initialized RX5 ∈ WS := tb_1 (List.mem_of_getElem? (i := 3) rfl) rfl
theorem it_X1 : Cond.initialized RX1 ∈ WS := tb_1 (List.mem_of_getElem? (i := 4) rfl) rfl
theorem it_X7 : Cond.initialized RX7 ∈ WS := tb_1 (List.mem_of_getElem? (i := 5) rfl) rfl
theorem it_X2 : Cond.initialized RX2 ∈ WS := tb_1 (List.mem_of_getElem? (i := 6) rfl) rfl
theorem it_X3 : Cond.initialized RX3 ∈ WS := tb_1 (List.mem_of_getElem? (i := 7) rfl) rfl
theorem it_X0 : Cond.initialized RX0 ∈ WS := tb_1 (List.mem_of_getElem? (i := 8) rfl) rfl
theorem it_X8 : Cond.initialized RX8 ∈ WS := tb_1 (List.mem_of_getElem? (i := 9) rfl) rfl
theorem it_X4 : Cond.initialized RX4 ∈ WS := tb_1 (List.mem_of_getElem? (i := 15) rfl) rfl
abbrev mm_X9_init : MI := (yX9_init, cX9_init, 1, none)
theorem mf_X9_init : MF mm_X9_init 0 := ⟨tb_1 (List.mem_of_getElem? (i := 21) rfl) rfl, it_X9, ⟨by decide, by decide⟩, by decide +kernel, by decide⟩
theorem mi_X9_init : Cond.instanceMethod yX9_init ∈ WS := tb_1 (List.mem_of_getElem? (i := 20) rfl) rfl
abbrev mm_X6_init : MI := (yX6_init, cX6_init, 1, none)
theorem mf_X6_init : MF mm_X6_init 0 := ⟨tb_1 (List.mem_of_getElem? (i := 29) rfl) rfl, it_X6, ⟨by decide, by decide⟩, by decide +kernel, by decide⟩
theorem mi_X6_init : Cond.instanceMethod yX6_init ∈ WS := tb_1 (List.mem_of_getElem? (i := 28) rfl) rfl
abbrev mm_X5_init : MI := (yX5_init, cX5_init, 2, none)
theorem mf_X5_init : MF mm_X5_init 1 := ⟨tb_1 (List.mem_of_getElem? (i := 35) rfl) rfl, it_X5, ⟨by decide, by decide⟩, by decide +kernel, by decide⟩
theorem mi_X5_init : Cond.instanceMethod yX5_init ∈ WS := tb_1 (List.mem_of_getElem? (i := 34) rfl) rfl
abbrev mm_X1_init : MI := (yX1_init, cX1_init, 2, none)
theorem mf_X1_init : MF mm_X1_init 0 := ⟨tb_1 (List.mem_of_getElem? (i := 63) rfl) rfl, it_X1, ⟨by decide, by decide⟩, by decide +kernel, by decide⟩
theorem mi_X1_init : Cond.instanceMethod yX1_init ∈ WS := tb_1 (List.mem_of_getElem? (i := 62) rfl) rfl
abbrev mm_X7_init : MI := (yX7_init, cX7_init, 1, none)
theorem mf_X7_init : MF mm_X7_init 0 := ⟨tb_1 (List.mem_of_getElem? (i := 83) rfl) rfl, it_X7, ⟨by decide, by decide⟩, by decide +kernel, by decide⟩
theorem mi_X7_init : Cond.instanceMethod yX7_init ∈ WS := tb_1 (List.mem_of_getElem? (i := 82) rfl) rfl
abbrev mm_X2_init : MI := (yX2_init, cX2_init, 1, none)
theorem mf_X2_init : MF mm_X2_init 0 := ⟨tb_1 (List.mem_of_getElem? (i := 96) rfl) rfl, it_X2, ⟨by decide, by decide⟩, by decide +kernel, by decide⟩
theorem mi_X2_init : Cond.instanceMethod yX2_init ∈ WS := tb_1 (List.mem_of_getElem? (i := 95) rfl) rfl
abbrev mm_X3_init : MI := (yX3_init, cX3_init, 1, none)
theorem mf_X3_init : MF mm_X3_init 0 := ⟨tb_1 (List.mem_of_getElem? (i := 109) rfl) rfl, it_X3, ⟨by decide, by decide⟩, by decide +kernel, by decide⟩
theorem mi_X3_init : Cond.instanceMethod yX3_init ∈ WS := tb_1 (List.mem_of_getElem? (i := 108) rfl) rfl
abbrev mm_X0_init : MI := (yX0_init, cX0_init, 1, none)
theorem mf_X0_init : MF mm_X0_init 0 := ⟨tb_1 (List.mem_of_getElem? (i := 130) rfl) rfl, it_X0, ⟨by decide, by decide⟩, by decide +kernel, by decide⟩
theorem mi_X0_init : Cond.instanceMethod yX0_init ∈ WS := tb_1 (List.mem_of_getElem? (i := 129) rfl) rfl
abbrev mm_X8_init : MI := (yX8_init, cX8_init, 1, none)
theorem mf_X8_init : MF mm_X8_init 0 := ⟨tb_1 (List.mem_of_getElem? (i := 148) rfl) rfl, it_X8, ⟨by decide, by decide⟩, by decide +kernel, by decide⟩
theorem mi_X8_init : Cond.instanceMethod yX8_init ∈ WS := tb_1 (List.mem_of_getElem? (i := 147) rfl) rfl
abbrev mm_L_cell : MI := (yL_cell, cL_cell, 2, (some FieldType.int))
theorem mf_L_cell : MF mm_L_cell 2 := ⟨tb_1 (List.mem_of_getElem? (i := 208) rfl) rfl, it_L, ⟨by decide, by decide⟩, by decide +kernel, by decide⟩
theorem ms_L_cell : Cond.static yL_cell ∈ WS := tb_1 (List.mem_of_getElem? (i := 207) rfl) rfl
abbrev mm_L_low : MI := (yL_low, cL_low, 2, (some FieldType.int))
theorem mf_L_low : MF mm_L_low 2 := ⟨tb_1 (List.mem_of_getElem? (i := 213) rfl) rfl, it_L, ⟨by decide, by decide⟩, by decide +kernel, by decide⟩
theorem ms_L_low : Cond.static yL_low ∈ WS := tb_1 (List.mem_of_getElem? (i := 212) rfl) rfl
abbrev mm_X9_undo : MI := (yX9_undo, cX9_undo, 1, (some FieldType.int))
theorem mf_X9_undo : MF mm_X9_undo 0 := ⟨tb_1 (List.mem_of_getElem? (i := 222) rfl) rfl, it_X9, ⟨by decide, by decide⟩, by decide +kernel, by decide⟩
theorem mi_X9_undo : Cond.instanceMethod yX9_undo ∈ WS := tb_1 (List.mem_of_getElem? (i := 220) rfl) rfl
theorem mv_X9_undo : Cond.selects yX9_undo.cls yX9_undo yX9_undo ∈ WS := tb_1 (List.mem_of_getElem? (i := 221) rfl) rfl
abbrev mm_X1_takeBack : MI := (yX1_takeBack, cX1_takeBack, 4, none)
theorem mf_X1_takeBack : MF mm_X1_takeBack 1 := ⟨tb_2 (List.mem_of_getElem? (i := 54) rfl) rfl, it_X1, ⟨by decide, by decide⟩, by decide +kernel, by decide⟩
theorem mi_X1_takeBack : Cond.instanceMethod yX1_takeBack ∈ WS := tb_2 (List.mem_of_getElem? (i := 52) rfl) rfl
theorem mv_X1_takeBack : Cond.selects yX1_takeBack.cls yX1_takeBack yX1_takeBack ∈ WS := tb_2 (List.mem_of_getElem? (i := 53) rfl) rfl
abbrev mm_X1_slotAt : MI := (yX1_slotAt, cX1_slotAt, 2, (some (FieldType.object "LaceTangles$State")))
theorem mf_X1_slotAt : MF mm_X1_slotAt 1 := ⟨tb_2 (List.mem_of_getElem? (i := 58) rfl) rfl, it_X1, ⟨by decide, by decide⟩, by decide +kernel, by decide⟩
theorem mi_X1_slotAt : Cond.instanceMethod yX1_slotAt ∈ WS := tb_2 (List.mem_of_getElem? (i := 57) rfl) rfl
theorem mv_X1_slotAt : Cond.selects yX1_slotAt.cls yX1_slotAt yX1_slotAt ∈ WS := mem_WS (List.mem_append_left _ (List.mem_of_getElem? (i := 1) (by decide +kernel))) rfl
abbrev mm_X6_become : MI := (yX6_become, cX6_become, 2, none)
theorem mf_X6_become : MF mm_X6_become 1 := ⟨tb_2 (List.mem_of_getElem? (i := 62) rfl) rfl, it_X6, ⟨by decide, by decide⟩, by decide +kernel, by decide⟩
theorem mi_X6_become : Cond.instanceMethod yX6_become ∈ WS := tb_2 (List.mem_of_getElem? (i := 60) rfl) rfl
theorem mv_X6_become : Cond.selects yX6_become.cls yX6_become yX6_become ∈ WS := tb_2 (List.mem_of_getElem? (i := 61) rfl) rfl
abbrev mm_X5_become : MI := (yX5_become, cX5_become, 2, none)
theorem mf_X5_become : MF mm_X5_become 1 := ⟨tb_2 (List.mem_of_getElem? (i := 66) rfl) rfl, it_X5, ⟨by decide, by decide⟩, by decide +kernel, by decide⟩
theorem mi_X5_become : Cond.instanceMethod yX5_become ∈ WS := tb_2 (List.mem_of_getElem? (i := 64) rfl) rfl
theorem mv_X5_become : Cond.selects yX5_become.cls yX5_become yX5_become ∈ WS := tb_2 (List.mem_of_getElem? (i := 65) rfl) rfl
abbrev mm_X5_empty : MI := (yX5_empty, cX5_empty, 1, none)
theorem mf_X5_empty : MF mm_X5_empty 0 := ⟨tb_2 (List.mem_of_getElem? (i := 70) rfl) rfl, it_X5, ⟨by decide, by decide⟩, by decide +kernel, by decide⟩
theorem mi_X5_empty : Cond.instanceMethod yX5_empty ∈ WS := tb_2 (List.mem_of_getElem? (i := 68) rfl) rfl
theorem mv_X5_empty : Cond.selects yX5_empty.cls yX5_empty yX5_empty ∈ WS := tb_2 (List.mem_of_getElem? (i := 69) rfl) rfl
abbrev mm_X5_addAll : MI := (yX5_addAll, cX5_addAll, 3, none)
theorem mf_X5_addAll : MF mm_X5_addAll 1 := ⟨tb_2 (List.mem_of_getElem? (i := 74) rfl) rfl, it_X5, ⟨by decide, by decide⟩, by decide +kernel, by decide⟩
theorem mi_X5_addAll : Cond.instanceMethod yX5_addAll ∈ WS := tb_2 (List.mem_of_getElem? (i := 72) rfl) rfl
theorem mv_X5_addAll : Cond.selects yX5_addAll.cls yX5_addAll yX5_addAll ∈ WS := tb_2 (List.mem_of_getElem? (i := 73) rfl) rfl
abbrev mm_X5_at : MI := (yX5_at, cX5_at, 2, (some FieldType.int))
theorem mf_X5_at : MF mm_X5_at 1 := ⟨tb_2 (List.mem_of_getElem? (i := 78) rfl) rfl, it_X5, ⟨by decide, by decide⟩, by decide +kernel, by decide⟩
theorem mi_X5_at : Cond.instanceMethod yX5_at ∈ WS := tb_2 (List.mem_of_getElem? (i := 76) rfl) rfl
theorem mv_X5_at : Cond.selects yX5_at.cls yX5_at yX5_at ∈ WS := tb_2 (List.mem_of_getElem? (i := 77) rfl) rfl
abbrev mm_X5_add : MI := (yX5_add, cX5_add, 2, (some FieldType.boolean))
theorem mf_X5_add : MF mm_X5_add 1 := ⟨tb_2 (List.mem_of_getElem? (i := 82) rfl) rfl, it_X5, ⟨by decide, by decide⟩, by decide +kernel, by decide⟩
theorem mi_X5_add : Cond.instanceMethod yX5_add ∈ WS := tb_2 (List.mem_of_getElem? (i := 80) rfl) rfl
theorem mv_X5_add : Cond.selects yX5_add.cls yX5_add yX5_add ∈ WS := tb_2 (List.mem_of_getElem? (i := 81) rfl) rfl
abbrev mm_L_why : MI := (yL_why, cL_why, 9, (some FieldType.int))
theorem mf_L_why : MF mm_L_why 4 := ⟨tb_2 (List.mem_of_getElem? (i := 85) rfl) rfl, it_L, ⟨by decide, by decide⟩, by decide +kernel, by decide⟩
theorem ms_L_why : Cond.static yL_why ∈ WS := tb_2 (List.mem_of_getElem? (i := 84) rfl) rfl
abbrev mm_L_rank : MI := (yL_rank, cL_rank, 1, (some FieldType.int))
theorem mf_L_rank : MF mm_L_rank 1 := ⟨tb_2 (List.mem_of_getElem? (i := 88) rfl) rfl, it_L, ⟨by decide, by decide⟩, by decide +kernel, by decide⟩
theorem ms_L_rank : Cond.static yL_rank ∈ WS := tb_2 (List.mem_of_getElem? (i := 87) rfl) rfl
abbrev mm_L_told : MI := (yL_told, cL_told, 4, (some FieldType.long))
theorem mf_L_told : MF mm_L_told 1 := ⟨tb_2 (List.mem_of_getElem? (i := 91) rfl) rfl, it_L, ⟨by decide, by decide⟩, by decide +kernel, by decide⟩
theorem ms_L_told : Cond.static yL_told ∈ WS := tb_2 (List.mem_of_getElem? (i := 90) rfl) rfl
abbrev mm_X9_crossing : MI := (yX9_crossing, cX9_crossing, 2, (some FieldType.int))
theorem mf_X9_crossing : MF mm_X9_crossing 1 := ⟨tb_2 (List.mem_of_getElem? (i := 101) rfl) rfl, it_X9, ⟨by decide, by decide⟩, by decide +kernel, by decide⟩
theorem mi_X9_crossing : Cond.instanceMethod yX9_crossing ∈ WS := tb_2 (List.mem_of_getElem? (i := 99) rfl) rfl
theorem mv_X9_crossing : Cond.selects yX9_crossing.cls yX9_crossing yX9_crossing ∈ WS := tb_2 (List.mem_of_getElem? (i := 100) rfl) rfl
abbrev mm_X9_crossingOrNone : MI := (yX9_crossingOrNone, cX9_crossingOrNone, 2, (some FieldType.int))
theorem mf_X9_crossingOrNone : MF mm_X9_crossingOrNone 2 := ⟨tb_2 (List.mem_of_getElem? (i := 120) rfl) rfl, it_X9, ⟨by decide, by decide⟩, by decide +kernel, by decide⟩
theorem ms_X9_crossingOrNone : Cond.static yX9_crossingOrNone ∈ WS := tb_2 (List.mem_of_getElem? (i := 119) rfl) rfl
abbrev mm_X9_count : MI := (yX9_count, cX9_count, 2, (some FieldType.int))
theorem mf_X9_count : MF mm_X9_count 1 := ⟨tb_2 (List.mem_of_getElem? (i := 128) rfl) rfl, it_X9, ⟨by decide, by decide⟩, by decide +kernel, by decide⟩
theorem mi_X9_count : Cond.instanceMethod yX9_count ∈ WS := tb_2 (List.mem_of_getElem? (i := 126) rfl) rfl
theorem mv_X9_count : Cond.selects yX9_count.cls yX9_count yX9_count ∈ WS := tb_2 (List.mem_of_getElem? (i := 127) rfl) rfl
abbrev mm_X9_countOf : MI := (yX9_countOf, cX9_countOf, 2, (some FieldType.int))
theorem mf_X9_countOf : MF mm_X9_countOf 1 := ⟨tb_2 (List.mem_of_getElem? (i := 133) rfl) rfl, it_X9, ⟨by decide, by decide⟩, by decide +kernel, by decide⟩
theorem mi_X9_countOf : Cond.instanceMethod yX9_countOf ∈ WS := tb_2 (List.mem_of_getElem? (i := 132) rfl) rfl
theorem mv_X9_countOf : Cond.selects yX9_countOf.cls yX9_countOf yX9_countOf ∈ WS := mem_WS (List.mem_append_left _ (List.mem_of_getElem? (i := 2) (by decide +kernel))) rfl
abbrev mm_X5_twist : MI := (yX5_twist, cX5_twist, 1, (some FieldType.int))
theorem mf_X5_twist : MF mm_X5_twist 0 := ⟨tb_2 (List.mem_of_getElem? (i := 137) rfl) rfl, it_X5, ⟨by decide, by decide⟩, by decide +kernel, by decide⟩
theorem mi_X5_twist : Cond.instanceMethod yX5_twist ∈ WS := tb_2 (List.mem_of_getElem? (i := 135) rfl) rfl
theorem mv_X5_twist : Cond.selects yX5_twist.cls yX5_twist yX5_twist ∈ WS := tb_2 (List.mem_of_getElem? (i := 136) rfl) rfl
abbrev mm_X5_overFromLeft : MI := (yX5_overFromLeft, cX5_overFromLeft, 3, (some FieldType.int))
theorem mf_X5_overFromLeft : MF mm_X5_overFromLeft 0 := ⟨tb_2 (List.mem_of_getElem? (i := 141) rfl) rfl, it_X5, ⟨by decide, by decide⟩, by decide +kernel, by decide⟩
theorem mi_X5_overFromLeft : Cond.instanceMethod yX5_overFromLeft ∈ WS := tb_2 (List.mem_of_getElem? (i := 139) rfl) rfl
theorem mv_X5_overFromLeft : Cond.selects yX5_overFromLeft.cls yX5_overFromLeft yX5_overFromLeft ∈ WS := tb_2 (List.mem_of_getElem? (i := 140) rfl) rfl
abbrev mm_X5_rankMask : MI := (yX5_rankMask, cX5_rankMask, 3, (some FieldType.int))
theorem mf_X5_rankMask : MF mm_X5_rankMask 0 := ⟨tb_2 (List.mem_of_getElem? (i := 146) rfl) rfl, it_X5, ⟨by decide, by decide⟩, by decide +kernel, by decide⟩
theorem mi_X5_rankMask : Cond.instanceMethod yX5_rankMask ∈ WS := tb_2 (List.mem_of_getElem? (i := 144) rfl) rfl
theorem mv_X5_rankMask : Cond.selects yX5_rankMask.cls yX5_rankMask yX5_rankMask ∈ WS := tb_2 (List.mem_of_getElem? (i := 145) rfl) rfl
abbrev mm_X9_rankOf : MI := (yX9_rankOf, cX9_rankOf, 1, (some FieldType.int))
theorem mf_X9_rankOf : MF mm_X9_rankOf 1 := ⟨tb_2 (List.mem_of_getElem? (i := 149) rfl) rfl, it_X9, ⟨by decide, by decide⟩, by decide +kernel, by decide⟩
theorem ms_X9_rankOf : Cond.static yX9_rankOf ∈ WS := tb_2 (List.mem_of_getElem? (i := 148) rfl) rfl
abbrev mm_X0_findIn : MI := (yX0_findIn, cX0_findIn, 6, (some FieldType.boolean))
theorem mf_X0_findIn : MF mm_X0_findIn 1 := ⟨tb_2 (List.mem_of_getElem? (i := 153) rfl) rfl, it_X0, ⟨by decide, by decide⟩, by decide +kernel, by decide⟩
theorem mi_X0_findIn : Cond.instanceMethod yX0_findIn ∈ WS := tb_2 (List.mem_of_getElem? (i := 151) rfl) rfl
theorem mv_X0_findIn : Cond.selects yX0_findIn.cls yX0_findIn yX0_findIn ∈ WS := tb_2 (List.mem_of_getElem? (i := 152) rfl) rfl
abbrev mm_X0_forget : MI := (yX0_forget, cX0_forget, 2, none)
theorem mf_X0_forget : MF mm_X0_forget 0 := ⟨tb_2 (List.mem_of_getElem? (i := 157) rfl) rfl, it_X0, ⟨by decide, by decide⟩, by decide +kernel, by decide⟩
theorem mi_X0_forget : Cond.instanceMethod yX0_forget ∈ WS := tb_2 (List.mem_of_getElem? (i := 156) rfl) rfl
theorem mv_X0_forget : Cond.selects yX0_forget.cls yX0_forget yX0_forget ∈ WS := mem_WS (List.mem_append_left _ (List.mem_of_getElem? (i := 3) (by decide +kernel))) rfl
abbrev mm_L_call : MI := (yL_call, cL_call, 4, (some FieldType.int))
theorem mf_L_call : MF mm_L_call 4 := ⟨tb_2 (List.mem_of_getElem? (i := 162) rfl) rfl, it_L, ⟨by decide, by decide⟩, by decide +kernel, by decide⟩
theorem ms_L_call : Cond.static yL_call ∈ WS := tb_2 (List.mem_of_getElem? (i := 161) rfl) rfl
abbrev mm_X9_cross : MI := (yX9_cross, cX9_cross, 2, (some FieldType.int))
theorem mf_X9_cross : MF mm_X9_cross 1 := ⟨tb_2 (List.mem_of_getElem? (i := 169) rfl) rfl, it_X9, ⟨by decide, by decide⟩, by decide +kernel, by decide⟩
theorem mi_X9_cross : Cond.instanceMethod yX9_cross ∈ WS := tb_2 (List.mem_of_getElem? (i := 167) rfl) rfl
theorem mv_X9_cross : Cond.selects yX9_cross.cls yX9_cross yX9_cross ∈ WS := tb_2 (List.mem_of_getElem? (i := 168) rfl) rfl
abbrev mm_X9_isCrossing : MI := (yX9_isCrossing, cX9_isCrossing, 1, (some FieldType.boolean))
theorem mf_X9_isCrossing : MF mm_X9_isCrossing 1 := ⟨tb_2 (List.mem_of_getElem? (i := 172) rfl) rfl, it_X9, ⟨by decide, by decide⟩, by decide +kernel, by decide⟩
theorem ms_X9_isCrossing : Cond.static yX9_isCrossing ∈ WS := tb_2 (List.mem_of_getElem? (i := 171) rfl) rfl
abbrev mm_X1_save : MI := (yX1_save, cX1_save, 3, none)
theorem mf_X1_save : MF mm_X1_save 1 := ⟨tb_2 (List.mem_of_getElem? (i := 178) rfl) rfl, it_X1, ⟨by decide, by decide⟩, by decide +kernel, by decide⟩
theorem mi_X1_save : Cond.instanceMethod yX1_save ∈ WS := tb_2 (List.mem_of_getElem? (i := 176) rfl) rfl
theorem mv_X1_save : Cond.selects yX1_save.cls yX1_save yX1_save ∈ WS := tb_2 (List.mem_of_getElem? (i := 177) rfl) rfl
abbrev mm_X9_open : MI := (yX9_open, cX9_open, 2, (some FieldType.int))
theorem mf_X9_open : MF mm_X9_open 0 := ⟨tb_2 (List.mem_of_getElem? (i := 186) rfl) rfl, it_X9, ⟨by decide, by decide⟩, by decide +kernel, by decide⟩
theorem mi_X9_open : Cond.instanceMethod yX9_open ∈ WS := tb_2 (List.mem_of_getElem? (i := 184) rfl) rfl
theorem mv_X9_open : Cond.selects yX9_open.cls yX9_open yX9_open ∈ WS := tb_2 (List.mem_of_getElem? (i := 185) rfl) rfl
abbrev mm_X9_move : MI := (yX9_move, cX9_move, 3, (some FieldType.int))
theorem mf_X9_move : MF mm_X9_move 2 := ⟨tb_2 (List.mem_of_getElem? (i := 194) rfl) rfl, it_X9, ⟨by decide, by decide⟩, by decide +kernel, by decide⟩
theorem mi_X9_move : Cond.instanceMethod yX9_move ∈ WS := tb_2 (List.mem_of_getElem? (i := 192) rfl) rfl
theorem mv_X9_move : Cond.selects yX9_move.cls yX9_move yX9_move ∈ WS := tb_2 (List.mem_of_getElem? (i := 193) rfl) rfl
abbrev mm_X9_isMove : MI := (yX9_isMove, cX9_isMove, 1, (some FieldType.boolean))
theorem mf_X9_isMove : MF mm_X9_isMove 1 := ⟨tb_2 (List.mem_of_getElem? (i := 197) rfl) rfl, it_X9, ⟨by decide, by decide⟩, by decide +kernel, by decide⟩
theorem ms_X9_isMove : Cond.static yX9_isMove ∈ WS := tb_2 (List.mem_of_getElem? (i := 196) rfl) rfl
abbrev mm_X4_reasonAgainst : MI := (yX4_reasonAgainst, cX4_reasonAgainst, 6, (some FieldType.int))
theorem mf_X4_reasonAgainst : MF mm_X4_reasonAgainst 3 := ⟨tb_2 (List.mem_of_getElem? (i := 201) rfl) rfl, it_X4, ⟨by decide, by decide⟩, by decide +kernel, by decide⟩
theorem ms_X4_reasonAgainst : Cond.static yX4_reasonAgainst ∈ WS := tb_2 (List.mem_of_getElem? (i := 200) rfl) rfl
abbrev mm_X4_againstCancel : MI := (yX4_againstCancel, cX4_againstCancel, 2, (some FieldType.int))
theorem mf_X4_againstCancel : MF mm_X4_againstCancel 2 := ⟨tb_2 (List.mem_of_getElem? (i := 205) rfl) rfl, it_X4, ⟨by decide, by decide⟩, by decide +kernel, by decide⟩
theorem ms_X4_againstCancel : Cond.static yX4_againstCancel ∈ WS := tb_2 (List.mem_of_getElem? (i := 204) rfl) rfl
abbrev mm_X9_signOf : MI := (yX9_signOf, cX9_signOf, 1, (some FieldType.int))
theorem mf_X9_signOf : MF mm_X9_signOf 1 := ⟨tb_2 (List.mem_of_getElem? (i := 209) rfl) rfl, it_X9, ⟨by decide, by decide⟩, by decide +kernel, by decide⟩
theorem ms_X9_signOf : Cond.static yX9_signOf ∈ WS := tb_2 (List.mem_of_getElem? (i := 208) rfl) rfl
abbrev mm_X4_againstThree : MI := (yX4_againstThree, cX4_againstThree, 4, (some FieldType.int))
theorem mf_X4_againstThree : MF mm_X4_againstThree 3 := ⟨tb_2 (List.mem_of_getElem? (i := 212) rfl) rfl, it_X4, ⟨by decide, by decide⟩, by decide +kernel, by decide⟩
theorem ms_X4_againstThree : Cond.static yX4_againstThree ∈ WS := tb_2 (List.mem_of_getElem? (i := 211) rfl) rfl
abbrev mm_X4_make : MI := (yX4_make, cX4_make, 6, none)
theorem mf_X4_make : MF mm_X4_make 3 := ⟨tb_2 (List.mem_of_getElem? (i := 216) rfl) rfl, it_X4, ⟨by decide, by decide⟩, by decide +kernel, by decide⟩
theorem ms_X4_make : Cond.static yX4_make ∈ WS := tb_2 (List.mem_of_getElem? (i := 215) rfl) rfl
abbrev mm_X5_removePair : MI := (yX5_removePair, cX5_removePair, 3, none)
theorem mf_X5_removePair : MF mm_X5_removePair 1 := ⟨tb_2 (List.mem_of_getElem? (i := 220) rfl) rfl, it_X5, ⟨by decide, by decide⟩, by decide +kernel, by decide⟩
theorem mi_X5_removePair : Cond.instanceMethod yX5_removePair ∈ WS := tb_2 (List.mem_of_getElem? (i := 218) rfl) rfl
theorem mv_X5_removePair : Cond.selects yX5_removePair.cls yX5_removePair yX5_removePair ∈ WS := tb_2 (List.mem_of_getElem? (i := 219) rfl) rfl
abbrev mm_X5_put : MI := (yX5_put, cX5_put, 3, none)
theorem mf_X5_put : MF mm_X5_put 2 := ⟨tb_2 (List.mem_of_getElem? (i := 224) rfl) rfl, it_X5, ⟨by decide, by decide⟩, by decide +kernel, by decide⟩
theorem mi_X5_put : Cond.instanceMethod yX5_put ∈ WS := tb_2 (List.mem_of_getElem? (i := 222) rfl) rfl
theorem mv_X5_put : Cond.selects yX5_put.cls yX5_put yX5_put ∈ WS := tb_2 (List.mem_of_getElem? (i := 223) rfl) rfl
abbrev mm_X9_pair : MI := (yX9_pair, cX9_pair, 3, (some FieldType.int))
theorem mf_X9_pair : MF mm_X9_pair 2 := ⟨tb_2 (List.mem_of_getElem? (i := 232) rfl) rfl, it_X9, ⟨by decide, by decide⟩, by decide +kernel, by decide⟩
theorem mi_X9_pair : Cond.instanceMethod yX9_pair ∈ WS := tb_2 (List.mem_of_getElem? (i := 230) rfl) rfl
theorem mv_X9_pair : Cond.selects yX9_pair.cls yX9_pair yX9_pair ∈ WS := tb_2 (List.mem_of_getElem? (i := 231) rfl) rfl
abbrev mm_X5_insertPair : MI := (yX5_insertPair, cX5_insertPair, 4, none)
theorem mf_X5_insertPair : MF mm_X5_insertPair 2 := ⟨tb_2 (List.mem_of_getElem? (i := 238) rfl) rfl, it_X5, ⟨by decide, by decide⟩, by decide +kernel, by decide⟩
theorem mi_X5_insertPair : Cond.instanceMethod yX5_insertPair ∈ WS := tb_2 (List.mem_of_getElem? (i := 236) rfl) rfl
theorem mv_X5_insertPair : Cond.selects yX5_insertPair.cls yX5_insertPair yX5_insertPair ∈ WS := tb_2 (List.mem_of_getElem? (i := 237) rfl) rfl
abbrev mm_X9_pull : MI := (yX9_pull, cX9_pull, 1, (some FieldType.int))
theorem mf_X9_pull : MF mm_X9_pull 0 := ⟨tb_3 (List.mem_of_getElem? (i := 2) rfl) rfl, it_X9, ⟨by decide, by decide⟩, by decide +kernel, by decide⟩
theorem mi_X9_pull : Cond.instanceMethod yX9_pull ∈ WS := tb_3 (List.mem_of_getElem? (i := 0) rfl) rfl
theorem mv_X9_pull : Cond.selects yX9_pull.cls yX9_pull yX9_pull ∈ WS := tb_3 (List.mem_of_getElem? (i := 1) rfl) rfl
abbrev mm_X5_cancelAll : MI := (yX5_cancelAll, cX5_cancelAll, 4, (some FieldType.int))
theorem mf_X5_cancelAll : MF mm_X5_cancelAll 0 := ⟨tb_3 (List.mem_of_getElem? (i := 6) rfl) rfl, it_X5, ⟨by decide, by decide⟩, by decide +kernel, by decide⟩
theorem mi_X5_cancelAll : Cond.instanceMethod yX5_cancelAll ∈ WS := tb_3 (List.mem_of_getElem? (i := 4) rfl) rfl
theorem mv_X5_cancelAll : Cond.selects yX5_cancelAll.cls yX5_cancelAll yX5_cancelAll ∈ WS := tb_3 (List.mem_of_getElem? (i := 5) rfl) rfl
abbrev mm_X9_turn : MI := (yX9_turn, cX9_turn, 1, (some FieldType.int))
theorem mf_X9_turn : MF mm_X9_turn 0 := ⟨tb_3 (List.mem_of_getElem? (i := 10) rfl) rfl, it_X9, ⟨by decide, by decide⟩, by decide +kernel, by decide⟩
theorem mi_X9_turn : Cond.instanceMethod yX9_turn ∈ WS := tb_3 (List.mem_of_getElem? (i := 8) rfl) rfl
theorem mv_X9_turn : Cond.selects yX9_turn.cls yX9_turn yX9_turn ∈ WS := tb_3 (List.mem_of_getElem? (i := 9) rfl) rfl
abbrev mm_X5_addTurned : MI := (yX5_addTurned, cX5_addTurned, 3, none)
theorem mf_X5_addTurned : MF mm_X5_addTurned 1 := ⟨tb_3 (List.mem_of_getElem? (i := 15) rfl) rfl, it_X5, ⟨by decide, by decide⟩, by decide +kernel, by decide⟩
theorem mi_X5_addTurned : Cond.instanceMethod yX5_addTurned ∈ WS := tb_3 (List.mem_of_getElem? (i := 13) rfl) rfl
theorem mv_X5_addTurned : Cond.selects yX5_addTurned.cls yX5_addTurned yX5_addTurned ∈ WS := tb_3 (List.mem_of_getElem? (i := 14) rfl) rfl
abbrev mm_X9_handle : MI := (yX9_handle, cX9_handle, 1, (some FieldType.int))
theorem mf_X9_handle : MF mm_X9_handle 0 := ⟨tb_3 (List.mem_of_getElem? (i := 23) rfl) rfl, it_X9, ⟨by decide, by decide⟩, by decide +kernel, by decide⟩
theorem mi_X9_handle : Cond.instanceMethod yX9_handle ∈ WS := tb_3 (List.mem_of_getElem? (i := 21) rfl) rfl
theorem mv_X9_handle : Cond.selects yX9_handle.cls yX9_handle yX9_handle ∈ WS := tb_3 (List.mem_of_getElem? (i := 22) rfl) rfl
abbrev mm_X0_lengthWithout : MI := (yX0_lengthWithout, cX0_lengthWithout, 5, (some FieldType.int))
theorem mf_X0_lengthWithout : MF mm_X0_lengthWithout 1 := ⟨tb_3 (List.mem_of_getElem? (i := 28) rfl) rfl, it_X0, ⟨by decide, by decide⟩, by decide +kernel, by decide⟩
theorem mi_X0_lengthWithout : Cond.instanceMethod yX0_lengthWithout ∈ WS := tb_3 (List.mem_of_getElem? (i := 26) rfl) rfl
theorem mv_X0_lengthWithout : Cond.selects yX0_lengthWithout.cls yX0_lengthWithout yX0_lengthWithout ∈ WS := tb_3 (List.mem_of_getElem? (i := 27) rfl) rfl
abbrev mm_X0_takeOut : MI := (yX0_takeOut, cX0_takeOut, 7, none)
theorem mf_X0_takeOut : MF mm_X0_takeOut 2 := ⟨tb_3 (List.mem_of_getElem? (i := 33) rfl) rfl, it_X0, ⟨by decide, by decide⟩, by decide +kernel, by decide⟩
theorem mi_X0_takeOut : Cond.instanceMethod yX0_takeOut ∈ WS := tb_3 (List.mem_of_getElem? (i := 31) rfl) rfl
theorem mv_X0_takeOut : Cond.selects yX0_takeOut.cls yX0_takeOut yX0_takeOut ∈ WS := tb_3 (List.mem_of_getElem? (i := 32) rfl) rfl
abbrev mm_L_due : MI := (yL_due, cL_due, 10, (some FieldType.int))
theorem mf_L_due : MF mm_L_due 5 := ⟨tb_3 (List.mem_of_getElem? (i := 39) rfl) rfl, it_L, ⟨by decide, by decide⟩, by decide +kernel, by decide⟩
theorem ms_L_due : Cond.static yL_due ∈ WS := tb_3 (List.mem_of_getElem? (i := 38) rfl) rfl
abbrev mm_L_makes : MI := (yL_makes, cL_makes, 7, (some FieldType.int))
theorem mf_L_makes : MF mm_L_makes 4 := ⟨tb_3 (List.mem_of_getElem? (i := 42) rfl) rfl, it_L, ⟨by decide, by decide⟩, by decide +kernel, by decide⟩
theorem ms_L_makes : Cond.static yL_makes ∈ WS := tb_3 (List.mem_of_getElem? (i := 41) rfl) rfl
abbrev mm_L_cuts : MI := (yL_cuts, cL_cuts, 4, (some FieldType.int))
theorem mf_L_cuts : MF mm_L_cuts 3 := ⟨tb_3 (List.mem_of_getElem? (i := 45) rfl) rfl, it_L, ⟨by decide, by decide⟩, by decide +kernel, by decide⟩
theorem ms_L_cuts : Cond.static yL_cuts ∈ WS := tb_3 (List.mem_of_getElem? (i := 44) rfl) rfl
abbrev mm_L_pulls : MI := (yL_pulls, cL_pulls, 6, (some FieldType.int))
theorem mf_L_pulls : MF mm_L_pulls 2 := ⟨tb_3 (List.mem_of_getElem? (i := 48) rfl) rfl, it_L, ⟨by decide, by decide⟩, by decide +kernel, by decide⟩
theorem ms_L_pulls : Cond.static yL_pulls ∈ WS := tb_3 (List.mem_of_getElem? (i := 47) rfl) rfl
abbrev mm_L_undoes : MI := (yL_undoes, cL_undoes, 11, (some FieldType.int))
theorem mf_L_undoes : MF mm_L_undoes 2 := ⟨tb_3 (List.mem_of_getElem? (i := 51) rfl) rfl, it_L, ⟨by decide, by decide⟩, by decide +kernel, by decide⟩
theorem ms_L_undoes : Cond.static yL_undoes ∈ WS := tb_3 (List.mem_of_getElem? (i := 50) rfl) rfl
abbrev mm_L_first : MI := (yL_first, cL_first, 6, (some FieldType.int))
theorem mf_L_first : MF mm_L_first 2 := ⟨tb_3 (List.mem_of_getElem? (i := 54) rfl) rfl, it_L, ⟨by decide, by decide⟩, by decide +kernel, by decide⟩
theorem ms_L_first : Cond.static yL_first ∈ WS := tb_3 (List.mem_of_getElem? (i := 53) rfl) rfl
abbrev mm_L_isSo : MI := (yL_isSo, cL_isSo, 13, (some FieldType.boolean))
theorem mf_L_isSo : MF mm_L_isSo 4 := ⟨tb_3 (List.mem_of_getElem? (i := 57) rfl) rfl, it_L, ⟨by decide, by decide⟩, by decide +kernel, by decide⟩
theorem ms_L_isSo : Cond.static yL_isSo ∈ WS := tb_3 (List.mem_of_getElem? (i := 56) rfl) rfl
abbrev mm_X9_whyNot : MI := (yX9_whyNot, cX9_whyNot, 3, (some FieldType.int))
theorem mf_X9_whyNot : MF mm_X9_whyNot 2 := ⟨tb_3 (List.mem_of_getElem? (i := 64) rfl) rfl, it_X9, ⟨by decide, by decide⟩, by decide +kernel, by decide⟩
theorem mi_X9_whyNot : Cond.instanceMethod yX9_whyNot ∈ WS := tb_3 (List.mem_of_getElem? (i := 62) rfl) rfl
theorem mv_X9_whyNot : Cond.selects yX9_whyNot.cls yX9_whyNot yX9_whyNot ∈ WS := tb_3 (List.mem_of_getElem? (i := 63) rfl) rfl
abbrev mm_X9_possible : MI := (yX9_possible, cX9_possible, 2, (some FieldType.int))
theorem mf_X9_possible : MF mm_X9_possible 1 := ⟨tb_3 (List.mem_of_getElem? (i := 71) rfl) rfl, it_X9, ⟨by decide, by decide⟩, by decide +kernel, by decide⟩
theorem mi_X9_possible : Cond.instanceMethod yX9_possible ∈ WS := tb_3 (List.mem_of_getElem? (i := 69) rfl) rfl
theorem mv_X9_possible : Cond.selects yX9_possible.cls yX9_possible yX9_possible ∈ WS := tb_3 (List.mem_of_getElem? (i := 70) rfl) rfl
abbrev mm_X4_placesFor : MI := (yX4_placesFor, cX4_placesFor, 4, (some FieldType.int))
theorem mf_X4_placesFor : MF mm_X4_placesFor 2 := ⟨tb_3 (List.mem_of_getElem? (i := 75) rfl) rfl, it_X4, ⟨by decide, by decide⟩, by decide +kernel, by decide⟩
theorem ms_X4_placesFor : Cond.static yX4_placesFor ∈ WS := tb_3 (List.mem_of_getElem? (i := 74) rfl) rfl
abbrev mm_L_possibles : MI := (yL_possibles, cL_possibles, 5, (some FieldType.int))
theorem mf_L_possibles : MF mm_L_possibles 3 := ⟨tb_3 (List.mem_of_getElem? (i := 79) rfl) rfl, it_L, ⟨by decide, by decide⟩, by decide +kernel, by decide⟩
theorem ms_L_possibles : Cond.static yL_possibles ∈ WS := tb_3 (List.mem_of_getElem? (i := 78) rfl) rfl
abbrev mm_X9_slack : MI := (yX9_slack, cX9_slack, 2, (some FieldType.double))
theorem mf_X9_slack : MF mm_X9_slack 0 := ⟨tb_3 (List.mem_of_getElem? (i := 83) rfl) rfl, it_X9, ⟨by decide, by decide⟩, by decide +kernel, by decide⟩
theorem mi_X9_slack : Cond.instanceMethod yX9_slack ∈ WS := tb_3 (List.mem_of_getElem? (i := 81) rfl) rfl
theorem mv_X9_slack : Cond.selects yX9_slack.cls yX9_slack yX9_slack ∈ WS := tb_3 (List.mem_of_getElem? (i := 82) rfl) rfl
abbrev mm_L_areLaces : MI := (yL_areLaces, cL_areLaces, 11, (some FieldType.boolean))
theorem mf_L_areLaces : MF mm_L_areLaces 4 := ⟨tb_3 (List.mem_of_getElem? (i := 86) rfl) rfl, it_L, ⟨by decide, by decide⟩, by decide +kernel, by decide⟩
theorem ms_L_areLaces : Cond.static yL_areLaces ∈ WS := tb_3 (List.mem_of_getElem? (i := 85) rfl) rfl
abbrev mm_X9_lies : MI := (yX9_lies, cX9_lies, 3, (some FieldType.int))
theorem mf_X9_lies : MF mm_X9_lies 2 := ⟨tb_3 (List.mem_of_getElem? (i := 94) rfl) rfl, it_X9, ⟨by decide, by decide⟩, by decide +kernel, by decide⟩
theorem mi_X9_lies : Cond.instanceMethod yX9_lies ∈ WS := tb_3 (List.mem_of_getElem? (i := 92) rfl) rfl
theorem mv_X9_lies : Cond.selects yX9_lies.cls yX9_lies yX9_lies ∈ WS := tb_3 (List.mem_of_getElem? (i := 93) rfl) rfl
abbrev mm_X9_isLace : MI := (yX9_isLace, cX9_isLace, 1, (some FieldType.boolean))
theorem mf_X9_isLace : MF mm_X9_isLace 1 := ⟨tb_3 (List.mem_of_getElem? (i := 97) rfl) rfl, it_X9, ⟨by decide, by decide⟩, by decide +kernel, by decide⟩
theorem ms_X9_isLace : Cond.static yX9_isLace ∈ WS := tb_3 (List.mem_of_getElem? (i := 96) rfl) rfl
abbrev mm_X2_follow : MI := (yX2_follow, cX2_follow, 4, none)
theorem mf_X2_follow : MF mm_X2_follow 2 := ⟨tb_3 (List.mem_of_getElem? (i := 118) rfl) rfl, it_X2, ⟨by decide, by decide⟩, by decide +kernel, by decide⟩
theorem mi_X2_follow : Cond.instanceMethod yX2_follow ∈ WS := tb_3 (List.mem_of_getElem? (i := 116) rfl) rfl
theorem mv_X2_follow : Cond.selects yX2_follow.cls yX2_follow yX2_follow ∈ WS := tb_3 (List.mem_of_getElem? (i := 117) rfl) rfl
abbrev mm_X2_change : MI := (yX2_change, cX2_change, 5, none)
theorem mf_X2_change : MF mm_X2_change 1 := ⟨tb_3 (List.mem_of_getElem? (i := 123) rfl) rfl, it_X2, ⟨by decide, by decide⟩, by decide +kernel, by decide⟩
theorem mi_X2_change : Cond.instanceMethod yX2_change ∈ WS := tb_3 (List.mem_of_getElem? (i := 122) rfl) rfl
theorem mv_X2_change : Cond.selects yX2_change.cls yX2_change yX2_change ∈ WS := mem_WS (List.mem_append_left _ (List.mem_of_getElem? (i := 4) (by decide +kernel))) rfl
abbrev mm_X2_addTo : MI := (yX2_addTo, cX2_addTo, 4, none)
theorem mf_X2_addTo : MF mm_X2_addTo 3 := ⟨tb_3 (List.mem_of_getElem? (i := 129) rfl) rfl, it_X2, ⟨by decide, by decide⟩, by decide +kernel, by decide⟩
theorem mi_X2_addTo : Cond.instanceMethod yX2_addTo ∈ WS := tb_3 (List.mem_of_getElem? (i := 128) rfl) rfl
theorem mv_X2_addTo : Cond.selects yX2_addTo.cls yX2_addTo yX2_addTo ∈ WS := mem_WS (List.mem_append_left _ (List.mem_of_getElem? (i := 5) (by decide +kernel))) rfl
abbrev mm_X2_laceAt : MI := (yX2_laceAt, cX2_laceAt, 2, (some FieldType.int))
theorem mf_X2_laceAt : MF mm_X2_laceAt 1 := ⟨tb_3 (List.mem_of_getElem? (i := 134) rfl) rfl, it_X2, ⟨by decide, by decide⟩, by decide +kernel, by decide⟩
theorem mi_X2_laceAt : Cond.instanceMethod yX2_laceAt ∈ WS := tb_3 (List.mem_of_getElem? (i := 132) rfl) rfl
theorem mv_X2_laceAt : Cond.selects yX2_laceAt.cls yX2_laceAt yX2_laceAt ∈ WS := tb_3 (List.mem_of_getElem? (i := 133) rfl) rfl
abbrev mm_X9_winding : MI := (yX9_winding, cX9_winding, 3, (some FieldType.int))
theorem mf_X9_winding : MF mm_X9_winding 2 := ⟨tb_3 (List.mem_of_getElem? (i := 141) rfl) rfl, it_X9, ⟨by decide, by decide⟩, by decide +kernel, by decide⟩
theorem mi_X9_winding : Cond.instanceMethod yX9_winding ∈ WS := tb_3 (List.mem_of_getElem? (i := 139) rfl) rfl
theorem mv_X9_winding : Cond.selects yX9_winding.cls yX9_winding yX9_winding ∈ WS := tb_3 (List.mem_of_getElem? (i := 140) rfl) rfl
abbrev mm_X2_sumOf : MI := (yX2_sumOf, cX2_sumOf, 3, (some FieldType.int))
theorem mf_X2_sumOf : MF mm_X2_sumOf 2 := ⟨tb_3 (List.mem_of_getElem? (i := 146) rfl) rfl, it_X2, ⟨by decide, by decide⟩, by decide +kernel, by decide⟩
theorem mi_X2_sumOf : Cond.instanceMethod yX2_sumOf ∈ WS := tb_3 (List.mem_of_getElem? (i := 144) rfl) rfl
theorem mv_X2_sumOf : Cond.selects yX2_sumOf.cls yX2_sumOf yX2_sumOf ∈ WS := tb_3 (List.mem_of_getElem? (i := 145) rfl) rfl
abbrev mm_L_isMeasure : MI := (yL_isMeasure, cL_isMeasure, 11, (some FieldType.boolean))
theorem mf_L_isMeasure : MF mm_L_isMeasure 4 := ⟨tb_3 (List.mem_of_getElem? (i := 149) rfl) rfl, it_L, ⟨by decide, by decide⟩, by decide +kernel, by decide⟩
theorem ms_L_isMeasure : Cond.static yL_isMeasure ∈ WS := tb_3 (List.mem_of_getElem? (i := 148) rfl) rfl
abbrev mm_X9_measure : MI := (yX9_measure, cX9_measure, 3, (some FieldType.int))
theorem mf_X9_measure : MF mm_X9_measure 2 := ⟨tb_3 (List.mem_of_getElem? (i := 160) rfl) rfl, it_X9, ⟨by decide, by decide⟩, by decide +kernel, by decide⟩
theorem mi_X9_measure : Cond.instanceMethod yX9_measure ∈ WS := tb_3 (List.mem_of_getElem? (i := 158) rfl) rfl
theorem mv_X9_measure : Cond.selects yX9_measure.cls yX9_measure yX9_measure ∈ WS := tb_3 (List.mem_of_getElem? (i := 159) rfl) rfl
abbrev mm_X3_reckonInOrder : MI := (yX3_reckonInOrder, cX3_reckonInOrder, 4, none)
theorem mf_X3_reckonInOrder : MF mm_X3_reckonInOrder 1 := ⟨tb_3 (List.mem_of_getElem? (i := 165) rfl) rfl, it_X3, ⟨by decide, by decide⟩, by decide +kernel, by decide⟩
theorem mi_X3_reckonInOrder : Cond.instanceMethod yX3_reckonInOrder ∈ WS := tb_3 (List.mem_of_getElem? (i := 163) rfl) rfl
theorem mv_X3_reckonInOrder : Cond.selects yX3_reckonInOrder.cls yX3_reckonInOrder yX3_reckonInOrder ∈ WS := tb_3 (List.mem_of_getElem? (i := 164) rfl) rfl
abbrev mm_X3_fillWithNone : MI := (yX3_fillWithNone, cX3_fillWithNone, 2, none)
theorem mf_X3_fillWithNone : MF mm_X3_fillWithNone 1 := ⟨tb_3 (List.mem_of_getElem? (i := 168) rfl) rfl, it_X3, ⟨by decide, by decide⟩, by decide +kernel, by decide⟩
theorem ms_X3_fillWithNone : Cond.static yX3_fillWithNone ∈ WS := tb_3 (List.mem_of_getElem? (i := 167) rfl) rfl
abbrev mm_X3_fillWithOne : MI := (yX3_fillWithOne, cX3_fillWithOne, 5, none)
theorem mf_X3_fillWithOne : MF mm_X3_fillWithOne 2 := ⟨tb_3 (List.mem_of_getElem? (i := 172) rfl) rfl, it_X3, ⟨by decide, by decide⟩, by decide +kernel, by decide⟩
theorem ms_X3_fillWithOne : Cond.static yX3_fillWithOne ∈ WS := tb_3 (List.mem_of_getElem? (i := 171) rfl) rfl
abbrev mm_X3_multiply : MI := (yX3_multiply, cX3_multiply, 7, none)
theorem mf_X3_multiply : MF mm_X3_multiply 3 := ⟨tb_3 (List.mem_of_getElem? (i := 176) rfl) rfl, it_X3, ⟨by decide, by decide⟩, by decide +kernel, by decide⟩
theorem ms_X3_multiply : Cond.static yX3_multiply ∈ WS := tb_3 (List.mem_of_getElem? (i := 175) rfl) rfl
abbrev mm_X3_inOrder : MI := (yX3_inOrder, cX3_inOrder, 3, (some FieldType.int))
theorem mf_X3_inOrder : MF mm_X3_inOrder 2 := ⟨tb_3 (List.mem_of_getElem? (i := 180) rfl) rfl, it_X3, ⟨by decide, by decide⟩, by decide +kernel, by decide⟩
theorem mi_X3_inOrder : Cond.instanceMethod yX3_inOrder ∈ WS := tb_3 (List.mem_of_getElem? (i := 178) rfl) rfl
theorem mv_X3_inOrder : Cond.selects yX3_inOrder.cls yX3_inOrder yX3_inOrder ∈ WS := tb_3 (List.mem_of_getElem? (i := 179) rfl) rfl
abbrev mm_X9_halved : MI := (yX9_halved, cX9_halved, 3, (some FieldType.int))
theorem mf_X9_halved : MF mm_X9_halved 2 := ⟨tb_3 (List.mem_of_getElem? (i := 188) rfl) rfl, it_X9, ⟨by decide, by decide⟩, by decide +kernel, by decide⟩
theorem mi_X9_halved : Cond.instanceMethod yX9_halved ∈ WS := tb_3 (List.mem_of_getElem? (i := 186) rfl) rfl
theorem mv_X9_halved : Cond.selects yX9_halved.cls yX9_halved yX9_halved ∈ WS := tb_3 (List.mem_of_getElem? (i := 187) rfl) rfl
abbrev mm_X3_reckonByHalves : MI := (yX3_reckonByHalves, cX3_reckonByHalves, 2, none)
theorem mf_X3_reckonByHalves : MF mm_X3_reckonByHalves 1 := ⟨tb_3 (List.mem_of_getElem? (i := 192) rfl) rfl, it_X3, ⟨by decide, by decide⟩, by decide +kernel, by decide⟩
theorem mi_X3_reckonByHalves : Cond.instanceMethod yX3_reckonByHalves ∈ WS := tb_3 (List.mem_of_getElem? (i := 190) rfl) rfl
theorem mv_X3_reckonByHalves : Cond.selects yX3_reckonByHalves.cls yX3_reckonByHalves yX3_reckonByHalves ∈ WS := tb_3 (List.mem_of_getElem? (i := 191) rfl) rfl
abbrev mm_X3_halve : MI := (yX3_halve, cX3_halve, 8, none)
theorem mf_X3_halve : MF mm_X3_halve 6 := ⟨tb_3 (List.mem_of_getElem? (i := 195) rfl) rfl, it_X3, ⟨by decide, by decide⟩, by decide +kernel, by decide⟩
theorem ms_X3_halve : Cond.static yX3_halve ∈ WS := tb_3 (List.mem_of_getElem? (i := 194) rfl) rfl
abbrev mm_X3_byHalves : MI := (yX3_byHalves, cX3_byHalves, 3, (some FieldType.int))
theorem mf_X3_byHalves : MF mm_X3_byHalves 2 := ⟨tb_3 (List.mem_of_getElem? (i := 199) rfl) rfl, it_X3, ⟨by decide, by decide⟩, by decide +kernel, by decide⟩
theorem mi_X3_byHalves : Cond.instanceMethod yX3_byHalves ∈ WS := tb_3 (List.mem_of_getElem? (i := 197) rfl) rfl
theorem mv_X3_byHalves : Cond.selects yX3_byHalves.cls yX3_byHalves yX3_byHalves ∈ WS := tb_3 (List.mem_of_getElem? (i := 198) rfl) rfl
abbrev mm_X9_bestMove : MI := (yX9_bestMove, cX9_bestMove, 4, (some FieldType.int))
theorem mf_X9_bestMove : MF mm_X9_bestMove 0 := ⟨tb_3 (List.mem_of_getElem? (i := 203) rfl) rfl, it_X9, ⟨by decide, by decide⟩, by decide +kernel, by decide⟩
theorem mi_X9_bestMove : Cond.instanceMethod yX9_bestMove ∈ WS := tb_3 (List.mem_of_getElem? (i := 201) rfl) rfl
theorem mv_X9_bestMove : Cond.selects yX9_bestMove.cls yX9_bestMove yX9_bestMove ∈ WS := tb_3 (List.mem_of_getElem? (i := 202) rfl) rfl
abbrev mm_X9_pairsBehind : MI := (yX9_pairsBehind, cX9_pairsBehind, 3, (some FieldType.int))
theorem mf_X9_pairsBehind : MF mm_X9_pairsBehind 2 := ⟨tb_3 (List.mem_of_getElem? (i := 207) rfl) rfl, it_X9, ⟨by decide, by decide⟩, by decide +kernel, by decide⟩
theorem mi_X9_pairsBehind : Cond.instanceMethod yX9_pairsBehind ∈ WS := tb_3 (List.mem_of_getElem? (i := 206) rfl) rfl
theorem mv_X9_pairsBehind : Cond.selects yX9_pairsBehind.cls yX9_pairsBehind yX9_pairsBehind ∈ WS := mem_WS (List.mem_append_left _ (List.mem_of_getElem? (i := 6) (by decide +kernel))) rfl
abbrev mm_L_best : MI := (yL_best, cL_best, 7, (some FieldType.int))
theorem mf_L_best : MF mm_L_best 2 := ⟨tb_3 (List.mem_of_getElem? (i := 210) rfl) rfl, it_L, ⟨by decide, by decide⟩, by decide +kernel, by decide⟩
theorem ms_L_best : Cond.static yL_best ∈ WS := tb_3 (List.mem_of_getElem? (i := 209) rfl) rfl
theorem mi_Object : Cond.instanceMethod Lib.objectInit ∈ WS := tb_1 (List.mem_of_getElem? (i := 23) rfl) rfl
theorem mc_Object : Cond.code Lib.objectInit ⟨#[0xb1]⟩ 1 none ∈ WS := tb_1 (List.mem_of_getElem? (i := 24) rfl) rfl
theorem lk_L_159 : Cond.methodLink RL 159 yX9_init ∈ WS := tb_1 (List.mem_of_getElem? (i := 19) rfl) rfl
theorem lo_X9_1 : Cond.methodLink RX9 1 Lib.objectInit ∈ WS := tb_1 (List.mem_of_getElem? (i := 22) rfl) rfl
theorem lk_X9_9 : Cond.methodLink RX9 9 yX6_init ∈ WS := tb_1 (List.mem_of_getElem? (i := 27) rfl) rfl
theorem lo_X6_3 : Cond.methodLink RX6 3 Lib.objectInit ∈ WS := tb_1 (List.mem_of_getElem? (i := 30) rfl) rfl
theorem lk_X6_11 : Cond.methodLink RX6 11 yX5_init ∈ WS := tb_1 (List.mem_of_getElem? (i := 33) rfl) rfl
theorem lo_X5_1 : Cond.methodLink RX5 1 Lib.objectInit ∈ WS := tb_1 (List.mem_of_getElem? (i := 36) rfl) rfl
theorem lk_X9_25 : Cond.methodLink RX9 25 yX1_init ∈ WS := tb_1 (List.mem_of_getElem? (i := 61) rfl) rfl
theorem lo_X1_3 : Cond.methodLink RX1 3 Lib.objectInit ∈ WS := tb_1 (List.mem_of_getElem? (i := 64) rfl) rfl
theorem lk_X1_17 : Cond.methodLink RX1 17 yX6_init ∈ WS := tb_1 (List.mem_of_getElem? (i := 67) rfl) rfl
theorem lk_X9_32 : Cond.methodLink RX9 32 yX7_init ∈ WS := tb_1 (List.mem_of_getElem? (i := 81) rfl) rfl
theorem lo_X7_3 : Cond.methodLink RX7 3 Lib.objectInit ∈ WS := tb_1 (List.mem_of_getElem? (i := 84) rfl) rfl
theorem lk_X9_39 : Cond.methodLink RX9 39 yX2_init ∈ WS := tb_1 (List.mem_of_getElem? (i := 94) rfl) rfl
theorem lo_X2_3 : Cond.methodLink RX2 3 Lib.objectInit ∈ WS := tb_1 (List.mem_of_getElem? (i := 97) rfl) rfl
theorem lk_X9_46 : Cond.methodLink RX9 46 yX3_init ∈ WS := tb_1 (List.mem_of_getElem? (i := 107) rfl) rfl
theorem lo_X3_3 : Cond.methodLink RX3 3 Lib.objectInit ∈ WS := tb_1 (List.mem_of_getElem? (i := 110) rfl) rfl
theorem lk_X9_53 : Cond.methodLink RX9 53 yX0_init ∈ WS := tb_1 (List.mem_of_getElem? (i := 128) rfl) rfl
theorem lo_X0_3 : Cond.methodLink RX0 3 Lib.objectInit ∈ WS := tb_1 (List.mem_of_getElem? (i := 131) rfl) rfl
theorem lk_X9_60 : Cond.methodLink RX9 60 yX8_init ∈ WS := tb_1 (List.mem_of_getElem? (i := 146) rfl) rfl
theorem lo_X8_3 : Cond.methodLink RX8 3 Lib.objectInit ∈ WS := tb_1 (List.mem_of_getElem? (i := 149) rfl) rfl
theorem lk_X8_11 : Cond.methodLink RX8 11 yX5_init ∈ WS := tb_1 (List.mem_of_getElem? (i := 151) rfl) rfl
theorem lk_X8_25 : Cond.methodLink RX8 25 yX0_init ∈ WS := tb_1 (List.mem_of_getElem? (i := 153) rfl) rfl
theorem lk_X9_67 : Cond.methodLink RX9 67 yX5_init ∈ WS := tb_1 (List.mem_of_getElem? (i := 174) rfl) rfl
theorem lk_L_160 : LK RL 160 mm_L_cell := Or.inl (tb_1 (List.mem_of_getElem? (i := 206) rfl) rfl)
theorem lk_L_116 : LK RL 116 mm_L_low := Or.inl (tb_1 (List.mem_of_getElem? (i := 211) rfl) rfl)
theorem lk_L_34 : LK RL 34 mm_X9_undo := Or.inl (tb_1 (List.mem_of_getElem? (i := 219) rfl) rfl)
theorem lk_X9_195 : LK RX9 195 mm_X1_takeBack := Or.inl (tb_2 (List.mem_of_getElem? (i := 51) rfl) rfl)
theorem lk_X1_25 : LK RX1 25 mm_X1_slotAt := Or.inl (tb_2 (List.mem_of_getElem? (i := 55) rfl) rfl)
theorem lk_X1_29 : LK RX1 29 mm_X6_become := Or.inl (tb_2 (List.mem_of_getElem? (i := 59) rfl) rfl)
theorem lk_X6_24 : LK RX6 24 mm_X5_become := Or.inl (tb_2 (List.mem_of_getElem? (i := 63) rfl) rfl)
theorem lk_X5_25 : LK RX5 25 mm_X5_empty := Or.inl (tb_2 (List.mem_of_getElem? (i := 67) rfl) rfl)
theorem lk_X5_28 : LK RX5 28 mm_X5_addAll := Or.inl (tb_2 (List.mem_of_getElem? (i := 71) rfl) rfl)
theorem lk_X5_17 : LK RX5 17 mm_X5_at := Or.inl (tb_2 (List.mem_of_getElem? (i := 75) rfl) rfl)
theorem lk_X5_21 : LK RX5 21 mm_X5_add := Or.inl (tb_2 (List.mem_of_getElem? (i := 79) rfl) rfl)
theorem lk_L_103 : LK RL 103 mm_L_why := Or.inl (tb_2 (List.mem_of_getElem? (i := 83) rfl) rfl)
theorem lk_L_63 : LK RL 63 mm_L_rank := Or.inl (tb_2 (List.mem_of_getElem? (i := 86) rfl) rfl)
theorem lk_L_164 : LK RL 164 mm_L_told := Or.inl (tb_2 (List.mem_of_getElem? (i := 89) rfl) rfl)
theorem lk_L_37 : LK RL 37 mm_X9_crossing := Or.inl (tb_2 (List.mem_of_getElem? (i := 98) rfl) rfl)
theorem lk_X9_204 : LK RX9 204 mm_X9_crossingOrNone := Or.inl (tb_2 (List.mem_of_getElem? (i := 118) rfl) rfl)
theorem lk_X9_106 : LK RX9 106 mm_X5_at := Or.inl (tb_2 (List.mem_of_getElem? (i := 121) rfl) rfl)
theorem lk_L_54 : LK RL 54 mm_X9_count := Or.inl (tb_2 (List.mem_of_getElem? (i := 125) rfl) rfl)
theorem lk_X9_247 : LK RX9 247 mm_X9_countOf := Or.inl (tb_2 (List.mem_of_getElem? (i := 130) rfl) rfl)
theorem lk_X9_152 : LK RX9 152 mm_X5_twist := Or.inl (tb_2 (List.mem_of_getElem? (i := 134) rfl) rfl)
theorem lk_X5_36 : LK RX5 36 mm_X5_overFromLeft := Or.inl (tb_2 (List.mem_of_getElem? (i := 138) rfl) rfl)
theorem lk_X9_322 : LK RX9 322 mm_X5_overFromLeft := Or.inl (tb_2 (List.mem_of_getElem? (i := 142) rfl) rfl)
theorem lk_X9_325 : LK RX9 325 mm_X5_rankMask := Or.inl (tb_2 (List.mem_of_getElem? (i := 143) rfl) rfl)
theorem lk_X5_40 : LK RX5 40 mm_X9_rankOf := Or.inr ⟨"LaceTangles", tb_2 (List.mem_of_getElem? (i := 147) rfl) rfl⟩
theorem lk_X9_155 : LK RX9 155 mm_X0_findIn := Or.inl (tb_2 (List.mem_of_getElem? (i := 150) rfl) rfl)
theorem lk_X0_22 : LK RX0 22 mm_X0_forget := Or.inl (tb_2 (List.mem_of_getElem? (i := 154) rfl) rfl)
theorem lk_X0_30 : LK RX0 30 mm_X5_at := Or.inl (tb_2 (List.mem_of_getElem? (i := 158) rfl) rfl)
theorem lk_X0_34 : LK RX0 34 mm_X9_rankOf := Or.inr ⟨"LaceTangles", tb_2 (List.mem_of_getElem? (i := 159) rfl) rfl⟩
theorem lk_L_168 : LK RL 168 mm_L_call := Or.inl (tb_2 (List.mem_of_getElem? (i := 160) rfl) rfl)
theorem lk_L_10 : LK RL 10 mm_X9_cross := Or.inl (tb_2 (List.mem_of_getElem? (i := 166) rfl) rfl)
theorem lk_X9_74 : LK RX9 74 mm_X9_isCrossing := Or.inl (tb_2 (List.mem_of_getElem? (i := 170) rfl) rfl)
theorem lk_X9_97 : LK RX9 97 mm_X1_save := Or.inl (tb_2 (List.mem_of_getElem? (i := 175) rfl) rfl)
theorem lk_X9_101 : LK RX9 101 mm_X5_add := Or.inl (tb_2 (List.mem_of_getElem? (i := 179) rfl) rfl)
theorem lk_L_20 : LK RL 20 mm_X9_open := Or.inl (tb_2 (List.mem_of_getElem? (i := 183) rfl) rfl)
theorem lk_L_24 : LK RL 24 mm_X9_move := Or.inl (tb_2 (List.mem_of_getElem? (i := 191) rfl) rfl)
theorem lk_X9_110 : LK RX9 110 mm_X9_isMove := Or.inl (tb_2 (List.mem_of_getElem? (i := 195) rfl) rfl)
theorem lk_X9_115 : LK RX9 115 mm_X4_reasonAgainst := Or.inl (tb_2 (List.mem_of_getElem? (i := 199) rfl) rfl)
theorem lk_X4_15 : LK RX4 15 mm_X5_at := Or.inl (tb_2 (List.mem_of_getElem? (i := 202) rfl) rfl)
theorem lk_X4_19 : LK RX4 19 mm_X4_againstCancel := Or.inl (tb_2 (List.mem_of_getElem? (i := 203) rfl) rfl)
theorem lk_X4_25 : LK RX4 25 mm_X9_rankOf := Or.inr ⟨"LaceTangles", tb_2 (List.mem_of_getElem? (i := 206) rfl) rfl⟩
theorem lk_X4_32 : LK RX4 32 mm_X9_signOf := Or.inr ⟨"LaceTangles", tb_2 (List.mem_of_getElem? (i := 207) rfl) rfl⟩
theorem lk_X4_28 : LK RX4 28 mm_X4_againstThree := Or.inl (tb_2 (List.mem_of_getElem? (i := 210) rfl) rfl)
theorem lk_X9_123 : LK RX9 123 mm_X4_make := Or.inl (tb_2 (List.mem_of_getElem? (i := 214) rfl) rfl)
theorem lk_X4_35 : LK RX4 35 mm_X5_removePair := Or.inl (tb_2 (List.mem_of_getElem? (i := 217) rfl) rfl)
theorem lk_X5_32 : LK RX5 32 mm_X5_put := Or.inl (tb_2 (List.mem_of_getElem? (i := 221) rfl) rfl)
theorem lk_X4_39 : LK RX4 39 mm_X5_put := Or.inl (tb_2 (List.mem_of_getElem? (i := 225) rfl) rfl)
theorem lk_L_28 : LK RL 28 mm_X9_pair := Or.inl (tb_2 (List.mem_of_getElem? (i := 229) rfl) rfl)
theorem lk_X9_134 : LK RX9 134 mm_X5_insertPair := Or.inl (tb_2 (List.mem_of_getElem? (i := 235) rfl) rfl)
theorem lk_L_95 : LK RL 95 mm_X9_pull := Or.inl (tb_2 (List.mem_of_getElem? (i := 239) rfl) rfl)
theorem lk_X9_138 : LK RX9 138 mm_X5_cancelAll := Or.inl (tb_3 (List.mem_of_getElem? (i := 3) rfl) rfl)
theorem lk_L_98 : LK RL 98 mm_X9_turn := Or.inl (tb_3 (List.mem_of_getElem? (i := 7) rfl) rfl)
theorem lk_X9_142 : LK RX9 142 mm_X5_empty := Or.inl (tb_3 (List.mem_of_getElem? (i := 11) rfl) rfl)
theorem lk_X9_145 : LK RX9 145 mm_X5_addTurned := Or.inl (tb_3 (List.mem_of_getElem? (i := 12) rfl) rfl)
theorem lk_X9_149 : LK RX9 149 mm_X5_become := Or.inl (tb_3 (List.mem_of_getElem? (i := 16) rfl) rfl)
theorem lk_L_31 : LK RL 31 mm_X9_handle := Or.inl (tb_3 (List.mem_of_getElem? (i := 20) rfl) rfl)
theorem lk_X9_161 : LK RX9 161 mm_X0_lengthWithout := Or.inl (tb_3 (List.mem_of_getElem? (i := 25) rfl) rfl)
theorem lk_X9_167 : LK RX9 167 mm_X0_takeOut := Or.inl (tb_3 (List.mem_of_getElem? (i := 30) rfl) rfl)
theorem lk_X0_37 : LK RX0 37 mm_X9_signOf := Or.inr ⟨"LaceTangles", tb_3 (List.mem_of_getElem? (i := 34) rfl) rfl⟩
theorem lk_X0_40 : LK RX0 40 mm_X5_empty := Or.inl (tb_3 (List.mem_of_getElem? (i := 35) rfl) rfl)
theorem lk_X0_43 : LK RX0 43 mm_X5_add := Or.inl (tb_3 (List.mem_of_getElem? (i := 36) rfl) rfl)
theorem lk_L_174 : LK RL 174 mm_L_due := Or.inl (tb_3 (List.mem_of_getElem? (i := 37) rfl) rfl)
theorem lk_L_107 : LK RL 107 mm_L_makes := Or.inl (tb_3 (List.mem_of_getElem? (i := 40) rfl) rfl)
theorem lk_L_68 : LK RL 68 mm_L_cuts := Or.inl (tb_3 (List.mem_of_getElem? (i := 43) rfl) rfl)
theorem lk_L_110 : LK RL 110 mm_L_pulls := Or.inl (tb_3 (List.mem_of_getElem? (i := 46) rfl) rfl)
theorem lk_L_113 : LK RL 113 mm_L_undoes := Or.inl (tb_3 (List.mem_of_getElem? (i := 49) rfl) rfl)
theorem lk_L_72 : LK RL 72 mm_L_first := Or.inl (tb_3 (List.mem_of_getElem? (i := 52) rfl) rfl)
theorem lk_L_178 : LK RL 178 mm_L_isSo := Or.inl (tb_3 (List.mem_of_getElem? (i := 55) rfl) rfl)
theorem lk_L_57 : LK RL 57 mm_X9_whyNot := Or.inl (tb_3 (List.mem_of_getElem? (i := 61) rfl) rfl)
theorem lk_L_60 : LK RL 60 mm_X9_possible := Or.inl (tb_3 (List.mem_of_getElem? (i := 68) rfl) rfl)
theorem lk_X9_278 : LK RX9 278 mm_X4_placesFor := Or.inl (tb_3 (List.mem_of_getElem? (i := 73) rfl) rfl)
theorem lk_X4_43 : LK RX4 43 mm_X4_reasonAgainst := Or.inl (tb_3 (List.mem_of_getElem? (i := 76) rfl) rfl)
theorem lk_L_135 : LK RL 135 mm_L_possibles := Or.inl (tb_3 (List.mem_of_getElem? (i := 77) rfl) rfl)
theorem lk_L_142 : LK RL 142 mm_X9_slack := Or.inl (tb_3 (List.mem_of_getElem? (i := 80) rfl) rfl)
theorem lk_L_146 : LK RL 146 mm_L_areLaces := Or.inl (tb_3 (List.mem_of_getElem? (i := 84) rfl) rfl)
theorem lk_L_40 : LK RL 40 mm_X9_lies := Or.inl (tb_3 (List.mem_of_getElem? (i := 91) rfl) rfl)
theorem lk_X9_208 : LK RX9 208 mm_X9_isLace := Or.inl (tb_3 (List.mem_of_getElem? (i := 95) rfl) rfl)
theorem lk_X9_218 : LK RX9 218 mm_X2_follow := Or.inl (tb_3 (List.mem_of_getElem? (i := 115) rfl) rfl)
theorem lk_X2_24 : LK RX2 24 mm_X5_at := Or.inl (tb_3 (List.mem_of_getElem? (i := 119) rfl) rfl)
theorem lk_X2_28 : LK RX2 28 mm_X2_change := Or.inl (tb_3 (List.mem_of_getElem? (i := 120) rfl) rfl)
theorem lk_X2_32 : LK RX2 32 mm_X9_rankOf := Or.inr ⟨"LaceTangles", tb_3 (List.mem_of_getElem? (i := 124) rfl) rfl⟩
theorem lk_X2_35 : LK RX2 35 mm_X9_signOf := Or.inr ⟨"LaceTangles", tb_3 (List.mem_of_getElem? (i := 125) rfl) rfl⟩
theorem lk_X2_38 : LK RX2 38 mm_X2_addTo := Or.inl (tb_3 (List.mem_of_getElem? (i := 126) rfl) rfl)
theorem lk_X2_42 : LK RX2 42 mm_X9_isLace := Or.inr ⟨"LaceTangles", tb_3 (List.mem_of_getElem? (i := 130) rfl) rfl⟩
theorem lk_X9_222 : LK RX9 222 mm_X2_laceAt := Or.inl (tb_3 (List.mem_of_getElem? (i := 131) rfl) rfl)
theorem lk_L_45 : LK RL 45 mm_X9_winding := Or.inl (tb_3 (List.mem_of_getElem? (i := 138) rfl) rfl)
theorem lk_X9_227 : LK RX9 227 mm_X2_sumOf := Or.inl (tb_3 (List.mem_of_getElem? (i := 143) rfl) rfl)
theorem lk_L_150 : LK RL 150 mm_L_isMeasure := Or.inl (tb_3 (List.mem_of_getElem? (i := 147) rfl) rfl)
theorem lk_L_48 : LK RL 48 mm_X9_measure := Or.inl (tb_3 (List.mem_of_getElem? (i := 157) rfl) rfl)
theorem lk_X9_233 : LK RX9 233 mm_X3_reckonInOrder := Or.inl (tb_3 (List.mem_of_getElem? (i := 162) rfl) rfl)
theorem lk_X3_26 : LK RX3 26 mm_X3_fillWithNone := Or.inl (tb_3 (List.mem_of_getElem? (i := 166) rfl) rfl)
theorem lk_X3_36 : LK RX3 36 mm_X5_at := Or.inl (tb_3 (List.mem_of_getElem? (i := 169) rfl) rfl)
theorem lk_X3_40 : LK RX3 40 mm_X3_fillWithOne := Or.inl (tb_3 (List.mem_of_getElem? (i := 170) rfl) rfl)
theorem lk_X3_56 : LK RX3 56 mm_X9_rankOf := Or.inr ⟨"LaceTangles", tb_3 (List.mem_of_getElem? (i := 173) rfl) rfl⟩
theorem lk_X3_44 : LK RX3 44 mm_X3_multiply := Or.inl (tb_3 (List.mem_of_getElem? (i := 174) rfl) rfl)
theorem lk_X9_236 : LK RX9 236 mm_X3_inOrder := Or.inl (tb_3 (List.mem_of_getElem? (i := 177) rfl) rfl)
theorem lk_X3_52 : LK RX3 52 mm_X9_isLace := Or.inr ⟨"LaceTangles", tb_3 (List.mem_of_getElem? (i := 181) rfl) rfl⟩
theorem lk_L_51 : LK RL 51 mm_X9_halved := Or.inl (tb_3 (List.mem_of_getElem? (i := 185) rfl) rfl)
theorem lk_X9_239 : LK RX9 239 mm_X3_reckonByHalves := Or.inl (tb_3 (List.mem_of_getElem? (i := 189) rfl) rfl)
theorem lk_X3_48 : LK RX3 48 mm_X3_halve := Or.inl (tb_3 (List.mem_of_getElem? (i := 193) rfl) rfl)
theorem lk_X9_242 : LK RX9 242 mm_X3_byHalves := Or.inl (tb_3 (List.mem_of_getElem? (i := 196) rfl) rfl)
theorem lk_L_153 : LK RL 153 mm_X9_bestMove := Or.inl (tb_3 (List.mem_of_getElem? (i := 200) rfl) rfl)
theorem lk_X9_281 : LK RX9 281 mm_X9_pairsBehind := Or.inl (tb_3 (List.mem_of_getElem? (i := 204) rfl) rfl)
theorem lk_L_156 : LK RL 156 mm_L_best := Or.inl (tb_3 (List.mem_of_getElem? (i := 208) rfl) rfl)
theorem fg_X5_7 : FL RX5 7 4 0 := ⟨RX5, TX5, 2, tyX5, rfl, in_X5, tyX5_ok, nmX5, by decide, Or.inl (tb_1 (List.mem_of_getElem? (i := 37) rfl) rfl)⟩
theorem fp_X5_7 : FPF RX5 7 4 0 (.array .int) := ⟨RX5, TX5, 2, tyX5, rfl, in_X5, tyX5_ok, nmX5, by decide, tb_1 (List.mem_of_getElem? (i := 37) rfl) rfl, rfl, rfl, by decide +kernel⟩
theorem fg_X5_13 : FL RX5 13 4 1 := ⟨RX5, TX5, 2, tyX5, rfl, in_X5, tyX5_ok, nmX5, by decide, Or.inl (tb_1 (List.mem_of_getElem? (i := 38) rfl) rfl)⟩
theorem fp_X5_13 : FP RX5 13 4 1 (.int) := ⟨RX5, TX5, 2, tyX5, rfl, in_X5, tyX5_ok, nmX5, by decide, tb_1 (List.mem_of_getElem? (i := 38) rfl) rfl, rfl, by decide +kernel⟩
theorem fg_X0_25 : FL RX0 25 4 1 := ⟨RX5, TX5, 2, tyX5, rfl, in_X5, tyX5_ok, nmX5, by decide, Or.inr ⟨"LaceTangles", tb_1 (List.mem_of_getElem? (i := 39) rfl) rfl⟩⟩
theorem fg_X3_30 : FL RX3 30 4 1 := ⟨RX5, TX5, 2, tyX5, rfl, in_X5, tyX5_ok, nmX5, by decide, Or.inr ⟨"LaceTangles", tb_1 (List.mem_of_getElem? (i := 40) rfl) rfl⟩⟩
theorem fg_X4_9 : FL RX4 9 4 1 := ⟨RX5, TX5, 2, tyX5, rfl, in_X5, tyX5_ok, nmX5, by decide, Or.inr ⟨"LaceTangles", tb_1 (List.mem_of_getElem? (i := 41) rfl) rfl⟩⟩
theorem fg_X9_88 : FL RX9 88 4 1 := ⟨RX5, TX5, 2, tyX5, rfl, in_X5, tyX5_ok, nmX5, by decide, Or.inr ⟨"LaceTangles", tb_1 (List.mem_of_getElem? (i := 42) rfl) rfl⟩⟩
theorem fp_X9_88 : FPN RX9 88 4 1 (.int) := ⟨RX5, TX5, 2, tyX5, rfl, in_X5, tyX5_ok, nmX5, by decide, ⟨"LaceTangles", tb_1 (List.mem_of_getElem? (i := 42) rfl) rfl⟩, rfl, by decide +kernel⟩
theorem fg_X2_18 : FL RX2 18 4 1 := ⟨RX5, TX5, 2, tyX5, rfl, in_X5, tyX5_ok, nmX5, by decide, Or.inr ⟨"LaceTangles", tb_1 (List.mem_of_getElem? (i := 43) rfl) rfl⟩⟩
theorem fg_X6_14 : FL RX6 14 5 0 := ⟨RX6, TX6, 2, tyX6, rfl, in_X6, tyX6_ok, nmX6, by decide, Or.inl (tb_1 (List.mem_of_getElem? (i := 50) rfl) rfl)⟩
theorem fp_X6_14 : FPF RX6 14 5 0 (.object "LaceTangles$Row") := ⟨RX6, TX6, 2, tyX6, rfl, in_X6, tyX6_ok, nmX6, by decide, tb_1 (List.mem_of_getElem? (i := 50) rfl) rfl, rfl, rfl, by decide +kernel⟩
theorem fg_X9_85 : FL RX9 85 5 0 := ⟨RX6, TX6, 2, tyX6, rfl, in_X6, tyX6_ok, nmX6, by decide, Or.inr ⟨"LaceTangles", tb_1 (List.mem_of_getElem? (i := 51) rfl) rfl⟩⟩
theorem fg_X6_20 : FL RX6 20 5 1 := ⟨RX6, TX6, 2, tyX6, rfl, in_X6, tyX6_ok, nmX6, by decide, Or.inl (tb_1 (List.mem_of_getElem? (i := 52) rfl) rfl)⟩
theorem fp_X6_20 : FP RX6 20 5 1 (.int) := ⟨RX6, TX6, 2, tyX6, rfl, in_X6, tyX6_ok, nmX6, by decide, tb_1 (List.mem_of_getElem? (i := 52) rfl) rfl, rfl, by decide +kernel⟩
theorem fg_X9_127 : FL RX9 127 5 1 := ⟨RX6, TX6, 2, tyX6, rfl, in_X6, tyX6_ok, nmX6, by decide, Or.inr ⟨"LaceTangles", tb_1 (List.mem_of_getElem? (i := 53) rfl) rfl⟩⟩
theorem fp_X9_127 : FPN RX9 127 5 1 (.int) := ⟨RX6, TX6, 2, tyX6, rfl, in_X6, tyX6_ok, nmX6, by decide, ⟨"LaceTangles", tb_1 (List.mem_of_getElem? (i := 53) rfl) rfl⟩, rfl, by decide +kernel⟩
theorem fg_X1_11 : FL RX1 11 1 0 := ⟨RX1, TX1, 3, tyX1, rfl, in_X1, tyX1_ok, nmX1, by decide, Or.inl (tb_1 (List.mem_of_getElem? (i := 68) rfl) rfl)⟩
theorem fp_X1_11 : FPF RX1 11 1 0 (.array (.object "LaceTangles$State")) := ⟨RX1, TX1, 3, tyX1, rfl, in_X1, tyX1_ok, nmX1, by decide, tb_1 (List.mem_of_getElem? (i := 68) rfl) rfl, rfl, rfl, by decide +kernel⟩
theorem fg_X1_18 : FL RX1 18 1 1 := ⟨RX1, TX1, 3, tyX1, rfl, in_X1, tyX1_ok, nmX1, by decide, Or.inl (tb_1 (List.mem_of_getElem? (i := 69) rfl) rfl)⟩
theorem fp_X1_18 : FP RX1 18 1 1 (.int) := ⟨RX1, TX1, 3, tyX1, rfl, in_X1, tyX1_ok, nmX1, by decide, tb_1 (List.mem_of_getElem? (i := 69) rfl) rfl, rfl, by decide +kernel⟩
theorem fg_X1_22 : FL RX1 22 1 2 := ⟨RX1, TX1, 3, tyX1, rfl, in_X1, tyX1_ok, nmX1, by decide, Or.inl (tb_1 (List.mem_of_getElem? (i := 70) rfl) rfl)⟩
theorem fp_X1_22 : FP RX1 22 1 2 (.int) := ⟨RX1, TX1, 3, tyX1, rfl, in_X1, tyX1_ok, nmX1, by decide, tb_1 (List.mem_of_getElem? (i := 70) rfl) rfl, rfl, by decide +kernel⟩
theorem fg_X9_190 : FL RX9 190 1 2 := ⟨RX1, TX1, 3, tyX1, rfl, in_X1, tyX1_ok, nmX1, by decide, Or.inr ⟨"LaceTangles", tb_1 (List.mem_of_getElem? (i := 71) rfl) rfl⟩⟩
theorem fg_X7_9 : FL RX7 9 6 0 := ⟨RX7, TX7, 2, tyX7, rfl, in_X7, tyX7_ok, nmX7, by decide, Or.inl (tb_1 (List.mem_of_getElem? (i := 85) rfl) rfl)⟩
theorem fp_X7_9 : FPF RX7 9 6 0 (.array .int) := ⟨RX7, TX7, 2, tyX7, rfl, in_X7, tyX7_ok, nmX7, by decide, tb_1 (List.mem_of_getElem? (i := 85) rfl) rfl, rfl, rfl, by decide +kernel⟩
theorem fg_X7_15 : FL RX7 15 6 1 := ⟨RX7, TX7, 2, tyX7, rfl, in_X7, tyX7_ok, nmX7, by decide, Or.inl (tb_1 (List.mem_of_getElem? (i := 86) rfl) rfl)⟩
theorem fp_X7_15 : FP RX7 15 6 1 (.int) := ⟨RX7, TX7, 2, tyX7, rfl, in_X7, tyX7_ok, nmX7, by decide, tb_1 (List.mem_of_getElem? (i := 86) rfl) rfl, rfl, by decide +kernel⟩
theorem fg_X2_9 : FL RX2 9 2 0 := ⟨RX2, TX2, 2, tyX2, rfl, in_X2, tyX2_ok, nmX2, by decide, Or.inl (tb_1 (List.mem_of_getElem? (i := 98) rfl) rfl)⟩
theorem fp_X2_9 : FPF RX2 9 2 0 (.array .int) := ⟨RX2, TX2, 2, tyX2, rfl, in_X2, tyX2_ok, nmX2, by decide, tb_1 (List.mem_of_getElem? (i := 98) rfl) rfl, rfl, rfl, by decide +kernel⟩
theorem fg_X2_15 : FL RX2 15 2 1 := ⟨RX2, TX2, 2, tyX2, rfl, in_X2, tyX2_ok, nmX2, by decide, Or.inl (tb_1 (List.mem_of_getElem? (i := 99) rfl) rfl)⟩
theorem fp_X2_15 : FPF RX2 15 2 1 (.array .int) := ⟨RX2, TX2, 2, tyX2, rfl, in_X2, tyX2_ok, nmX2, by decide, tb_1 (List.mem_of_getElem? (i := 99) rfl) rfl, rfl, rfl, by decide +kernel⟩
theorem fg_X3_11 : FL RX3 11 3 0 := ⟨RX3, TX3, 4, tyX3, rfl, in_X3, tyX3_ok, nmX3, by decide, Or.inl (tb_1 (List.mem_of_getElem? (i := 113) rfl) rfl)⟩
theorem fp_X3_11 : FPF RX3 11 3 0 (.array .int) := ⟨RX3, TX3, 4, tyX3, rfl, in_X3, tyX3_ok, nmX3, by decide, tb_1 (List.mem_of_getElem? (i := 113) rfl) rfl, rfl, rfl, by decide +kernel⟩
theorem fg_X3_15 : FL RX3 15 3 1 := ⟨RX3, TX3, 4, tyX3, rfl, in_X3, tyX3_ok, nmX3, by decide, Or.inl (tb_1 (List.mem_of_getElem? (i := 114) rfl) rfl)⟩
theorem fp_X3_15 : FPF RX3 15 3 1 (.array .int) := ⟨RX3, TX3, 4, tyX3, rfl, in_X3, tyX3_ok, nmX3, by decide, tb_1 (List.mem_of_getElem? (i := 114) rfl) rfl, rfl, rfl, by decide +kernel⟩
theorem fg_X3_18 : FL RX3 18 3 2 := ⟨RX3, TX3, 4, tyX3, rfl, in_X3, tyX3_ok, nmX3, by decide, Or.inl (tb_1 (List.mem_of_getElem? (i := 115) rfl) rfl)⟩
theorem fp_X3_18 : FPF RX3 18 3 2 (.array .int) := ⟨RX3, TX3, 4, tyX3, rfl, in_X3, tyX3_ok, nmX3, by decide, tb_1 (List.mem_of_getElem? (i := 115) rfl) rfl, rfl, rfl, by decide +kernel⟩
theorem fg_X3_23 : FL RX3 23 3 3 := ⟨RX3, TX3, 4, tyX3, rfl, in_X3, tyX3_ok, nmX3, by decide, Or.inl (tb_1 (List.mem_of_getElem? (i := 116) rfl) rfl)⟩
theorem fp_X3_23 : FPF RX3 23 3 3 (.array (.array .int)) := ⟨RX3, TX3, 4, tyX3, rfl, in_X3, tyX3_ok, nmX3, by decide, tb_1 (List.mem_of_getElem? (i := 116) rfl) rfl, rfl, rfl, by decide +kernel⟩
theorem fg_X0_9 : FL RX0 9 0 0 := ⟨RX0, TX0, 3, tyX0, rfl, in_X0, tyX0_ok, nmX0, by decide, Or.inl (tb_1 (List.mem_of_getElem? (i := 132) rfl) rfl)⟩
theorem fp_X0_9 : FPF RX0 9 0 0 (.array .int) := ⟨RX0, TX0, 3, tyX0, rfl, in_X0, tyX0_ok, nmX0, by decide, tb_1 (List.mem_of_getElem? (i := 132) rfl) rfl, rfl, rfl, by decide +kernel⟩
theorem fg_X0_15 : FL RX0 15 0 1 := ⟨RX0, TX0, 3, tyX0, rfl, in_X0, tyX0_ok, nmX0, by decide, Or.inl (tb_1 (List.mem_of_getElem? (i := 133) rfl) rfl)⟩
theorem fp_X0_15 : FP RX0 15 0 1 (.int) := ⟨RX0, TX0, 3, tyX0, rfl, in_X0, tyX0_ok, nmX0, by decide, tb_1 (List.mem_of_getElem? (i := 133) rfl) rfl, rfl, by decide +kernel⟩
theorem fg_X9_328 : FL RX9 328 0 1 := ⟨RX0, TX0, 3, tyX0, rfl, in_X0, tyX0_ok, nmX0, by decide, Or.inr ⟨"LaceTangles", tb_1 (List.mem_of_getElem? (i := 134) rfl) rfl⟩⟩
theorem fg_X0_19 : FL RX0 19 0 2 := ⟨RX0, TX0, 3, tyX0, rfl, in_X0, tyX0_ok, nmX0, by decide, Or.inl (tb_1 (List.mem_of_getElem? (i := 135) rfl) rfl)⟩
theorem fp_X0_19 : FP RX0 19 0 2 (.int) := ⟨RX0, TX0, 3, tyX0, rfl, in_X0, tyX0_ok, nmX0, by decide, tb_1 (List.mem_of_getElem? (i := 135) rfl) rfl, rfl, by decide +kernel⟩
theorem fg_X9_330 : FL RX9 330 0 2 := ⟨RX0, TX0, 3, tyX0, rfl, in_X0, tyX0_ok, nmX0, by decide, Or.inr ⟨"LaceTangles", tb_1 (List.mem_of_getElem? (i := 136) rfl) rfl⟩⟩
theorem fg_X8_14 : FL RX8 14 7 0 := ⟨RX8, TX8, 6, tyX8, rfl, in_X8, tyX8_ok, nmX8, by decide, Or.inl (tb_1 (List.mem_of_getElem? (i := 154) rfl) rfl)⟩
theorem fp_X8_14 : FP RX8 14 7 0 (.object "LaceTangles$Row") := ⟨RX8, TX8, 6, tyX8, rfl, in_X8, tyX8_ok, nmX8, by decide, tb_1 (List.mem_of_getElem? (i := 154) rfl) rfl, rfl, by decide +kernel⟩
theorem fg_X8_20 : FL RX8 20 7 1 := ⟨RX8, TX8, 6, tyX8, rfl, in_X8, tyX8_ok, nmX8, by decide, Or.inl (tb_1 (List.mem_of_getElem? (i := 155) rfl) rfl)⟩
theorem fp_X8_20 : FP RX8 20 7 1 (.object "LaceTangles$Row") := ⟨RX8, TX8, 6, tyX8, rfl, in_X8, tyX8_ok, nmX8, by decide, tb_1 (List.mem_of_getElem? (i := 155) rfl) rfl, rfl, by decide +kernel⟩
theorem fg_X8_26 : FL RX8 26 7 2 := ⟨RX8, TX8, 6, tyX8, rfl, in_X8, tyX8_ok, nmX8, by decide, Or.inl (tb_1 (List.mem_of_getElem? (i := 156) rfl) rfl)⟩
theorem fp_X8_26 : FPF RX8 26 7 2 (.object "LaceTangles$Handle") := ⟨RX8, TX8, 6, tyX8, rfl, in_X8, tyX8_ok, nmX8, by decide, tb_1 (List.mem_of_getElem? (i := 156) rfl) rfl, rfl, rfl, by decide +kernel⟩
theorem fg_X8_30 : FL RX8 30 7 3 := ⟨RX8, TX8, 6, tyX8, rfl, in_X8, tyX8_ok, nmX8, by decide, Or.inl (tb_1 (List.mem_of_getElem? (i := 157) rfl) rfl)⟩
theorem fp_X8_30 : FP RX8 30 7 3 (.int) := ⟨RX8, TX8, 6, tyX8, rfl, in_X8, tyX8_ok, nmX8, by decide, tb_1 (List.mem_of_getElem? (i := 157) rfl) rfl, rfl, by decide +kernel⟩
theorem fg_X8_34 : FL RX8 34 7 4 := ⟨RX8, TX8, 6, tyX8, rfl, in_X8, tyX8_ok, nmX8, by decide, Or.inl (tb_1 (List.mem_of_getElem? (i := 158) rfl) rfl)⟩
theorem fp_X8_34 : FP RX8 34 7 4 (.int) := ⟨RX8, TX8, 6, tyX8, rfl, in_X8, tyX8_ok, nmX8, by decide, tb_1 (List.mem_of_getElem? (i := 158) rfl) rfl, rfl, by decide +kernel⟩
theorem fg_X8_37 : FL RX8 37 7 5 := ⟨RX8, TX8, 6, tyX8, rfl, in_X8, tyX8_ok, nmX8, by decide, Or.inl (tb_1 (List.mem_of_getElem? (i := 159) rfl) rfl)⟩
theorem fp_X8_37 : FP RX8 37 7 5 (.boolean) := ⟨RX8, TX8, 6, tyX8, rfl, in_X8, tyX8_ok, nmX8, by decide, tb_1 (List.mem_of_getElem? (i := 159) rfl) rfl, rfl, by decide +kernel⟩
theorem fg_X9_10 : FL RX9 10 8 0 := ⟨RX9, TX9, 10, tyX9, rfl, in_X9, tyX9_ok, nmX9, by decide, Or.inl (tb_1 (List.mem_of_getElem? (i := 175) rfl) rfl)⟩
theorem fp_X9_10 : FPF RX9 10 8 0 (.object "LaceTangles$State") := ⟨RX9, TX9, 10, tyX9, rfl, in_X9, tyX9_ok, nmX9, by decide, tb_1 (List.mem_of_getElem? (i := 175) rfl) rfl, rfl, rfl, by decide +kernel⟩
theorem fg_X9_16 : FL RX9 16 8 1 := ⟨RX9, TX9, 10, tyX9, rfl, in_X9, tyX9_ok, nmX9, by decide, Or.inl (tb_1 (List.mem_of_getElem? (i := 176) rfl) rfl)⟩
theorem fp_X9_16 : FPF RX9 16 8 1 (.object "LaceTangles$State") := ⟨RX9, TX9, 10, tyX9, rfl, in_X9, tyX9_ok, nmX9, by decide, tb_1 (List.mem_of_getElem? (i := 176) rfl) rfl, rfl, rfl, by decide +kernel⟩
theorem fg_X9_19 : FL RX9 19 8 2 := ⟨RX9, TX9, 10, tyX9, rfl, in_X9, tyX9_ok, nmX9, by decide, Or.inl (tb_1 (List.mem_of_getElem? (i := 177) rfl) rfl)⟩
theorem fp_X9_19 : FP RX9 19 8 2 (.boolean) := ⟨RX9, TX9, 10, tyX9, rfl, in_X9, tyX9_ok, nmX9, by decide, tb_1 (List.mem_of_getElem? (i := 177) rfl) rfl, rfl, by decide +kernel⟩
theorem fg_X9_26 : FL RX9 26 8 3 := ⟨RX9, TX9, 10, tyX9, rfl, in_X9, tyX9_ok, nmX9, by decide, Or.inl (tb_1 (List.mem_of_getElem? (i := 178) rfl) rfl)⟩
theorem fp_X9_26 : FPF RX9 26 8 3 (.object "LaceTangles$History") := ⟨RX9, TX9, 10, tyX9, rfl, in_X9, tyX9_ok, nmX9, by decide, tb_1 (List.mem_of_getElem? (i := 178) rfl) rfl, rfl, rfl, by decide +kernel⟩
theorem fg_X9_33 : FL RX9 33 8 4 := ⟨RX9, TX9, 10, tyX9, rfl, in_X9, tyX9_ok, nmX9, by decide, Or.inl (tb_1 (List.mem_of_getElem? (i := 179) rfl) rfl)⟩
theorem fp_X9_33 : FPF RX9 33 8 4 (.object "LaceTangles$Text") := ⟨RX9, TX9, 10, tyX9, rfl, in_X9, tyX9_ok, nmX9, by decide, tb_1 (List.mem_of_getElem? (i := 179) rfl) rfl, rfl, rfl, by decide +kernel⟩
theorem fg_X9_40 : FL RX9 40 8 5 := ⟨RX9, TX9, 10, tyX9, rfl, in_X9, tyX9_ok, nmX9, by decide, Or.inl (tb_1 (List.mem_of_getElem? (i := 180) rfl) rfl)⟩
theorem fp_X9_40 : FPF RX9 40 8 5 (.object "LaceTangles$Laces") := ⟨RX9, TX9, 10, tyX9, rfl, in_X9, tyX9_ok, nmX9, by decide, tb_1 (List.mem_of_getElem? (i := 180) rfl) rfl, rfl, rfl, by decide +kernel⟩
theorem fg_X9_47 : FL RX9 47 8 6 := ⟨RX9, TX9, 10, tyX9, rfl, in_X9, tyX9_ok, nmX9, by decide, Or.inl (tb_1 (List.mem_of_getElem? (i := 181) rfl) rfl)⟩
theorem fp_X9_47 : FPF RX9 47 8 6 (.object "LaceTangles$Measures") := ⟨RX9, TX9, 10, tyX9, rfl, in_X9, tyX9_ok, nmX9, by decide, tb_1 (List.mem_of_getElem? (i := 181) rfl) rfl, rfl, rfl, by decide +kernel⟩
theorem fg_X9_54 : FL RX9 54 8 7 := ⟨RX9, TX9, 10, tyX9, rfl, in_X9, tyX9_ok, nmX9, by decide, Or.inl (tb_1 (List.mem_of_getElem? (i := 182) rfl) rfl)⟩
theorem fp_X9_54 : FPF RX9 54 8 7 (.object "LaceTangles$Handle") := ⟨RX9, TX9, 10, tyX9, rfl, in_X9, tyX9_ok, nmX9, by decide, tb_1 (List.mem_of_getElem? (i := 182) rfl) rfl, rfl, rfl, by decide +kernel⟩
theorem fg_X9_61 : FL RX9 61 8 8 := ⟨RX9, TX9, 10, tyX9, rfl, in_X9, tyX9_ok, nmX9, by decide, Or.inl (tb_1 (List.mem_of_getElem? (i := 183) rfl) rfl)⟩
theorem fp_X9_61 : FPF RX9 61 8 8 (.object "LaceTangles$Untangler") := ⟨RX9, TX9, 10, tyX9, rfl, in_X9, tyX9_ok, nmX9, by decide, tb_1 (List.mem_of_getElem? (i := 183) rfl) rfl, rfl, rfl, by decide +kernel⟩
theorem fg_X9_70 : FL RX9 70 8 9 := ⟨RX9, TX9, 10, tyX9, rfl, in_X9, tyX9_ok, nmX9, by decide, Or.inl (tb_1 (List.mem_of_getElem? (i := 184) rfl) rfl)⟩
theorem fp_X9_70 : FPF RX9 70 8 9 (.object "LaceTangles$Row") := ⟨RX9, TX9, 10, tyX9, rfl, in_X9, tyX9_ok, nmX9, by decide, tb_1 (List.mem_of_getElem? (i := 184) rfl) rfl, rfl, rfl, by decide +kernel⟩
theorem kc_L_76 : Cond.constantLong RL 76 (61 : Int64) ∈ WS := tb_2 (List.mem_of_getElem? (i := 92) rfl) rfl
theorem kc_L_78 : Cond.constantLong RL 78 (31 : Int64) ∈ WS := tb_2 (List.mem_of_getElem? (i := 93) rfl) rfl
theorem kc_L_123 : Cond.constantLong RL 123 (10006 : Int64) ∈ WS := tb_3 (List.mem_of_getElem? (i := 150) rfl) rfl
theorem kc_L_125 : Cond.constantLong RL 125 (10007 : Int64) ∈ WS := tb_3 (List.mem_of_getElem? (i := 151) rfl) rfl
theorem kc_L_127 : Cond.constantLong RL 127 (5004 : Int64) ∈ WS := tb_3 (List.mem_of_getElem? (i := 152) rfl) rfl
theorem kc_L_129 : Cond.constantLong RL 129 (2 : Int64) ∈ WS := tb_3 (List.mem_of_getElem? (i := 153) rfl) rfl
theorem fn_L_11 : FN RL 11 8 [.null, .null, .int 0, .null, .null, .null, .null, .null, .null, .null] := ⟨RX9, TX9, 10, tyX9, rfl, in_X9, tyX9_ok, tb_1 (List.mem_of_getElem? (i := 17) rfl) rfl, tb_1 (List.mem_of_getElem? (i := 18) rfl) rfl, it_X9, rfl, fun j hj => by
  rcases (show j = 0 ∨ j = 1 ∨ j = 2 ∨ j = 3 ∨ j = 4 ∨ j = 5 ∨ j = 6 ∨ j = 7 ∨ j = 8 ∨ j = 9 by omega) with rfl | rfl | rfl | rfl | rfl | rfl | rfl | rfl | rfl | rfl <;> rfl⟩
theorem cl_L_11 : Cond.classLink RL 11 "LaceTangles" ∈ WS := tb_1 (List.mem_of_getElem? (i := 17) rfl) rfl
theorem fn_X9_7 : FN RX9 7 5 [.null, .int 0] := ⟨RX6, TX6, 2, tyX6, rfl, in_X6, tyX6_ok, tb_1 (List.mem_of_getElem? (i := 25) rfl) rfl, tb_1 (List.mem_of_getElem? (i := 26) rfl) rfl, it_X6, rfl, fun j hj => by
  rcases (show j = 0 ∨ j = 1 by omega) with rfl | rfl <;> rfl⟩
theorem cl_X9_7 : Cond.classLink RX9 7 "LaceTangles$State" ∈ WS := tb_1 (List.mem_of_getElem? (i := 25) rfl) rfl
theorem fn_X6_9 : FN RX6 9 4 [.null, .int 0] := ⟨RX5, TX5, 2, tyX5, rfl, in_X5, tyX5_ok, tb_1 (List.mem_of_getElem? (i := 31) rfl) rfl, tb_1 (List.mem_of_getElem? (i := 32) rfl) rfl, it_X5, rfl, fun j hj => by
  rcases (show j = 0 ∨ j = 1 by omega) with rfl | rfl <;> rfl⟩
theorem cl_X6_9 : Cond.classLink RX6 9 "LaceTangles$Row" ∈ WS := tb_1 (List.mem_of_getElem? (i := 31) rfl) rfl
theorem fn_X9_23 : FN RX9 23 1 [.null, .int 0, .int 0] := ⟨RX1, TX1, 3, tyX1, rfl, in_X1, tyX1_ok, tb_1 (List.mem_of_getElem? (i := 59) rfl) rfl, tb_1 (List.mem_of_getElem? (i := 60) rfl) rfl, it_X1, rfl, fun j hj => by
  rcases (show j = 0 ∨ j = 1 ∨ j = 2 by omega) with rfl | rfl | rfl <;> rfl⟩
theorem cl_X9_23 : Cond.classLink RX9 23 "LaceTangles$History" ∈ WS := tb_1 (List.mem_of_getElem? (i := 59) rfl) rfl
theorem fn_X1_9 : FN RX1 9 5 [.null, .int 0] := ⟨RX6, TX6, 2, tyX6, rfl, in_X6, tyX6_ok, tb_1 (List.mem_of_getElem? (i := 65) rfl) rfl, tb_1 (List.mem_of_getElem? (i := 26) rfl) rfl, it_X6, rfl, fun j hj => by
  rcases (show j = 0 ∨ j = 1 by omega) with rfl | rfl <;> rfl⟩
theorem cl_X1_9 : Cond.classLink RX1 9 "LaceTangles$State" ∈ WS := tb_1 (List.mem_of_getElem? (i := 65) rfl) rfl
theorem fn_X9_30 : FN RX9 30 6 [.null, .int 0] := ⟨RX7, TX7, 2, tyX7, rfl, in_X7, tyX7_ok, tb_1 (List.mem_of_getElem? (i := 79) rfl) rfl, tb_1 (List.mem_of_getElem? (i := 80) rfl) rfl, it_X7, rfl, fun j hj => by
  rcases (show j = 0 ∨ j = 1 by omega) with rfl | rfl <;> rfl⟩
theorem cl_X9_30 : Cond.classLink RX9 30 "LaceTangles$Text" ∈ WS := tb_1 (List.mem_of_getElem? (i := 79) rfl) rfl
theorem fn_X9_37 : FN RX9 37 2 [.null, .null] := ⟨RX2, TX2, 2, tyX2, rfl, in_X2, tyX2_ok, tb_1 (List.mem_of_getElem? (i := 92) rfl) rfl, tb_1 (List.mem_of_getElem? (i := 93) rfl) rfl, it_X2, rfl, fun j hj => by
  rcases (show j = 0 ∨ j = 1 by omega) with rfl | rfl <;> rfl⟩
theorem cl_X9_37 : Cond.classLink RX9 37 "LaceTangles$Laces" ∈ WS := tb_1 (List.mem_of_getElem? (i := 92) rfl) rfl
theorem fn_X9_44 : FN RX9 44 3 [.null, .null, .null, .null] := ⟨RX3, TX3, 4, tyX3, rfl, in_X3, tyX3_ok, tb_1 (List.mem_of_getElem? (i := 105) rfl) rfl, tb_1 (List.mem_of_getElem? (i := 106) rfl) rfl, it_X3, rfl, fun j hj => by
  rcases (show j = 0 ∨ j = 1 ∨ j = 2 ∨ j = 3 by omega) with rfl | rfl | rfl | rfl <;> rfl⟩
theorem cl_X9_44 : Cond.classLink RX9 44 "LaceTangles$Measures" ∈ WS := tb_1 (List.mem_of_getElem? (i := 105) rfl) rfl
theorem cl_X3_21 : Cond.classLink RX3 21 "[[I" ∈ WS := tb_1 (List.mem_of_getElem? (i := 111) rfl) rfl
theorem fn_X9_51 : FN RX9 51 0 [.null, .int 0, .int 0] := ⟨RX0, TX0, 3, tyX0, rfl, in_X0, tyX0_ok, tb_1 (List.mem_of_getElem? (i := 126) rfl) rfl, tb_1 (List.mem_of_getElem? (i := 127) rfl) rfl, it_X0, rfl, fun j hj => by
  rcases (show j = 0 ∨ j = 1 ∨ j = 2 by omega) with rfl | rfl | rfl <;> rfl⟩
theorem cl_X9_51 : Cond.classLink RX9 51 "LaceTangles$Handle" ∈ WS := tb_1 (List.mem_of_getElem? (i := 126) rfl) rfl
theorem fn_X9_58 : FN RX9 58 7 [.null, .null, .null, .int 0, .int 0, .int 0] := ⟨RX8, TX8, 6, tyX8, rfl, in_X8, tyX8_ok, tb_1 (List.mem_of_getElem? (i := 144) rfl) rfl, tb_1 (List.mem_of_getElem? (i := 145) rfl) rfl, it_X8, rfl, fun j hj => by
  rcases (show j = 0 ∨ j = 1 ∨ j = 2 ∨ j = 3 ∨ j = 4 ∨ j = 5 by omega) with rfl | rfl | rfl | rfl | rfl | rfl <;> rfl⟩
theorem cl_X9_58 : Cond.classLink RX9 58 "LaceTangles$Untangler" ∈ WS := tb_1 (List.mem_of_getElem? (i := 144) rfl) rfl
theorem fn_X8_9 : FN RX8 9 4 [.null, .int 0] := ⟨RX5, TX5, 2, tyX5, rfl, in_X5, tyX5_ok, tb_1 (List.mem_of_getElem? (i := 150) rfl) rfl, tb_1 (List.mem_of_getElem? (i := 32) rfl) rfl, it_X5, rfl, fun j hj => by
  rcases (show j = 0 ∨ j = 1 by omega) with rfl | rfl <;> rfl⟩
theorem cl_X8_9 : Cond.classLink RX8 9 "LaceTangles$Row" ∈ WS := tb_1 (List.mem_of_getElem? (i := 150) rfl) rfl
theorem fn_X8_23 : FN RX8 23 0 [.null, .int 0, .int 0] := ⟨RX0, TX0, 3, tyX0, rfl, in_X0, tyX0_ok, tb_1 (List.mem_of_getElem? (i := 152) rfl) rfl, tb_1 (List.mem_of_getElem? (i := 127) rfl) rfl, it_X0, rfl, fun j hj => by
  rcases (show j = 0 ∨ j = 1 ∨ j = 2 by omega) with rfl | rfl | rfl <;> rfl⟩
theorem cl_X8_23 : Cond.classLink RX8 23 "LaceTangles$Handle" ∈ WS := tb_1 (List.mem_of_getElem? (i := 152) rfl) rfl
theorem fn_X9_65 : FN RX9 65 4 [.null, .int 0] := ⟨RX5, TX5, 2, tyX5, rfl, in_X5, tyX5_ok, tb_1 (List.mem_of_getElem? (i := 173) rfl) rfl, tb_1 (List.mem_of_getElem? (i := 32) rfl) rfl, it_X5, rfl, fun j hj => by
  rcases (show j = 0 ∨ j = 1 by omega) with rfl | rfl <;> rfl⟩
theorem cl_X9_65 : Cond.classLink RX9 65 "LaceTangles$Row" ∈ WS := tb_1 (List.mem_of_getElem? (i := 173) rfl) rfl
theorem cl_L_18 : Cond.classLink RL 18 "java/lang/IllegalStateException" ∈ WS := tb_1 (List.mem_of_getElem? (i := 218) rfl) rfl
theorem cl_X9_92 : Cond.classLink RX9 92 "java/lang/IllegalStateException" ∈ WS := tb_1 (List.mem_of_getElem? (i := 223) rfl) rfl
theorem cl_L_16 : Cond.classLink RL 16 "java/lang/IllegalArgumentException" ∈ WS := tb_2 (List.mem_of_getElem? (i := 97) rfl) rfl
theorem cl_X9_78 : Cond.classLink RX9 78 "java/lang/IllegalArgumentException" ∈ WS := tb_2 (List.mem_of_getElem? (i := 102) rfl) rfl
theorem cl_L_43 : Cond.classLink RL 43 "java/lang/IndexOutOfBoundsException" ∈ WS := tb_3 (List.mem_of_getElem? (i := 90) rfl) rfl
theorem cl_X9_211 : Cond.classLink RX9 211 "java/lang/IndexOutOfBoundsException" ∈ WS := tb_3 (List.mem_of_getElem? (i := 98) rfl) rfl
theorem ca_int : Cond.arrayClass FieldType.int ∈ WS := tb_1 (List.mem_of_getElem? (i := 49) rfl) rfl
theorem oa_object_LaceTangles_State : Cond.arrayOver (FieldType.object "LaceTangles$State") ∈ WS := tb_1 (List.mem_of_getElem? (i := 66) rfl) rfl
theorem oa_array_int : Cond.arrayOver (FieldType.array FieldType.int) ∈ WS := tb_1 (List.mem_of_getElem? (i := 112) rfl) rfl
theorem ca_byte : Cond.arrayClass FieldType.byte ∈ WS := tb_2 (List.mem_of_getElem? (i := 50) rfl) rfl
theorem ca_long : Cond.arrayClass FieldType.long ∈ WS := tb_3 (List.mem_of_getElem? (i := 211) rfl) rfl
