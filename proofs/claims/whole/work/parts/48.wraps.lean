/-! the law's wrappers -/
/-- the answer of a wrapper: 0 and what was answered, or which kind of refusal -/
def qW (G : GG) (x o : Nat) (h : HP) (R : Nat × Int32 × Sg) : Option Value → HP → Nat → Prop := fun v h' _ => v = some (.int (nI R.1)) ∧ isLT G h' x R.2.2 ∧ (∃ g, h' o = some (.inl (G.2.1 1, 1, .inr (.inl g))) ∧ (R.1 = 0 → g 0 = R.2.1.toInt64)) ∧ (∀ q, q ≠ o → (q < x ∨ x + 64 ≤ q) → h' q = h q) ∧ R.1 ≤ 2
abbrev mm_L_cross : MI := (yL_cross, cL_cross, 4, some .int)
abbrev hh_L_cross : List (Nat × Nat × Nat × Nat) := [(0, 9, 12, 13), (0, 9, 15, 15)]
theorem mf_L_cross : MFW mm_L_cross hh_L_cross 3 := ⟨tb_3 (List.mem_of_getElem? (i := 26) rfl) rfl, tb_1 (List.mem_of_getElem? (i := 0) rfl) rfl, ⟨by decide, by decide⟩, by decide +kernel, by decide⟩
theorem ms_L_cross : Cond.static yL_cross ∈ WS := tb_3 (List.mem_of_getElem? (i := 25) rfl) rfl
theorem ca_L_13 : Cond.castable "java/lang/IllegalArgumentException" "java/lang/IllegalArgumentException" ∈ WS := tb_3 (List.mem_of_getElem? (i := 38) rfl) rfl
theorem ca_L_15 : Cond.castable "java/lang/IllegalStateException" "java/lang/IllegalStateException" ∈ WS := tb_3 (List.mem_of_getElem? (i := 106) rfl) rfl
set_option maxRecDepth 20000 in
theorem sp_L_cross {G : GG} {h : HP} {x o : Nat} {σ : Sg} {g : Nat → Int64} (w : isLT G h x σ) (ok : okS σ) (ho : h o = some (.inl (G.2.1 1, 1, .inr (.inl g)))) (hd : o < x ∨ x + 64 ≤ o) (c : Int32) (n : Nat) : SpW G mm_L_cross hh_L_cross 7 [.ref x, .int c, .ref o] h n (qW G x o h (opCross c σ)) := by
  refine SpW_of (by decide +kernel) (Nat.le_of_ble_eq_true rfl) ?_
  refine K_aload_n dL_cross_0 (by rfl) ?_
  refine K_iconst (v := 0) dL_cross_1 (by decide) ?_
  refine K_aload_n dL_cross_2 (by rfl) ?_
  refine K_iload_n dL_cross_3 (by rfl) ?_
  refine K_callX (tb := hh_L_cross) (kc' := 0) (kn' := 0) mf_X9_cross (tb_3 (List.mem_of_getElem? (i := 29) rfl) rfl) mi_X9_cross mv_X9_cross (sp_X9_cross w c _) dL_cross_4 (by first | assumption | exact isLT.ob (by assumption) | exact isMt.ob (by assumption) | exact isRow.ob (by assumption) | exact isHnd.ob (by assumption) | exact isUnt.ob (by assumption) | exact isSt.ob (by assumption) | exact isHist.ob (by assumption) | exact isTxt.ob (by assumption) | exact isLac.ob (by assumption) | exact isMea.ob (by assumption) | exact hset_s | exact (hset_n (by first | assumption | omega)).trans (by first | assumption | exact isLT.ob (by assumption) | exact isMt.ob (by assumption) | exact isRow.ob (by assumption) | exact isHnd.ob (by assumption) | exact isUnt.ob (by assumption) | exact isSt.ob (by assumption) | exact isHist.ob (by assumption) | exact isTxt.ob (by assumption) | exact isLac.ob (by assumption) | exact isMea.ob (by assumption) | exact hset_s | exact (hset_n (by first | assumption | omega)).trans (by first | assumption | exact isLT.ob (by assumption) | exact isMt.ob (by assumption) | exact isRow.ob (by assumption) | exact isHnd.ob (by assumption) | exact isUnt.ob (by assumption) | exact isSt.ob (by assumption) | exact isHist.ob (by assumption) | exact isTxt.ob (by assumption) | exact isLac.ob (by assumption) | exact isMea.ob (by assumption) | exact hset_s | exact (hset_n (by first | assumption | omega)).trans (by first | assumption | exact isLT.ob (by assumption) | exact isMt.ob (by assumption) | exact isRow.ob (by assumption) | exact isHnd.ob (by assumption) | exact isUnt.ob (by assumption) | exact isSt.ob (by assumption) | exact isHist.ob (by assumption) | exact isTxt.ob (by assumption) | exact isLac.ob (by assumption) | exact isMea.ob (by assumption))))) rfl rfl (by decide) (by rfl) rfl (Nat.le_of_ble_eq_true rfl) rfl rfl (fun E h' q => ?_) (fun v h4 n4 q4 => ?_)
  · obtain ⟨⟨i, hR, hE⟩, hw, hk⟩ := q
    have ho4 := (hk o (by omega)).trans ho
    rcases (show i = 0 ∨ i = 1 ∨ 2 ≤ i by omega) with rfl | rfl | hi
    · have hE : some "java/lang/IllegalArgumentException" = some E := hE
      cases hE
      refine ⟨12, ⟨[], ⟨0, 9, 12, 13⟩, [⟨0, 9, 15, 15⟩], rfl, (fun z hz => by cases hz), by decide, by decide, cl_L_13, ca_L_13, rfl⟩, fun q9 => ?_⟩
      refine K_astore_n dL_cross_12 (Nat.le_of_ble_eq_true rfl) (by rfl) ?_
      refine K_iconst (v := 1) dL_cross_13 (by decide) ?_
      exact K_done ⟨_, (⟨by rw [hR]; rfl, hw, ⟨g, ho4, fun e => by rw [hR] at e; cases e⟩, fun q d1 d2 => hk q d2, by omega⟩), Or.inl ⟨dL_cross_14, _, _, rfl, rfl, (by rfl), rfl⟩⟩
    · have hE : some "java/lang/IllegalStateException" = some E := hE
      cases hE
      refine ⟨15, ⟨[⟨0, 9, 12, 13⟩], ⟨0, 9, 15, 15⟩, [], rfl, (fun z hz => by rw [List.mem_singleton.mp hz]; exact ⟨by decide, _, cl_L_13, by unfold NC; simp⟩), by decide, by decide, cl_L_15, ca_L_15, rfl⟩, fun q9 => ?_⟩
      refine K_astore_n dL_cross_15 (Nat.le_of_ble_eq_true rfl) (by rfl) ?_
      refine K_iconst (v := 2) dL_cross_16 (by decide) ?_
      exact K_done ⟨_, (⟨by rw [hR]; rfl, hw, ⟨g, ho4, fun e => by rw [hR] at e; cases e⟩, fun q d1 d2 => hk q d2, by omega⟩), Or.inl ⟨dL_cross_17, _, _, rfl, rfl, (by rfl), rfl⟩⟩
    · rw [List.getElem?_eq_none (by show 2 ≤ i; exact hi)] at hE
      cases hE
  · obtain ⟨hR, rfl, hw, hk⟩ := q4
    have ho4 := (hk o (by omega)).trans ho
    refine K_i2l dL_cross_7 ?_
    refine K_last dL_cross_8 (by first | assumption | exact isLT.ob (by assumption) | exact isMt.ob (by assumption) | exact isRow.ob (by assumption) | exact isHnd.ob (by assumption) | exact isUnt.ob (by assumption) | exact isSt.ob (by assumption) | exact isHist.ob (by assumption) | exact isTxt.ob (by assumption) | exact isLac.ob (by assumption) | exact isMea.ob (by assumption) | exact hset_s | exact (hset_n (by first | assumption | omega)).trans (by first | assumption | exact isLT.ob (by assumption) | exact isMt.ob (by assumption) | exact isRow.ob (by assumption) | exact isHnd.ob (by assumption) | exact isUnt.ob (by assumption) | exact isSt.ob (by assumption) | exact isHist.ob (by assumption) | exact isTxt.ob (by assumption) | exact isLac.ob (by assumption) | exact isMea.ob (by assumption) | exact hset_s | exact (hset_n (by first | assumption | omega)).trans (by first | assumption | exact isLT.ob (by assumption) | exact isMt.ob (by assumption) | exact isRow.ob (by assumption) | exact isHnd.ob (by assumption) | exact isUnt.ob (by assumption) | exact isSt.ob (by assumption) | exact isHist.ob (by assumption) | exact isTxt.ob (by assumption) | exact isLac.ob (by assumption) | exact isMea.ob (by assumption) | exact hset_s | exact (hset_n (by first | assumption | omega)).trans (by first | assumption | exact isLT.ob (by assumption) | exact isMt.ob (by assumption) | exact isRow.ob (by assumption) | exact isHnd.ob (by assumption) | exact isUnt.ob (by assumption) | exact isSt.ob (by assumption) | exact isHist.ob (by assumption) | exact isTxt.ob (by assumption) | exact isLac.ob (by assumption) | exact isMea.ob (by assumption))))) (pk_in 0 1 (by omega)) ?_
    refine K_goto (tgt := 18) dL_cross_9 (by decide) ?_
    refine K_iconst (v := 0) dL_cross_18 (by decide) ?_
    exact K_done ⟨_, (⟨by rw [hR]; rfl, isLT_fr hw (fr_set (lo := o) (hi := o + 1) (by omega) (by omega)) (by omega), ⟨_, hset_s, fun _ => by rw [show (0 : Int32).toNatClampNeg = 0 by decide]; exact pk_uLs⟩, fun q d1 d2 => (hset_n d1).trans (hk q d2), by omega⟩), Or.inl ⟨dL_cross_19, _, _, rfl, rfl, (by rfl), rfl⟩⟩
abbrev mm_L_open : MI := (yL_open, cL_open, 3, some .int)
abbrev hh_L_open : List (Nat × Nat × Nat × Nat) := [(0, 8, 11, 15)]
theorem mf_L_open : MFW mm_L_open hh_L_open 2 := ⟨tb_3 (List.mem_of_getElem? (i := 123) rfl) rfl, tb_1 (List.mem_of_getElem? (i := 0) rfl) rfl, ⟨by decide, by decide⟩, by decide +kernel, by decide⟩
theorem ms_L_open : Cond.static yL_open ∈ WS := tb_3 (List.mem_of_getElem? (i := 122) rfl) rfl
set_option maxRecDepth 20000 in
theorem sp_L_open {G : GG} {h : HP} {x o : Nat} {σ : Sg} {g : Nat → Int64} (w : isLT G h x σ) (ok : okS σ) (ho : h o = some (.inl (G.2.1 1, 1, .inr (.inl g)))) (hd : o < x ∨ x + 64 ≤ o) (n : Nat) : SpW G mm_L_open hh_L_open 7 [.ref x, .ref o] h n (qW G x o h (opOpen σ)) := by
  refine SpW_of (by decide +kernel) (Nat.le_of_ble_eq_true rfl) ?_
  refine K_aload_n dL_open_0 (by rfl) ?_
  refine K_iconst (v := 0) dL_open_1 (by decide) ?_
  refine K_aload_n dL_open_2 (by rfl) ?_
  refine K_callX (tb := hh_L_open) (kc' := 0) (kn' := 0) mf_X9_open (tb_3 (List.mem_of_getElem? (i := 124) rfl) rfl) mi_X9_open mv_X9_open (sp_X9_open w _) dL_open_3 (by first | assumption | exact isLT.ob (by assumption) | exact isMt.ob (by assumption) | exact isRow.ob (by assumption) | exact isHnd.ob (by assumption) | exact isUnt.ob (by assumption) | exact isSt.ob (by assumption) | exact isHist.ob (by assumption) | exact isTxt.ob (by assumption) | exact isLac.ob (by assumption) | exact isMea.ob (by assumption) | exact hset_s | exact (hset_n (by first | assumption | omega)).trans (by first | assumption | exact isLT.ob (by assumption) | exact isMt.ob (by assumption) | exact isRow.ob (by assumption) | exact isHnd.ob (by assumption) | exact isUnt.ob (by assumption) | exact isSt.ob (by assumption) | exact isHist.ob (by assumption) | exact isTxt.ob (by assumption) | exact isLac.ob (by assumption) | exact isMea.ob (by assumption) | exact hset_s | exact (hset_n (by first | assumption | omega)).trans (by first | assumption | exact isLT.ob (by assumption) | exact isMt.ob (by assumption) | exact isRow.ob (by assumption) | exact isHnd.ob (by assumption) | exact isUnt.ob (by assumption) | exact isSt.ob (by assumption) | exact isHist.ob (by assumption) | exact isTxt.ob (by assumption) | exact isLac.ob (by assumption) | exact isMea.ob (by assumption) | exact hset_s | exact (hset_n (by first | assumption | omega)).trans (by first | assumption | exact isLT.ob (by assumption) | exact isMt.ob (by assumption) | exact isRow.ob (by assumption) | exact isHnd.ob (by assumption) | exact isUnt.ob (by assumption) | exact isSt.ob (by assumption) | exact isHist.ob (by assumption) | exact isTxt.ob (by assumption) | exact isLac.ob (by assumption) | exact isMea.ob (by assumption))))) rfl rfl (by decide) (by rfl) rfl (Nat.le_of_ble_eq_true rfl) rfl rfl (fun E h' q => ?_) (fun v h4 n4 q4 => ?_)
  · obtain ⟨⟨i, hR, hE⟩, hw, hk⟩ := q
    have ho4 := (hk o (by omega)).trans ho
    rcases (show i = 0 ∨ 1 ≤ i by omega) with rfl | hi
    · have hE : some "java/lang/IllegalStateException" = some E := hE
      cases hE
      refine ⟨11, ⟨[], ⟨0, 8, 11, 15⟩, [], rfl, (fun z hz => by cases hz), by decide, by decide, cl_L_15, ca_L_15, rfl⟩, fun q9 => ?_⟩
      refine K_astore_n dL_open_11 (Nat.le_of_ble_eq_true rfl) (by rfl) ?_
      refine K_iconst (v := 1) dL_open_12 (by decide) ?_
      exact K_done ⟨_, (⟨by rw [hR]; rfl, hw, ⟨g, ho4, fun e => by rw [hR] at e; cases e⟩, fun q d1 d2 => hk q d2, by omega⟩), Or.inl ⟨dL_open_13, _, _, rfl, rfl, (by rfl), rfl⟩⟩
    · rw [List.getElem?_eq_none (by show 1 ≤ i; exact hi)] at hE
      cases hE
  · obtain ⟨hR, rfl, hw, hk⟩ := q4
    have ho4 := (hk o (by omega)).trans ho
    refine K_i2l dL_open_6 ?_
    refine K_last dL_open_7 (by first | assumption | exact isLT.ob (by assumption) | exact isMt.ob (by assumption) | exact isRow.ob (by assumption) | exact isHnd.ob (by assumption) | exact isUnt.ob (by assumption) | exact isSt.ob (by assumption) | exact isHist.ob (by assumption) | exact isTxt.ob (by assumption) | exact isLac.ob (by assumption) | exact isMea.ob (by assumption) | exact hset_s | exact (hset_n (by first | assumption | omega)).trans (by first | assumption | exact isLT.ob (by assumption) | exact isMt.ob (by assumption) | exact isRow.ob (by assumption) | exact isHnd.ob (by assumption) | exact isUnt.ob (by assumption) | exact isSt.ob (by assumption) | exact isHist.ob (by assumption) | exact isTxt.ob (by assumption) | exact isLac.ob (by assumption) | exact isMea.ob (by assumption) | exact hset_s | exact (hset_n (by first | assumption | omega)).trans (by first | assumption | exact isLT.ob (by assumption) | exact isMt.ob (by assumption) | exact isRow.ob (by assumption) | exact isHnd.ob (by assumption) | exact isUnt.ob (by assumption) | exact isSt.ob (by assumption) | exact isHist.ob (by assumption) | exact isTxt.ob (by assumption) | exact isLac.ob (by assumption) | exact isMea.ob (by assumption) | exact hset_s | exact (hset_n (by first | assumption | omega)).trans (by first | assumption | exact isLT.ob (by assumption) | exact isMt.ob (by assumption) | exact isRow.ob (by assumption) | exact isHnd.ob (by assumption) | exact isUnt.ob (by assumption) | exact isSt.ob (by assumption) | exact isHist.ob (by assumption) | exact isTxt.ob (by assumption) | exact isLac.ob (by assumption) | exact isMea.ob (by assumption))))) (pk_in 0 1 (by omega)) ?_
    refine K_goto (tgt := 14) dL_open_8 (by decide) ?_
    refine K_iconst (v := 0) dL_open_14 (by decide) ?_
    exact K_done ⟨_, (⟨by rw [hR]; rfl, isLT_fr hw (fr_set (lo := o) (hi := o + 1) (by omega) (by omega)) (by omega), ⟨_, hset_s, fun _ => by rw [show (0 : Int32).toNatClampNeg = 0 by decide]; exact pk_uLs⟩, fun q d1 d2 => (hset_n d1).trans (hk q d2), by omega⟩), Or.inl ⟨dL_open_15, _, _, rfl, rfl, (by rfl), rfl⟩⟩
abbrev mm_L_move : MI := (yL_move, cL_move, 5, some .int)
abbrev hh_L_move : List (Nat × Nat × Nat × Nat) := [(0, 10, 13, 13), (0, 10, 17, 15)]
theorem mf_L_move : MFW mm_L_move hh_L_move 4 := ⟨tb_3 (List.mem_of_getElem? (i := 131) rfl) rfl, tb_1 (List.mem_of_getElem? (i := 0) rfl) rfl, ⟨by decide, by decide⟩, by decide +kernel, by decide⟩
theorem ms_L_move : Cond.static yL_move ∈ WS := tb_3 (List.mem_of_getElem? (i := 130) rfl) rfl
set_option maxRecDepth 20000 in
theorem sp_L_move {G : GG} {h : HP} {x o : Nat} {σ : Sg} {g : Nat → Int64} (w : isLT G h x σ) (ok : okS σ) (ho : h o = some (.inl (G.2.1 1, 1, .inr (.inl g)))) (hd : o < x ∨ x + 64 ≤ o) (m k : Int32) (n : Nat) : SpW G mm_L_move hh_L_move 7 [.ref x, .int m, .int k, .ref o] h n (qW G x o h (opMove m k σ)) := by
  refine SpW_of (by decide +kernel) (Nat.le_of_ble_eq_true rfl) ?_
  refine K_aload_n dL_move_0 (by rfl) ?_
  refine K_iconst (v := 0) dL_move_1 (by decide) ?_
  refine K_aload_n dL_move_2 (by rfl) ?_
  refine K_iload_n dL_move_3 (by rfl) ?_
  refine K_iload_n dL_move_4 (by rfl) ?_
  refine K_callX (tb := hh_L_move) (kc' := 0) (kn' := 0) mf_X9_move (tb_3 (List.mem_of_getElem? (i := 132) rfl) rfl) mi_X9_move mv_X9_move (sp_X9_move w m k _) dL_move_5 (by first | assumption | exact isLT.ob (by assumption) | exact isMt.ob (by assumption) | exact isRow.ob (by assumption) | exact isHnd.ob (by assumption) | exact isUnt.ob (by assumption) | exact isSt.ob (by assumption) | exact isHist.ob (by assumption) | exact isTxt.ob (by assumption) | exact isLac.ob (by assumption) | exact isMea.ob (by assumption) | exact hset_s | exact (hset_n (by first | assumption | omega)).trans (by first | assumption | exact isLT.ob (by assumption) | exact isMt.ob (by assumption) | exact isRow.ob (by assumption) | exact isHnd.ob (by assumption) | exact isUnt.ob (by assumption) | exact isSt.ob (by assumption) | exact isHist.ob (by assumption) | exact isTxt.ob (by assumption) | exact isLac.ob (by assumption) | exact isMea.ob (by assumption) | exact hset_s | exact (hset_n (by first | assumption | omega)).trans (by first | assumption | exact isLT.ob (by assumption) | exact isMt.ob (by assumption) | exact isRow.ob (by assumption) | exact isHnd.ob (by assumption) | exact isUnt.ob (by assumption) | exact isSt.ob (by assumption) | exact isHist.ob (by assumption) | exact isTxt.ob (by assumption) | exact isLac.ob (by assumption) | exact isMea.ob (by assumption) | exact hset_s | exact (hset_n (by first | assumption | omega)).trans (by first | assumption | exact isLT.ob (by assumption) | exact isMt.ob (by assumption) | exact isRow.ob (by assumption) | exact isHnd.ob (by assumption) | exact isUnt.ob (by assumption) | exact isSt.ob (by assumption) | exact isHist.ob (by assumption) | exact isTxt.ob (by assumption) | exact isLac.ob (by assumption) | exact isMea.ob (by assumption))))) rfl rfl (by decide) (by rfl) rfl (Nat.le_of_ble_eq_true rfl) rfl rfl (fun E h' q => ?_) (fun v h4 n4 q4 => ?_)
  · obtain ⟨⟨i, hR, hE⟩, hw, hk⟩ := q
    have ho4 := (hk o (by omega)).trans ho
    rcases (show i = 0 ∨ i = 1 ∨ 2 ≤ i by omega) with rfl | rfl | hi
    · have hE : some "java/lang/IllegalArgumentException" = some E := hE
      cases hE
      refine ⟨13, ⟨[], ⟨0, 10, 13, 13⟩, [⟨0, 10, 17, 15⟩], rfl, (fun z hz => by cases hz), by decide, by decide, cl_L_13, ca_L_13, rfl⟩, fun q9 => ?_⟩
      refine K_astore dL_move_13 (Nat.le_of_ble_eq_true rfl) (by rfl) ?_
      refine K_iconst (v := 1) dL_move_15 (by decide) ?_
      exact K_done ⟨_, (⟨by rw [hR]; rfl, hw, ⟨g, ho4, fun e => by rw [hR] at e; cases e⟩, fun q d1 d2 => hk q d2, by omega⟩), Or.inl ⟨dL_move_16, _, _, rfl, rfl, (by rfl), rfl⟩⟩
    · have hE : some "java/lang/IllegalStateException" = some E := hE
      cases hE
      refine ⟨17, ⟨[⟨0, 10, 13, 13⟩], ⟨0, 10, 17, 15⟩, [], rfl, (fun z hz => by rw [List.mem_singleton.mp hz]; exact ⟨by decide, _, cl_L_13, by unfold NC; simp⟩), by decide, by decide, cl_L_15, ca_L_15, rfl⟩, fun q9 => ?_⟩
      refine K_astore dL_move_17 (Nat.le_of_ble_eq_true rfl) (by rfl) ?_
      refine K_iconst (v := 2) dL_move_19 (by decide) ?_
      exact K_done ⟨_, (⟨by rw [hR]; rfl, hw, ⟨g, ho4, fun e => by rw [hR] at e; cases e⟩, fun q d1 d2 => hk q d2, by omega⟩), Or.inl ⟨dL_move_20, _, _, rfl, rfl, (by rfl), rfl⟩⟩
    · rw [List.getElem?_eq_none (by show 2 ≤ i; exact hi)] at hE
      cases hE
  · obtain ⟨hR, rfl, hw, hk⟩ := q4
    have ho4 := (hk o (by omega)).trans ho
    refine K_i2l dL_move_8 ?_
    refine K_last dL_move_9 (by first | assumption | exact isLT.ob (by assumption) | exact isMt.ob (by assumption) | exact isRow.ob (by assumption) | exact isHnd.ob (by assumption) | exact isUnt.ob (by assumption) | exact isSt.ob (by assumption) | exact isHist.ob (by assumption) | exact isTxt.ob (by assumption) | exact isLac.ob (by assumption) | exact isMea.ob (by assumption) | exact hset_s | exact (hset_n (by first | assumption | omega)).trans (by first | assumption | exact isLT.ob (by assumption) | exact isMt.ob (by assumption) | exact isRow.ob (by assumption) | exact isHnd.ob (by assumption) | exact isUnt.ob (by assumption) | exact isSt.ob (by assumption) | exact isHist.ob (by assumption) | exact isTxt.ob (by assumption) | exact isLac.ob (by assumption) | exact isMea.ob (by assumption) | exact hset_s | exact (hset_n (by first | assumption | omega)).trans (by first | assumption | exact isLT.ob (by assumption) | exact isMt.ob (by assumption) | exact isRow.ob (by assumption) | exact isHnd.ob (by assumption) | exact isUnt.ob (by assumption) | exact isSt.ob (by assumption) | exact isHist.ob (by assumption) | exact isTxt.ob (by assumption) | exact isLac.ob (by assumption) | exact isMea.ob (by assumption) | exact hset_s | exact (hset_n (by first | assumption | omega)).trans (by first | assumption | exact isLT.ob (by assumption) | exact isMt.ob (by assumption) | exact isRow.ob (by assumption) | exact isHnd.ob (by assumption) | exact isUnt.ob (by assumption) | exact isSt.ob (by assumption) | exact isHist.ob (by assumption) | exact isTxt.ob (by assumption) | exact isLac.ob (by assumption) | exact isMea.ob (by assumption))))) (pk_in 0 1 (by omega)) ?_
    refine K_goto (tgt := 21) dL_move_10 (by decide) ?_
    refine K_iconst (v := 0) dL_move_21 (by decide) ?_
    exact K_done ⟨_, (⟨by rw [hR]; rfl, isLT_fr hw (fr_set (lo := o) (hi := o + 1) (by omega) (by omega)) (by omega), ⟨_, hset_s, fun _ => by rw [show (0 : Int32).toNatClampNeg = 0 by decide]; exact pk_uLs⟩, fun q d1 d2 => (hset_n d1).trans (hk q d2), by omega⟩), Or.inl ⟨dL_move_22, _, _, rfl, rfl, (by rfl), rfl⟩⟩
abbrev mm_L_pair : MI := (yL_pair, cL_pair, 5, some .int)
abbrev hh_L_pair : List (Nat × Nat × Nat × Nat) := [(0, 10, 13, 13), (0, 10, 17, 15)]
theorem mf_L_pair : MFW mm_L_pair hh_L_pair 4 := ⟨tb_3 (List.mem_of_getElem? (i := 143) rfl) rfl, tb_1 (List.mem_of_getElem? (i := 0) rfl) rfl, ⟨by decide, by decide⟩, by decide +kernel, by decide⟩
theorem ms_L_pair : Cond.static yL_pair ∈ WS := tb_3 (List.mem_of_getElem? (i := 142) rfl) rfl
set_option maxRecDepth 20000 in
theorem sp_L_pair {G : GG} {h : HP} {x o : Nat} {σ : Sg} {g : Nat → Int64} (w : isLT G h x σ) (ok : okS σ) (ho : h o = some (.inl (G.2.1 1, 1, .inr (.inl g)))) (hd : o < x ∨ x + 64 ≤ o) (k c : Int32) (n : Nat) : SpW G mm_L_pair hh_L_pair 7 [.ref x, .int k, .int c, .ref o] h n (qW G x o h (opPair k c σ)) := by
  refine SpW_of (by decide +kernel) (Nat.le_of_ble_eq_true rfl) ?_
  refine K_aload_n dL_pair_0 (by rfl) ?_
  refine K_iconst (v := 0) dL_pair_1 (by decide) ?_
  refine K_aload_n dL_pair_2 (by rfl) ?_
  refine K_iload_n dL_pair_3 (by rfl) ?_
  refine K_iload_n dL_pair_4 (by rfl) ?_
  refine K_callX (tb := hh_L_pair) (kc' := 0) (kn' := 0) mf_X9_pair (tb_3 (List.mem_of_getElem? (i := 144) rfl) rfl) mi_X9_pair mv_X9_pair (sp_X9_pair w k c _) dL_pair_5 (by first | assumption | exact isLT.ob (by assumption) | exact isMt.ob (by assumption) | exact isRow.ob (by assumption) | exact isHnd.ob (by assumption) | exact isUnt.ob (by assumption) | exact isSt.ob (by assumption) | exact isHist.ob (by assumption) | exact isTxt.ob (by assumption) | exact isLac.ob (by assumption) | exact isMea.ob (by assumption) | exact hset_s | exact (hset_n (by first | assumption | omega)).trans (by first | assumption | exact isLT.ob (by assumption) | exact isMt.ob (by assumption) | exact isRow.ob (by assumption) | exact isHnd.ob (by assumption) | exact isUnt.ob (by assumption) | exact isSt.ob (by assumption) | exact isHist.ob (by assumption) | exact isTxt.ob (by assumption) | exact isLac.ob (by assumption) | exact isMea.ob (by assumption) | exact hset_s | exact (hset_n (by first | assumption | omega)).trans (by first | assumption | exact isLT.ob (by assumption) | exact isMt.ob (by assumption) | exact isRow.ob (by assumption) | exact isHnd.ob (by assumption) | exact isUnt.ob (by assumption) | exact isSt.ob (by assumption) | exact isHist.ob (by assumption) | exact isTxt.ob (by assumption) | exact isLac.ob (by assumption) | exact isMea.ob (by assumption) | exact hset_s | exact (hset_n (by first | assumption | omega)).trans (by first | assumption | exact isLT.ob (by assumption) | exact isMt.ob (by assumption) | exact isRow.ob (by assumption) | exact isHnd.ob (by assumption) | exact isUnt.ob (by assumption) | exact isSt.ob (by assumption) | exact isHist.ob (by assumption) | exact isTxt.ob (by assumption) | exact isLac.ob (by assumption) | exact isMea.ob (by assumption))))) rfl rfl (by decide) (by rfl) rfl (Nat.le_of_ble_eq_true rfl) rfl rfl (fun E h' q => ?_) (fun v h4 n4 q4 => ?_)
  · obtain ⟨⟨i, hR, hE⟩, hw, hk⟩ := q
    have ho4 := (hk o (by omega)).trans ho
    rcases (show i = 0 ∨ i = 1 ∨ 2 ≤ i by omega) with rfl | rfl | hi
    · have hE : some "java/lang/IllegalArgumentException" = some E := hE
      cases hE
      refine ⟨13, ⟨[], ⟨0, 10, 13, 13⟩, [⟨0, 10, 17, 15⟩], rfl, (fun z hz => by cases hz), by decide, by decide, cl_L_13, ca_L_13, rfl⟩, fun q9 => ?_⟩
      refine K_astore dL_pair_13 (Nat.le_of_ble_eq_true rfl) (by rfl) ?_
      refine K_iconst (v := 1) dL_pair_15 (by decide) ?_
      exact K_done ⟨_, (⟨by rw [hR]; rfl, hw, ⟨g, ho4, fun e => by rw [hR] at e; cases e⟩, fun q d1 d2 => hk q d2, by omega⟩), Or.inl ⟨dL_pair_16, _, _, rfl, rfl, (by rfl), rfl⟩⟩
    · have hE : some "java/lang/IllegalStateException" = some E := hE
      cases hE
      refine ⟨17, ⟨[⟨0, 10, 13, 13⟩], ⟨0, 10, 17, 15⟩, [], rfl, (fun z hz => by rw [List.mem_singleton.mp hz]; exact ⟨by decide, _, cl_L_13, by unfold NC; simp⟩), by decide, by decide, cl_L_15, ca_L_15, rfl⟩, fun q9 => ?_⟩
      refine K_astore dL_pair_17 (Nat.le_of_ble_eq_true rfl) (by rfl) ?_
      refine K_iconst (v := 2) dL_pair_19 (by decide) ?_
      exact K_done ⟨_, (⟨by rw [hR]; rfl, hw, ⟨g, ho4, fun e => by rw [hR] at e; cases e⟩, fun q d1 d2 => hk q d2, by omega⟩), Or.inl ⟨dL_pair_20, _, _, rfl, rfl, (by rfl), rfl⟩⟩
    · rw [List.getElem?_eq_none (by show 2 ≤ i; exact hi)] at hE
      cases hE
  · obtain ⟨hR, rfl, hw, hk⟩ := q4
    have ho4 := (hk o (by omega)).trans ho
    refine K_i2l dL_pair_8 ?_
    refine K_last dL_pair_9 (by first | assumption | exact isLT.ob (by assumption) | exact isMt.ob (by assumption) | exact isRow.ob (by assumption) | exact isHnd.ob (by assumption) | exact isUnt.ob (by assumption) | exact isSt.ob (by assumption) | exact isHist.ob (by assumption) | exact isTxt.ob (by assumption) | exact isLac.ob (by assumption) | exact isMea.ob (by assumption) | exact hset_s | exact (hset_n (by first | assumption | omega)).trans (by first | assumption | exact isLT.ob (by assumption) | exact isMt.ob (by assumption) | exact isRow.ob (by assumption) | exact isHnd.ob (by assumption) | exact isUnt.ob (by assumption) | exact isSt.ob (by assumption) | exact isHist.ob (by assumption) | exact isTxt.ob (by assumption) | exact isLac.ob (by assumption) | exact isMea.ob (by assumption) | exact hset_s | exact (hset_n (by first | assumption | omega)).trans (by first | assumption | exact isLT.ob (by assumption) | exact isMt.ob (by assumption) | exact isRow.ob (by assumption) | exact isHnd.ob (by assumption) | exact isUnt.ob (by assumption) | exact isSt.ob (by assumption) | exact isHist.ob (by assumption) | exact isTxt.ob (by assumption) | exact isLac.ob (by assumption) | exact isMea.ob (by assumption) | exact hset_s | exact (hset_n (by first | assumption | omega)).trans (by first | assumption | exact isLT.ob (by assumption) | exact isMt.ob (by assumption) | exact isRow.ob (by assumption) | exact isHnd.ob (by assumption) | exact isUnt.ob (by assumption) | exact isSt.ob (by assumption) | exact isHist.ob (by assumption) | exact isTxt.ob (by assumption) | exact isLac.ob (by assumption) | exact isMea.ob (by assumption))))) (pk_in 0 1 (by omega)) ?_
    refine K_goto (tgt := 21) dL_pair_10 (by decide) ?_
    refine K_iconst (v := 0) dL_pair_21 (by decide) ?_
    exact K_done ⟨_, (⟨by rw [hR]; rfl, isLT_fr hw (fr_set (lo := o) (hi := o + 1) (by omega) (by omega)) (by omega), ⟨_, hset_s, fun _ => by rw [show (0 : Int32).toNatClampNeg = 0 by decide]; exact pk_uLs⟩, fun q d1 d2 => (hset_n d1).trans (hk q d2), by omega⟩), Or.inl ⟨dL_pair_22, _, _, rfl, rfl, (by rfl), rfl⟩⟩
abbrev mm_L_handle : MI := (yL_handle, cL_handle, 3, some .int)
abbrev hh_L_handle : List (Nat × Nat × Nat × Nat) := [(0, 8, 11, 15)]
theorem mf_L_handle : MFW mm_L_handle hh_L_handle 2 := ⟨tb_3 (List.mem_of_getElem? (i := 156) rfl) rfl, tb_1 (List.mem_of_getElem? (i := 0) rfl) rfl, ⟨by decide, by decide⟩, by decide +kernel, by decide⟩
theorem ms_L_handle : Cond.static yL_handle ∈ WS := tb_3 (List.mem_of_getElem? (i := 155) rfl) rfl
set_option maxRecDepth 20000 in
theorem sp_L_handle {G : GG} {h : HP} {x o : Nat} {σ : Sg} {g : Nat → Int64} (w : isLT G h x σ) (ok : okS σ) (ho : h o = some (.inl (G.2.1 1, 1, .inr (.inl g)))) (hd : o < x ∨ x + 64 ≤ o) (n : Nat) : SpW G mm_L_handle hh_L_handle 7 [.ref x, .ref o] h n (qW G x o h (opHandle σ)) := by
  refine SpW_of (by decide +kernel) (Nat.le_of_ble_eq_true rfl) ?_
  refine K_aload_n dL_handle_0 (by rfl) ?_
  refine K_iconst (v := 0) dL_handle_1 (by decide) ?_
  refine K_aload_n dL_handle_2 (by rfl) ?_
  refine K_callX (tb := hh_L_handle) (kc' := 0) (kn' := 0) mf_X9_handle (tb_3 (List.mem_of_getElem? (i := 157) rfl) rfl) mi_X9_handle mv_X9_handle (sp_X9_handle w ok _) dL_handle_3 (by first | assumption | exact isLT.ob (by assumption) | exact isMt.ob (by assumption) | exact isRow.ob (by assumption) | exact isHnd.ob (by assumption) | exact isUnt.ob (by assumption) | exact isSt.ob (by assumption) | exact isHist.ob (by assumption) | exact isTxt.ob (by assumption) | exact isLac.ob (by assumption) | exact isMea.ob (by assumption) | exact hset_s | exact (hset_n (by first | assumption | omega)).trans (by first | assumption | exact isLT.ob (by assumption) | exact isMt.ob (by assumption) | exact isRow.ob (by assumption) | exact isHnd.ob (by assumption) | exact isUnt.ob (by assumption) | exact isSt.ob (by assumption) | exact isHist.ob (by assumption) | exact isTxt.ob (by assumption) | exact isLac.ob (by assumption) | exact isMea.ob (by assumption) | exact hset_s | exact (hset_n (by first | assumption | omega)).trans (by first | assumption | exact isLT.ob (by assumption) | exact isMt.ob (by assumption) | exact isRow.ob (by assumption) | exact isHnd.ob (by assumption) | exact isUnt.ob (by assumption) | exact isSt.ob (by assumption) | exact isHist.ob (by assumption) | exact isTxt.ob (by assumption) | exact isLac.ob (by assumption) | exact isMea.ob (by assumption) | exact hset_s | exact (hset_n (by first | assumption | omega)).trans (by first | assumption | exact isLT.ob (by assumption) | exact isMt.ob (by assumption) | exact isRow.ob (by assumption) | exact isHnd.ob (by assumption) | exact isUnt.ob (by assumption) | exact isSt.ob (by assumption) | exact isHist.ob (by assumption) | exact isTxt.ob (by assumption) | exact isLac.ob (by assumption) | exact isMea.ob (by assumption))))) rfl rfl (by decide) (by rfl) rfl (Nat.le_of_ble_eq_true rfl) rfl rfl (fun E h' q => ?_) (fun v h4 n4 q4 => ?_)
  · obtain ⟨⟨i, hR, hE⟩, hw, hk⟩ := q
    have ho4 := (hk o (by omega)).trans ho
    rcases (show i = 0 ∨ 1 ≤ i by omega) with rfl | hi
    · have hE : some "java/lang/IllegalStateException" = some E := hE
      cases hE
      refine ⟨11, ⟨[], ⟨0, 8, 11, 15⟩, [], rfl, (fun z hz => by cases hz), by decide, by decide, cl_L_15, ca_L_15, rfl⟩, fun q9 => ?_⟩
      refine K_astore_n dL_handle_11 (Nat.le_of_ble_eq_true rfl) (by rfl) ?_
      refine K_iconst (v := 1) dL_handle_12 (by decide) ?_
      exact K_done ⟨_, (⟨by rw [hR]; rfl, hw, ⟨g, ho4, fun e => by rw [hR] at e; cases e⟩, fun q d1 d2 => hk q d2, by omega⟩), Or.inl ⟨dL_handle_13, _, _, rfl, rfl, (by rfl), rfl⟩⟩
    · rw [List.getElem?_eq_none (by show 1 ≤ i; exact hi)] at hE
      cases hE
  · obtain ⟨hR, rfl, hw, hk⟩ := q4
    have ho4 := (hk o (by omega)).trans ho
    refine K_i2l dL_handle_6 ?_
    refine K_last dL_handle_7 (by first | assumption | exact isLT.ob (by assumption) | exact isMt.ob (by assumption) | exact isRow.ob (by assumption) | exact isHnd.ob (by assumption) | exact isUnt.ob (by assumption) | exact isSt.ob (by assumption) | exact isHist.ob (by assumption) | exact isTxt.ob (by assumption) | exact isLac.ob (by assumption) | exact isMea.ob (by assumption) | exact hset_s | exact (hset_n (by first | assumption | omega)).trans (by first | assumption | exact isLT.ob (by assumption) | exact isMt.ob (by assumption) | exact isRow.ob (by assumption) | exact isHnd.ob (by assumption) | exact isUnt.ob (by assumption) | exact isSt.ob (by assumption) | exact isHist.ob (by assumption) | exact isTxt.ob (by assumption) | exact isLac.ob (by assumption) | exact isMea.ob (by assumption) | exact hset_s | exact (hset_n (by first | assumption | omega)).trans (by first | assumption | exact isLT.ob (by assumption) | exact isMt.ob (by assumption) | exact isRow.ob (by assumption) | exact isHnd.ob (by assumption) | exact isUnt.ob (by assumption) | exact isSt.ob (by assumption) | exact isHist.ob (by assumption) | exact isTxt.ob (by assumption) | exact isLac.ob (by assumption) | exact isMea.ob (by assumption) | exact hset_s | exact (hset_n (by first | assumption | omega)).trans (by first | assumption | exact isLT.ob (by assumption) | exact isMt.ob (by assumption) | exact isRow.ob (by assumption) | exact isHnd.ob (by assumption) | exact isUnt.ob (by assumption) | exact isSt.ob (by assumption) | exact isHist.ob (by assumption) | exact isTxt.ob (by assumption) | exact isLac.ob (by assumption) | exact isMea.ob (by assumption))))) (pk_in 0 1 (by omega)) ?_
    refine K_goto (tgt := 14) dL_handle_8 (by decide) ?_
    refine K_iconst (v := 0) dL_handle_14 (by decide) ?_
    exact K_done ⟨_, (⟨by rw [hR]; rfl, isLT_fr hw (fr_set (lo := o) (hi := o + 1) (by omega) (by omega)) (by omega), ⟨_, hset_s, fun _ => by rw [show (0 : Int32).toNatClampNeg = 0 by decide]; exact pk_uLs⟩, fun q d1 d2 => (hset_n d1).trans (hk q d2), by omega⟩), Or.inl ⟨dL_handle_15, _, _, rfl, rfl, (by rfl), rfl⟩⟩
abbrev mm_L_append : MI := (yL_append, cL_append, 4, some .int)
abbrev hh_L_append : List (Nat × Nat × Nat × Nat) := [(0, 9, 12, 13), (0, 9, 15, 15)]
theorem mf_L_append : MFW mm_L_append hh_L_append 3 := ⟨tb_3 (List.mem_of_getElem? (i := 167) rfl) rfl, tb_1 (List.mem_of_getElem? (i := 0) rfl) rfl, ⟨by decide, by decide⟩, by decide +kernel, by decide⟩
theorem ms_L_append : Cond.static yL_append ∈ WS := tb_3 (List.mem_of_getElem? (i := 166) rfl) rfl
set_option maxRecDepth 20000 in
theorem sp_L_append {G : GG} {h : HP} {x o : Nat} {σ : Sg} {g : Nat → Int64} (w : isLT G h x σ) (ok : okS σ) (ho : h o = some (.inl (G.2.1 1, 1, .inr (.inl g)))) (hd : o < x ∨ x + 64 ≤ o) (c : Int32) (n : Nat) : SpW G mm_L_append hh_L_append 7 [.ref x, .int c, .ref o] h n (qW G x o h (opAppend c σ)) := by
  refine SpW_of (by decide +kernel) (Nat.le_of_ble_eq_true rfl) ?_
  refine K_aload_n dL_append_0 (by rfl) ?_
  refine K_iconst (v := 0) dL_append_1 (by decide) ?_
  refine K_aload_n dL_append_2 (by rfl) ?_
  refine K_iload_n dL_append_3 (by rfl) ?_
  refine K_callX (tb := hh_L_append) (kc' := 0) (kn' := 0) mf_X9_append (tb_3 (List.mem_of_getElem? (i := 168) rfl) rfl) mi_X9_append mv_X9_append (sp_X9_append w c _) dL_append_4 (by first | assumption | exact isLT.ob (by assumption) | exact isMt.ob (by assumption) | exact isRow.ob (by assumption) | exact isHnd.ob (by assumption) | exact isUnt.ob (by assumption) | exact isSt.ob (by assumption) | exact isHist.ob (by assumption) | exact isTxt.ob (by assumption) | exact isLac.ob (by assumption) | exact isMea.ob (by assumption) | exact hset_s | exact (hset_n (by first | assumption | omega)).trans (by first | assumption | exact isLT.ob (by assumption) | exact isMt.ob (by assumption) | exact isRow.ob (by assumption) | exact isHnd.ob (by assumption) | exact isUnt.ob (by assumption) | exact isSt.ob (by assumption) | exact isHist.ob (by assumption) | exact isTxt.ob (by assumption) | exact isLac.ob (by assumption) | exact isMea.ob (by assumption) | exact hset_s | exact (hset_n (by first | assumption | omega)).trans (by first | assumption | exact isLT.ob (by assumption) | exact isMt.ob (by assumption) | exact isRow.ob (by assumption) | exact isHnd.ob (by assumption) | exact isUnt.ob (by assumption) | exact isSt.ob (by assumption) | exact isHist.ob (by assumption) | exact isTxt.ob (by assumption) | exact isLac.ob (by assumption) | exact isMea.ob (by assumption) | exact hset_s | exact (hset_n (by first | assumption | omega)).trans (by first | assumption | exact isLT.ob (by assumption) | exact isMt.ob (by assumption) | exact isRow.ob (by assumption) | exact isHnd.ob (by assumption) | exact isUnt.ob (by assumption) | exact isSt.ob (by assumption) | exact isHist.ob (by assumption) | exact isTxt.ob (by assumption) | exact isLac.ob (by assumption) | exact isMea.ob (by assumption))))) rfl rfl (by decide) (by rfl) rfl (Nat.le_of_ble_eq_true rfl) rfl rfl (fun E h' q => ?_) (fun v h4 n4 q4 => ?_)
  · obtain ⟨⟨i, hR, hE⟩, hw, hk⟩ := q
    have ho4 := (hk o (by omega)).trans ho
    rcases (show i = 0 ∨ i = 1 ∨ 2 ≤ i by omega) with rfl | rfl | hi
    · have hE : some "java/lang/IllegalArgumentException" = some E := hE
      cases hE
      refine ⟨12, ⟨[], ⟨0, 9, 12, 13⟩, [⟨0, 9, 15, 15⟩], rfl, (fun z hz => by cases hz), by decide, by decide, cl_L_13, ca_L_13, rfl⟩, fun q9 => ?_⟩
      refine K_astore_n dL_append_12 (Nat.le_of_ble_eq_true rfl) (by rfl) ?_
      refine K_iconst (v := 1) dL_append_13 (by decide) ?_
      exact K_done ⟨_, (⟨by rw [hR]; rfl, hw, ⟨g, ho4, fun e => by rw [hR] at e; cases e⟩, fun q d1 d2 => hk q d2, by omega⟩), Or.inl ⟨dL_append_14, _, _, rfl, rfl, (by rfl), rfl⟩⟩
    · have hE : some "java/lang/IllegalStateException" = some E := hE
      cases hE
      refine ⟨15, ⟨[⟨0, 9, 12, 13⟩], ⟨0, 9, 15, 15⟩, [], rfl, (fun z hz => by rw [List.mem_singleton.mp hz]; exact ⟨by decide, _, cl_L_13, by unfold NC; simp⟩), by decide, by decide, cl_L_15, ca_L_15, rfl⟩, fun q9 => ?_⟩
      refine K_astore_n dL_append_15 (Nat.le_of_ble_eq_true rfl) (by rfl) ?_
      refine K_iconst (v := 2) dL_append_16 (by decide) ?_
      exact K_done ⟨_, (⟨by rw [hR]; rfl, hw, ⟨g, ho4, fun e => by rw [hR] at e; cases e⟩, fun q d1 d2 => hk q d2, by omega⟩), Or.inl ⟨dL_append_17, _, _, rfl, rfl, (by rfl), rfl⟩⟩
    · rw [List.getElem?_eq_none (by show 2 ≤ i; exact hi)] at hE
      cases hE
  · obtain ⟨hR, rfl, hw, hk⟩ := q4
    have ho4 := (hk o (by omega)).trans ho
    refine K_i2l dL_append_7 ?_
    refine K_last dL_append_8 (by first | assumption | exact isLT.ob (by assumption) | exact isMt.ob (by assumption) | exact isRow.ob (by assumption) | exact isHnd.ob (by assumption) | exact isUnt.ob (by assumption) | exact isSt.ob (by assumption) | exact isHist.ob (by assumption) | exact isTxt.ob (by assumption) | exact isLac.ob (by assumption) | exact isMea.ob (by assumption) | exact hset_s | exact (hset_n (by first | assumption | omega)).trans (by first | assumption | exact isLT.ob (by assumption) | exact isMt.ob (by assumption) | exact isRow.ob (by assumption) | exact isHnd.ob (by assumption) | exact isUnt.ob (by assumption) | exact isSt.ob (by assumption) | exact isHist.ob (by assumption) | exact isTxt.ob (by assumption) | exact isLac.ob (by assumption) | exact isMea.ob (by assumption) | exact hset_s | exact (hset_n (by first | assumption | omega)).trans (by first | assumption | exact isLT.ob (by assumption) | exact isMt.ob (by assumption) | exact isRow.ob (by assumption) | exact isHnd.ob (by assumption) | exact isUnt.ob (by assumption) | exact isSt.ob (by assumption) | exact isHist.ob (by assumption) | exact isTxt.ob (by assumption) | exact isLac.ob (by assumption) | exact isMea.ob (by assumption) | exact hset_s | exact (hset_n (by first | assumption | omega)).trans (by first | assumption | exact isLT.ob (by assumption) | exact isMt.ob (by assumption) | exact isRow.ob (by assumption) | exact isHnd.ob (by assumption) | exact isUnt.ob (by assumption) | exact isSt.ob (by assumption) | exact isHist.ob (by assumption) | exact isTxt.ob (by assumption) | exact isLac.ob (by assumption) | exact isMea.ob (by assumption))))) (pk_in 0 1 (by omega)) ?_
    refine K_goto (tgt := 18) dL_append_9 (by decide) ?_
    refine K_iconst (v := 0) dL_append_18 (by decide) ?_
    exact K_done ⟨_, (⟨by rw [hR]; rfl, isLT_fr hw (fr_set (lo := o) (hi := o + 1) (by omega) (by omega)) (by omega), ⟨_, hset_s, fun _ => by rw [show (0 : Int32).toNatClampNeg = 0 by decide]; exact pk_uLs⟩, fun q d1 d2 => (hset_n d1).trans (hk q d2), by omega⟩), Or.inl ⟨dL_append_19, _, _, rfl, rfl, (by rfl), rfl⟩⟩
abbrev mm_L_lace : MI := (yL_lace, cL_lace, 3, some .int)
abbrev hh_L_lace : List (Nat × Nat × Nat × Nat) := [(0, 8, 11, 13)]
theorem mf_L_lace : MFW mm_L_lace hh_L_lace 2 := ⟨tb_3 (List.mem_of_getElem? (i := 180) rfl) rfl, tb_1 (List.mem_of_getElem? (i := 0) rfl) rfl, ⟨by decide, by decide⟩, by decide +kernel, by decide⟩
theorem ms_L_lace : Cond.static yL_lace ∈ WS := tb_3 (List.mem_of_getElem? (i := 179) rfl) rfl
set_option maxRecDepth 20000 in
theorem sp_L_lace {G : GG} {h : HP} {x o : Nat} {σ : Sg} {g : Nat → Int64} (w : isLT G h x σ) (ok : okS σ) (ho : h o = some (.inl (G.2.1 1, 1, .inr (.inl g)))) (hd : o < x ∨ x + 64 ≤ o) (n : Nat) : SpW G mm_L_lace hh_L_lace 7 [.ref x, .ref o] h n (qW G x o h (opLace σ)) := by
  refine SpW_of (by decide +kernel) (Nat.le_of_ble_eq_true rfl) ?_
  refine K_aload_n dL_lace_0 (by rfl) ?_
  refine K_iconst (v := 0) dL_lace_1 (by decide) ?_
  refine K_aload_n dL_lace_2 (by rfl) ?_
  refine K_callX (tb := hh_L_lace) (kc' := 0) (kn' := 0) mf_X9_lace (tb_3 (List.mem_of_getElem? (i := 181) rfl) rfl) mi_X9_lace mv_X9_lace (sp_X9_lace w _) dL_lace_3 (by first | assumption | exact isLT.ob (by assumption) | exact isMt.ob (by assumption) | exact isRow.ob (by assumption) | exact isHnd.ob (by assumption) | exact isUnt.ob (by assumption) | exact isSt.ob (by assumption) | exact isHist.ob (by assumption) | exact isTxt.ob (by assumption) | exact isLac.ob (by assumption) | exact isMea.ob (by assumption) | exact hset_s | exact (hset_n (by first | assumption | omega)).trans (by first | assumption | exact isLT.ob (by assumption) | exact isMt.ob (by assumption) | exact isRow.ob (by assumption) | exact isHnd.ob (by assumption) | exact isUnt.ob (by assumption) | exact isSt.ob (by assumption) | exact isHist.ob (by assumption) | exact isTxt.ob (by assumption) | exact isLac.ob (by assumption) | exact isMea.ob (by assumption) | exact hset_s | exact (hset_n (by first | assumption | omega)).trans (by first | assumption | exact isLT.ob (by assumption) | exact isMt.ob (by assumption) | exact isRow.ob (by assumption) | exact isHnd.ob (by assumption) | exact isUnt.ob (by assumption) | exact isSt.ob (by assumption) | exact isHist.ob (by assumption) | exact isTxt.ob (by assumption) | exact isLac.ob (by assumption) | exact isMea.ob (by assumption) | exact hset_s | exact (hset_n (by first | assumption | omega)).trans (by first | assumption | exact isLT.ob (by assumption) | exact isMt.ob (by assumption) | exact isRow.ob (by assumption) | exact isHnd.ob (by assumption) | exact isUnt.ob (by assumption) | exact isSt.ob (by assumption) | exact isHist.ob (by assumption) | exact isTxt.ob (by assumption) | exact isLac.ob (by assumption) | exact isMea.ob (by assumption))))) rfl rfl (by decide) (by rfl) rfl (Nat.le_of_ble_eq_true rfl) rfl rfl (fun E h' q => ?_) (fun v h4 n4 q4 => ?_)
  · obtain ⟨⟨i, hR, hE⟩, hw, hk⟩ := q
    have ho4 := (hk o (by omega)).trans ho
    rcases (show i = 0 ∨ 1 ≤ i by omega) with rfl | hi
    · have hE : some "java/lang/IllegalArgumentException" = some E := hE
      cases hE
      refine ⟨11, ⟨[], ⟨0, 8, 11, 13⟩, [], rfl, (fun z hz => by cases hz), by decide, by decide, cl_L_13, ca_L_13, rfl⟩, fun q9 => ?_⟩
      refine K_astore_n dL_lace_11 (Nat.le_of_ble_eq_true rfl) (by rfl) ?_
      refine K_iconst (v := 1) dL_lace_12 (by decide) ?_
      exact K_done ⟨_, (⟨by rw [hR]; rfl, hw, ⟨g, ho4, fun e => by rw [hR] at e; cases e⟩, fun q d1 d2 => hk q d2, by omega⟩), Or.inl ⟨dL_lace_13, _, _, rfl, rfl, (by rfl), rfl⟩⟩
    · rw [List.getElem?_eq_none (by show 1 ≤ i; exact hi)] at hE
      cases hE
  · obtain ⟨hR, rfl, hw, hk⟩ := q4
    have ho4 := (hk o (by omega)).trans ho
    refine K_i2l dL_lace_6 ?_
    refine K_last dL_lace_7 (by first | assumption | exact isLT.ob (by assumption) | exact isMt.ob (by assumption) | exact isRow.ob (by assumption) | exact isHnd.ob (by assumption) | exact isUnt.ob (by assumption) | exact isSt.ob (by assumption) | exact isHist.ob (by assumption) | exact isTxt.ob (by assumption) | exact isLac.ob (by assumption) | exact isMea.ob (by assumption) | exact hset_s | exact (hset_n (by first | assumption | omega)).trans (by first | assumption | exact isLT.ob (by assumption) | exact isMt.ob (by assumption) | exact isRow.ob (by assumption) | exact isHnd.ob (by assumption) | exact isUnt.ob (by assumption) | exact isSt.ob (by assumption) | exact isHist.ob (by assumption) | exact isTxt.ob (by assumption) | exact isLac.ob (by assumption) | exact isMea.ob (by assumption) | exact hset_s | exact (hset_n (by first | assumption | omega)).trans (by first | assumption | exact isLT.ob (by assumption) | exact isMt.ob (by assumption) | exact isRow.ob (by assumption) | exact isHnd.ob (by assumption) | exact isUnt.ob (by assumption) | exact isSt.ob (by assumption) | exact isHist.ob (by assumption) | exact isTxt.ob (by assumption) | exact isLac.ob (by assumption) | exact isMea.ob (by assumption) | exact hset_s | exact (hset_n (by first | assumption | omega)).trans (by first | assumption | exact isLT.ob (by assumption) | exact isMt.ob (by assumption) | exact isRow.ob (by assumption) | exact isHnd.ob (by assumption) | exact isUnt.ob (by assumption) | exact isSt.ob (by assumption) | exact isHist.ob (by assumption) | exact isTxt.ob (by assumption) | exact isLac.ob (by assumption) | exact isMea.ob (by assumption))))) (pk_in 0 1 (by omega)) ?_
    refine K_goto (tgt := 14) dL_lace_8 (by decide) ?_
    refine K_iconst (v := 0) dL_lace_14 (by decide) ?_
    exact K_done ⟨_, (⟨by rw [hR]; rfl, isLT_fr hw (fr_set (lo := o) (hi := o + 1) (by omega) (by omega)) (by omega), ⟨_, hset_s, fun _ => by rw [show (0 : Int32).toNatClampNeg = 0 by decide]; exact pk_uLs⟩, fun q d1 d2 => (hset_n d1).trans (hk q d2), by omega⟩), Or.inl ⟨dL_lace_15, _, _, rfl, rfl, (by rfl), rfl⟩⟩
abbrev mm_L_undo : MI := (yL_undo, cL_undo, 3, some .int)
abbrev hh_L_undo : List (Nat × Nat × Nat × Nat) := [(0, 8, 11, 15)]
theorem mf_L_undo : MFW mm_L_undo hh_L_undo 2 := ⟨tb_3 (List.mem_of_getElem? (i := 201) rfl) rfl, tb_1 (List.mem_of_getElem? (i := 0) rfl) rfl, ⟨by decide, by decide⟩, by decide +kernel, by decide⟩
theorem ms_L_undo : Cond.static yL_undo ∈ WS := tb_3 (List.mem_of_getElem? (i := 200) rfl) rfl
set_option maxRecDepth 20000 in
theorem sp_L_undo {G : GG} {h : HP} {x o : Nat} {σ : Sg} {g : Nat → Int64} (w : isLT G h x σ) (ok : okS σ) (ho : h o = some (.inl (G.2.1 1, 1, .inr (.inl g)))) (hd : o < x ∨ x + 64 ≤ o) (n : Nat) : SpW G mm_L_undo hh_L_undo 7 [.ref x, .ref o] h n (qW G x o h (opUndo σ)) := by
  refine SpW_of (by decide +kernel) (Nat.le_of_ble_eq_true rfl) ?_
  refine K_aload_n dL_undo_0 (by rfl) ?_
  refine K_iconst (v := 0) dL_undo_1 (by decide) ?_
  refine K_aload_n dL_undo_2 (by rfl) ?_
  refine K_callX (tb := hh_L_undo) (kc' := 0) (kn' := 0) mf_X9_undo (tb_3 (List.mem_of_getElem? (i := 202) rfl) rfl) mi_X9_undo mv_X9_undo (sp_X9_undo w _) dL_undo_3 (by first | assumption | exact isLT.ob (by assumption) | exact isMt.ob (by assumption) | exact isRow.ob (by assumption) | exact isHnd.ob (by assumption) | exact isUnt.ob (by assumption) | exact isSt.ob (by assumption) | exact isHist.ob (by assumption) | exact isTxt.ob (by assumption) | exact isLac.ob (by assumption) | exact isMea.ob (by assumption) | exact hset_s | exact (hset_n (by first | assumption | omega)).trans (by first | assumption | exact isLT.ob (by assumption) | exact isMt.ob (by assumption) | exact isRow.ob (by assumption) | exact isHnd.ob (by assumption) | exact isUnt.ob (by assumption) | exact isSt.ob (by assumption) | exact isHist.ob (by assumption) | exact isTxt.ob (by assumption) | exact isLac.ob (by assumption) | exact isMea.ob (by assumption) | exact hset_s | exact (hset_n (by first | assumption | omega)).trans (by first | assumption | exact isLT.ob (by assumption) | exact isMt.ob (by assumption) | exact isRow.ob (by assumption) | exact isHnd.ob (by assumption) | exact isUnt.ob (by assumption) | exact isSt.ob (by assumption) | exact isHist.ob (by assumption) | exact isTxt.ob (by assumption) | exact isLac.ob (by assumption) | exact isMea.ob (by assumption) | exact hset_s | exact (hset_n (by first | assumption | omega)).trans (by first | assumption | exact isLT.ob (by assumption) | exact isMt.ob (by assumption) | exact isRow.ob (by assumption) | exact isHnd.ob (by assumption) | exact isUnt.ob (by assumption) | exact isSt.ob (by assumption) | exact isHist.ob (by assumption) | exact isTxt.ob (by assumption) | exact isLac.ob (by assumption) | exact isMea.ob (by assumption))))) rfl rfl (by decide) (by rfl) rfl (Nat.le_of_ble_eq_true rfl) rfl rfl (fun E h' q => ?_) (fun v h4 n4 q4 => ?_)
  · obtain ⟨⟨i, hR, hE⟩, hw, hk⟩ := q
    have ho4 := (hk o (by omega)).trans ho
    rcases (show i = 0 ∨ 1 ≤ i by omega) with rfl | hi
    · have hE : some "java/lang/IllegalStateException" = some E := hE
      cases hE
      refine ⟨11, ⟨[], ⟨0, 8, 11, 15⟩, [], rfl, (fun z hz => by cases hz), by decide, by decide, cl_L_15, ca_L_15, rfl⟩, fun q9 => ?_⟩
      refine K_astore_n dL_undo_11 (Nat.le_of_ble_eq_true rfl) (by rfl) ?_
      refine K_iconst (v := 1) dL_undo_12 (by decide) ?_
      exact K_done ⟨_, (⟨by rw [hR]; rfl, hw, ⟨g, ho4, fun e => by rw [hR] at e; cases e⟩, fun q d1 d2 => hk q d2, by omega⟩), Or.inl ⟨dL_undo_13, _, _, rfl, rfl, (by rfl), rfl⟩⟩
    · rw [List.getElem?_eq_none (by show 1 ≤ i; exact hi)] at hE
      cases hE
  · obtain ⟨hR, rfl, hw, hk⟩ := q4
    have ho4 := (hk o (by omega)).trans ho
    refine K_i2l dL_undo_6 ?_
    refine K_last dL_undo_7 (by first | assumption | exact isLT.ob (by assumption) | exact isMt.ob (by assumption) | exact isRow.ob (by assumption) | exact isHnd.ob (by assumption) | exact isUnt.ob (by assumption) | exact isSt.ob (by assumption) | exact isHist.ob (by assumption) | exact isTxt.ob (by assumption) | exact isLac.ob (by assumption) | exact isMea.ob (by assumption) | exact hset_s | exact (hset_n (by first | assumption | omega)).trans (by first | assumption | exact isLT.ob (by assumption) | exact isMt.ob (by assumption) | exact isRow.ob (by assumption) | exact isHnd.ob (by assumption) | exact isUnt.ob (by assumption) | exact isSt.ob (by assumption) | exact isHist.ob (by assumption) | exact isTxt.ob (by assumption) | exact isLac.ob (by assumption) | exact isMea.ob (by assumption) | exact hset_s | exact (hset_n (by first | assumption | omega)).trans (by first | assumption | exact isLT.ob (by assumption) | exact isMt.ob (by assumption) | exact isRow.ob (by assumption) | exact isHnd.ob (by assumption) | exact isUnt.ob (by assumption) | exact isSt.ob (by assumption) | exact isHist.ob (by assumption) | exact isTxt.ob (by assumption) | exact isLac.ob (by assumption) | exact isMea.ob (by assumption) | exact hset_s | exact (hset_n (by first | assumption | omega)).trans (by first | assumption | exact isLT.ob (by assumption) | exact isMt.ob (by assumption) | exact isRow.ob (by assumption) | exact isHnd.ob (by assumption) | exact isUnt.ob (by assumption) | exact isSt.ob (by assumption) | exact isHist.ob (by assumption) | exact isTxt.ob (by assumption) | exact isLac.ob (by assumption) | exact isMea.ob (by assumption))))) (pk_in 0 1 (by omega)) ?_
    refine K_goto (tgt := 14) dL_undo_8 (by decide) ?_
    refine K_iconst (v := 0) dL_undo_14 (by decide) ?_
    exact K_done ⟨_, (⟨by rw [hR]; rfl, isLT_fr hw (fr_set (lo := o) (hi := o + 1) (by omega) (by omega)) (by omega), ⟨_, hset_s, fun _ => by rw [show (0 : Int32).toNatClampNeg = 0 by decide]; exact pk_uLs⟩, fun q d1 d2 => (hset_n d1).trans (hk q d2), by omega⟩), Or.inl ⟨dL_undo_15, _, _, rfl, rfl, (by rfl), rfl⟩⟩
abbrev mm_L_restore : MI := (yL_restore, cL_restore, 3, some .int)
abbrev hh_L_restore : List (Nat × Nat × Nat × Nat) := [(0, 8, 11, 15)]
theorem mf_L_restore : MFW mm_L_restore hh_L_restore 2 := ⟨tb_3 (List.mem_of_getElem? (i := 213) rfl) rfl, tb_1 (List.mem_of_getElem? (i := 0) rfl) rfl, ⟨by decide, by decide⟩, by decide +kernel, by decide⟩
theorem ms_L_restore : Cond.static yL_restore ∈ WS := tb_3 (List.mem_of_getElem? (i := 212) rfl) rfl
set_option maxRecDepth 20000 in
theorem sp_L_restore {G : GG} {h : HP} {x o : Nat} {σ : Sg} {g : Nat → Int64} (w : isLT G h x σ) (ok : okS σ) (ho : h o = some (.inl (G.2.1 1, 1, .inr (.inl g)))) (hd : o < x ∨ x + 64 ≤ o) (n : Nat) : SpW G mm_L_restore hh_L_restore 7 [.ref x, .ref o] h n (qW G x o h (opRestore σ)) := by
  refine SpW_of (by decide +kernel) (Nat.le_of_ble_eq_true rfl) ?_
  refine K_aload_n dL_restore_0 (by rfl) ?_
  refine K_iconst (v := 0) dL_restore_1 (by decide) ?_
  refine K_aload_n dL_restore_2 (by rfl) ?_
  refine K_callX (tb := hh_L_restore) (kc' := 0) (kn' := 0) mf_X9_restore (tb_3 (List.mem_of_getElem? (i := 214) rfl) rfl) mi_X9_restore mv_X9_restore (sp_X9_restore w _) dL_restore_3 (by first | assumption | exact isLT.ob (by assumption) | exact isMt.ob (by assumption) | exact isRow.ob (by assumption) | exact isHnd.ob (by assumption) | exact isUnt.ob (by assumption) | exact isSt.ob (by assumption) | exact isHist.ob (by assumption) | exact isTxt.ob (by assumption) | exact isLac.ob (by assumption) | exact isMea.ob (by assumption) | exact hset_s | exact (hset_n (by first | assumption | omega)).trans (by first | assumption | exact isLT.ob (by assumption) | exact isMt.ob (by assumption) | exact isRow.ob (by assumption) | exact isHnd.ob (by assumption) | exact isUnt.ob (by assumption) | exact isSt.ob (by assumption) | exact isHist.ob (by assumption) | exact isTxt.ob (by assumption) | exact isLac.ob (by assumption) | exact isMea.ob (by assumption) | exact hset_s | exact (hset_n (by first | assumption | omega)).trans (by first | assumption | exact isLT.ob (by assumption) | exact isMt.ob (by assumption) | exact isRow.ob (by assumption) | exact isHnd.ob (by assumption) | exact isUnt.ob (by assumption) | exact isSt.ob (by assumption) | exact isHist.ob (by assumption) | exact isTxt.ob (by assumption) | exact isLac.ob (by assumption) | exact isMea.ob (by assumption) | exact hset_s | exact (hset_n (by first | assumption | omega)).trans (by first | assumption | exact isLT.ob (by assumption) | exact isMt.ob (by assumption) | exact isRow.ob (by assumption) | exact isHnd.ob (by assumption) | exact isUnt.ob (by assumption) | exact isSt.ob (by assumption) | exact isHist.ob (by assumption) | exact isTxt.ob (by assumption) | exact isLac.ob (by assumption) | exact isMea.ob (by assumption))))) rfl rfl (by decide) (by rfl) rfl (Nat.le_of_ble_eq_true rfl) rfl rfl (fun E h' q => ?_) (fun v h4 n4 q4 => ?_)
  · obtain ⟨⟨i, hR, hE⟩, hw, hk⟩ := q
    have ho4 := (hk o (by omega)).trans ho
    rcases (show i = 0 ∨ 1 ≤ i by omega) with rfl | hi
    · have hE : some "java/lang/IllegalStateException" = some E := hE
      cases hE
      refine ⟨11, ⟨[], ⟨0, 8, 11, 15⟩, [], rfl, (fun z hz => by cases hz), by decide, by decide, cl_L_15, ca_L_15, rfl⟩, fun q9 => ?_⟩
      refine K_astore_n dL_restore_11 (Nat.le_of_ble_eq_true rfl) (by rfl) ?_
      refine K_iconst (v := 1) dL_restore_12 (by decide) ?_
      exact K_done ⟨_, (⟨by rw [hR]; rfl, hw, ⟨g, ho4, fun e => by rw [hR] at e; cases e⟩, fun q d1 d2 => hk q d2, by omega⟩), Or.inl ⟨dL_restore_13, _, _, rfl, rfl, (by rfl), rfl⟩⟩
    · rw [List.getElem?_eq_none (by show 1 ≤ i; exact hi)] at hE
      cases hE
  · obtain ⟨hR, rfl, hw, hk⟩ := q4
    have ho4 := (hk o (by omega)).trans ho
    refine K_i2l dL_restore_6 ?_
    refine K_last dL_restore_7 (by first | assumption | exact isLT.ob (by assumption) | exact isMt.ob (by assumption) | exact isRow.ob (by assumption) | exact isHnd.ob (by assumption) | exact isUnt.ob (by assumption) | exact isSt.ob (by assumption) | exact isHist.ob (by assumption) | exact isTxt.ob (by assumption) | exact isLac.ob (by assumption) | exact isMea.ob (by assumption) | exact hset_s | exact (hset_n (by first | assumption | omega)).trans (by first | assumption | exact isLT.ob (by assumption) | exact isMt.ob (by assumption) | exact isRow.ob (by assumption) | exact isHnd.ob (by assumption) | exact isUnt.ob (by assumption) | exact isSt.ob (by assumption) | exact isHist.ob (by assumption) | exact isTxt.ob (by assumption) | exact isLac.ob (by assumption) | exact isMea.ob (by assumption) | exact hset_s | exact (hset_n (by first | assumption | omega)).trans (by first | assumption | exact isLT.ob (by assumption) | exact isMt.ob (by assumption) | exact isRow.ob (by assumption) | exact isHnd.ob (by assumption) | exact isUnt.ob (by assumption) | exact isSt.ob (by assumption) | exact isHist.ob (by assumption) | exact isTxt.ob (by assumption) | exact isLac.ob (by assumption) | exact isMea.ob (by assumption) | exact hset_s | exact (hset_n (by first | assumption | omega)).trans (by first | assumption | exact isLT.ob (by assumption) | exact isMt.ob (by assumption) | exact isRow.ob (by assumption) | exact isHnd.ob (by assumption) | exact isUnt.ob (by assumption) | exact isSt.ob (by assumption) | exact isHist.ob (by assumption) | exact isTxt.ob (by assumption) | exact isLac.ob (by assumption) | exact isMea.ob (by assumption))))) (pk_in 0 1 (by omega)) ?_
    refine K_goto (tgt := 14) dL_restore_8 (by decide) ?_
    refine K_iconst (v := 0) dL_restore_14 (by decide) ?_
    exact K_done ⟨_, (⟨by rw [hR]; rfl, isLT_fr hw (fr_set (lo := o) (hi := o + 1) (by omega) (by omega)) (by omega), ⟨_, hset_s, fun _ => by rw [show (0 : Int32).toNatClampNeg = 0 by decide]; exact pk_uLs⟩, fun q d1 d2 => (hset_n d1).trans (hk q d2), by omega⟩), Or.inl ⟨dL_restore_15, _, _, rfl, rfl, (by rfl), rfl⟩⟩
abbrev mm_L_crossing : MI := (yL_crossing, cL_crossing, 4, some .int)
abbrev hh_L_crossing : List (Nat × Nat × Nat × Nat) := [(0, 9, 12, 13)]
theorem mf_L_crossing : MFW mm_L_crossing hh_L_crossing 3 := ⟨tb_3 (List.mem_of_getElem? (i := 221) rfl) rfl, tb_1 (List.mem_of_getElem? (i := 0) rfl) rfl, ⟨by decide, by decide⟩, by decide +kernel, by decide⟩
theorem ms_L_crossing : Cond.static yL_crossing ∈ WS := tb_3 (List.mem_of_getElem? (i := 220) rfl) rfl
set_option maxRecDepth 20000 in
theorem sp_L_crossing {G : GG} {h : HP} {x o : Nat} {σ : Sg} {g : Nat → Int64} (w : isLT G h x σ) (ok : okS σ) (ho : h o = some (.inl (G.2.1 1, 1, .inr (.inl g)))) (hd : o < x ∨ x + 64 ≤ o) (k : Int32) (n : Nat) : SpW G mm_L_crossing hh_L_crossing 7 [.ref x, .int k, .ref o] h n (qW G x o h (opCrossing k σ)) := by
  refine SpW_of (by decide +kernel) (Nat.le_of_ble_eq_true rfl) ?_
  refine K_aload_n dL_crossing_0 (by rfl) ?_
  refine K_iconst (v := 0) dL_crossing_1 (by decide) ?_
  refine K_aload_n dL_crossing_2 (by rfl) ?_
  refine K_iload_n dL_crossing_3 (by rfl) ?_
  refine K_callX (tb := hh_L_crossing) (kc' := 0) (kn' := 0) mf_X9_crossing (tb_3 (List.mem_of_getElem? (i := 222) rfl) rfl) mi_X9_crossing mv_X9_crossing (sp_X9_crossing w k _) dL_crossing_4 (by first | assumption | exact isLT.ob (by assumption) | exact isMt.ob (by assumption) | exact isRow.ob (by assumption) | exact isHnd.ob (by assumption) | exact isUnt.ob (by assumption) | exact isSt.ob (by assumption) | exact isHist.ob (by assumption) | exact isTxt.ob (by assumption) | exact isLac.ob (by assumption) | exact isMea.ob (by assumption) | exact hset_s | exact (hset_n (by first | assumption | omega)).trans (by first | assumption | exact isLT.ob (by assumption) | exact isMt.ob (by assumption) | exact isRow.ob (by assumption) | exact isHnd.ob (by assumption) | exact isUnt.ob (by assumption) | exact isSt.ob (by assumption) | exact isHist.ob (by assumption) | exact isTxt.ob (by assumption) | exact isLac.ob (by assumption) | exact isMea.ob (by assumption) | exact hset_s | exact (hset_n (by first | assumption | omega)).trans (by first | assumption | exact isLT.ob (by assumption) | exact isMt.ob (by assumption) | exact isRow.ob (by assumption) | exact isHnd.ob (by assumption) | exact isUnt.ob (by assumption) | exact isSt.ob (by assumption) | exact isHist.ob (by assumption) | exact isTxt.ob (by assumption) | exact isLac.ob (by assumption) | exact isMea.ob (by assumption) | exact hset_s | exact (hset_n (by first | assumption | omega)).trans (by first | assumption | exact isLT.ob (by assumption) | exact isMt.ob (by assumption) | exact isRow.ob (by assumption) | exact isHnd.ob (by assumption) | exact isUnt.ob (by assumption) | exact isSt.ob (by assumption) | exact isHist.ob (by assumption) | exact isTxt.ob (by assumption) | exact isLac.ob (by assumption) | exact isMea.ob (by assumption))))) rfl rfl (by decide) (by rfl) rfl (Nat.le_of_ble_eq_true rfl) rfl rfl (fun E h' q => ?_) (fun v h4 n4 q4 => ?_)
  · obtain ⟨⟨i, hR, hE⟩, hw, hk⟩ := q
    have ho4 := (hk o (by omega)).trans ho
    rcases (show i = 0 ∨ 1 ≤ i by omega) with rfl | hi
    · have hE : some "java/lang/IllegalArgumentException" = some E := hE
      cases hE
      refine ⟨12, ⟨[], ⟨0, 9, 12, 13⟩, [], rfl, (fun z hz => by cases hz), by decide, by decide, cl_L_13, ca_L_13, rfl⟩, fun q9 => ?_⟩
      refine K_astore_n dL_crossing_12 (Nat.le_of_ble_eq_true rfl) (by rfl) ?_
      refine K_iconst (v := 1) dL_crossing_13 (by decide) ?_
      exact K_done ⟨_, (⟨by rw [hR]; rfl, hw, ⟨g, ho4, fun e => by rw [hR] at e; cases e⟩, fun q d1 d2 => hk q d2, by omega⟩), Or.inl ⟨dL_crossing_14, _, _, rfl, rfl, (by rfl), rfl⟩⟩
    · rw [List.getElem?_eq_none (by show 1 ≤ i; exact hi)] at hE
      cases hE
  · obtain ⟨hR, rfl, hw, hk⟩ := q4
    have ho4 := (hk o (by omega)).trans ho
    refine K_i2l dL_crossing_7 ?_
    refine K_last dL_crossing_8 (by first | assumption | exact isLT.ob (by assumption) | exact isMt.ob (by assumption) | exact isRow.ob (by assumption) | exact isHnd.ob (by assumption) | exact isUnt.ob (by assumption) | exact isSt.ob (by assumption) | exact isHist.ob (by assumption) | exact isTxt.ob (by assumption) | exact isLac.ob (by assumption) | exact isMea.ob (by assumption) | exact hset_s | exact (hset_n (by first | assumption | omega)).trans (by first | assumption | exact isLT.ob (by assumption) | exact isMt.ob (by assumption) | exact isRow.ob (by assumption) | exact isHnd.ob (by assumption) | exact isUnt.ob (by assumption) | exact isSt.ob (by assumption) | exact isHist.ob (by assumption) | exact isTxt.ob (by assumption) | exact isLac.ob (by assumption) | exact isMea.ob (by assumption) | exact hset_s | exact (hset_n (by first | assumption | omega)).trans (by first | assumption | exact isLT.ob (by assumption) | exact isMt.ob (by assumption) | exact isRow.ob (by assumption) | exact isHnd.ob (by assumption) | exact isUnt.ob (by assumption) | exact isSt.ob (by assumption) | exact isHist.ob (by assumption) | exact isTxt.ob (by assumption) | exact isLac.ob (by assumption) | exact isMea.ob (by assumption) | exact hset_s | exact (hset_n (by first | assumption | omega)).trans (by first | assumption | exact isLT.ob (by assumption) | exact isMt.ob (by assumption) | exact isRow.ob (by assumption) | exact isHnd.ob (by assumption) | exact isUnt.ob (by assumption) | exact isSt.ob (by assumption) | exact isHist.ob (by assumption) | exact isTxt.ob (by assumption) | exact isLac.ob (by assumption) | exact isMea.ob (by assumption))))) (pk_in 0 1 (by omega)) ?_
    refine K_goto (tgt := 15) dL_crossing_9 (by decide) ?_
    refine K_iconst (v := 0) dL_crossing_15 (by decide) ?_
    exact K_done ⟨_, (⟨by rw [hR]; rfl, isLT_fr hw (fr_set (lo := o) (hi := o + 1) (by omega) (by omega)) (by omega), ⟨_, hset_s, fun _ => by rw [show (0 : Int32).toNatClampNeg = 0 by decide]; exact pk_uLs⟩, fun q d1 d2 => (hset_n d1).trans (hk q d2), by omega⟩), Or.inl ⟨dL_crossing_16, _, _, rfl, rfl, (by rfl), rfl⟩⟩
abbrev mm_L_lies : MI := (yL_lies, cL_lies, 5, some .int)
abbrev hh_L_lies : List (Nat × Nat × Nat × Nat) := [(0, 10, 13, 49), (0, 10, 17, 13)]
theorem mf_L_lies : MFW mm_L_lies hh_L_lies 4 := ⟨tb_3 (List.mem_of_getElem? (i := 229) rfl) rfl, tb_1 (List.mem_of_getElem? (i := 0) rfl) rfl, ⟨by decide, by decide⟩, by decide +kernel, by decide⟩
theorem ms_L_lies : Cond.static yL_lies ∈ WS := tb_3 (List.mem_of_getElem? (i := 228) rfl) rfl
theorem ca_L_49 : Cond.castable "java/lang/IndexOutOfBoundsException" "java/lang/IndexOutOfBoundsException" ∈ WS := tb_3 (List.mem_of_getElem? (i := 238) rfl) rfl
set_option maxRecDepth 20000 in
theorem sp_L_lies {G : GG} {h : HP} {x o : Nat} {σ : Sg} {g : Nat → Int64} (w : isLT G h x σ) (ok : okS σ) (ho : h o = some (.inl (G.2.1 1, 1, .inr (.inl g)))) (hd : o < x ∨ x + 64 ≤ o) (k p : Int32) (n : Nat) : SpW G mm_L_lies hh_L_lies 7 [.ref x, .int k, .int p, .ref o] h n (qW G x o h (opLies k p σ)) := by
  refine SpW_of (by decide +kernel) (Nat.le_of_ble_eq_true rfl) ?_
  refine K_aload_n dL_lies_0 (by rfl) ?_
  refine K_iconst (v := 0) dL_lies_1 (by decide) ?_
  refine K_aload_n dL_lies_2 (by rfl) ?_
  refine K_iload_n dL_lies_3 (by rfl) ?_
  refine K_iload_n dL_lies_4 (by rfl) ?_
  refine K_callX (tb := hh_L_lies) (kc' := 0) (kn' := 0) mf_X9_lies (tb_3 (List.mem_of_getElem? (i := 231) rfl) rfl) mi_X9_lies mv_X9_lies (sp_X9_lies w ok k p _) dL_lies_5 (by first | assumption | exact isLT.ob (by assumption) | exact isMt.ob (by assumption) | exact isRow.ob (by assumption) | exact isHnd.ob (by assumption) | exact isUnt.ob (by assumption) | exact isSt.ob (by assumption) | exact isHist.ob (by assumption) | exact isTxt.ob (by assumption) | exact isLac.ob (by assumption) | exact isMea.ob (by assumption) | exact hset_s | exact (hset_n (by first | assumption | omega)).trans (by first | assumption | exact isLT.ob (by assumption) | exact isMt.ob (by assumption) | exact isRow.ob (by assumption) | exact isHnd.ob (by assumption) | exact isUnt.ob (by assumption) | exact isSt.ob (by assumption) | exact isHist.ob (by assumption) | exact isTxt.ob (by assumption) | exact isLac.ob (by assumption) | exact isMea.ob (by assumption) | exact hset_s | exact (hset_n (by first | assumption | omega)).trans (by first | assumption | exact isLT.ob (by assumption) | exact isMt.ob (by assumption) | exact isRow.ob (by assumption) | exact isHnd.ob (by assumption) | exact isUnt.ob (by assumption) | exact isSt.ob (by assumption) | exact isHist.ob (by assumption) | exact isTxt.ob (by assumption) | exact isLac.ob (by assumption) | exact isMea.ob (by assumption) | exact hset_s | exact (hset_n (by first | assumption | omega)).trans (by first | assumption | exact isLT.ob (by assumption) | exact isMt.ob (by assumption) | exact isRow.ob (by assumption) | exact isHnd.ob (by assumption) | exact isUnt.ob (by assumption) | exact isSt.ob (by assumption) | exact isHist.ob (by assumption) | exact isTxt.ob (by assumption) | exact isLac.ob (by assumption) | exact isMea.ob (by assumption))))) rfl rfl (by decide) (by rfl) rfl (Nat.le_of_ble_eq_true rfl) rfl rfl (fun E h' q => ?_) (fun v h4 n4 q4 => ?_)
  · obtain ⟨⟨i, hR, hE⟩, hw, hk⟩ := q
    have ho4 := (hk o (by omega)).trans ho
    rcases (show i = 0 ∨ i = 1 ∨ 2 ≤ i by omega) with rfl | rfl | hi
    · have hE : some "java/lang/IndexOutOfBoundsException" = some E := hE
      cases hE
      refine ⟨13, ⟨[], ⟨0, 10, 13, 49⟩, [⟨0, 10, 17, 13⟩], rfl, (fun z hz => by cases hz), by decide, by decide, cl_L_49, ca_L_49, rfl⟩, fun q9 => ?_⟩
      refine K_astore dL_lies_13 (Nat.le_of_ble_eq_true rfl) (by rfl) ?_
      refine K_iconst (v := 1) dL_lies_15 (by decide) ?_
      exact K_done ⟨_, (⟨by rw [hR]; rfl, hw, ⟨g, ho4, fun e => by rw [hR] at e; cases e⟩, fun q d1 d2 => hk q d2, by omega⟩), Or.inl ⟨dL_lies_16, _, _, rfl, rfl, (by rfl), rfl⟩⟩
    · have hE : some "java/lang/IllegalArgumentException" = some E := hE
      cases hE
      refine ⟨17, ⟨[⟨0, 10, 13, 49⟩], ⟨0, 10, 17, 13⟩, [], rfl, (fun z hz => by rw [List.mem_singleton.mp hz]; exact ⟨by decide, _, cl_L_49, by unfold NC; simp⟩), by decide, by decide, cl_L_13, ca_L_13, rfl⟩, fun q9 => ?_⟩
      refine K_astore dL_lies_17 (Nat.le_of_ble_eq_true rfl) (by rfl) ?_
      refine K_iconst (v := 2) dL_lies_19 (by decide) ?_
      exact K_done ⟨_, (⟨by rw [hR]; rfl, hw, ⟨g, ho4, fun e => by rw [hR] at e; cases e⟩, fun q d1 d2 => hk q d2, by omega⟩), Or.inl ⟨dL_lies_20, _, _, rfl, rfl, (by rfl), rfl⟩⟩
    · rw [List.getElem?_eq_none (by show 2 ≤ i; exact hi)] at hE
      cases hE
  · obtain ⟨hR, rfl, hw, hk⟩ := q4
    have ho4 := (hk o (by omega)).trans ho
    refine K_i2l dL_lies_8 ?_
    refine K_last dL_lies_9 (by first | assumption | exact isLT.ob (by assumption) | exact isMt.ob (by assumption) | exact isRow.ob (by assumption) | exact isHnd.ob (by assumption) | exact isUnt.ob (by assumption) | exact isSt.ob (by assumption) | exact isHist.ob (by assumption) | exact isTxt.ob (by assumption) | exact isLac.ob (by assumption) | exact isMea.ob (by assumption) | exact hset_s | exact (hset_n (by first | assumption | omega)).trans (by first | assumption | exact isLT.ob (by assumption) | exact isMt.ob (by assumption) | exact isRow.ob (by assumption) | exact isHnd.ob (by assumption) | exact isUnt.ob (by assumption) | exact isSt.ob (by assumption) | exact isHist.ob (by assumption) | exact isTxt.ob (by assumption) | exact isLac.ob (by assumption) | exact isMea.ob (by assumption) | exact hset_s | exact (hset_n (by first | assumption | omega)).trans (by first | assumption | exact isLT.ob (by assumption) | exact isMt.ob (by assumption) | exact isRow.ob (by assumption) | exact isHnd.ob (by assumption) | exact isUnt.ob (by assumption) | exact isSt.ob (by assumption) | exact isHist.ob (by assumption) | exact isTxt.ob (by assumption) | exact isLac.ob (by assumption) | exact isMea.ob (by assumption) | exact hset_s | exact (hset_n (by first | assumption | omega)).trans (by first | assumption | exact isLT.ob (by assumption) | exact isMt.ob (by assumption) | exact isRow.ob (by assumption) | exact isHnd.ob (by assumption) | exact isUnt.ob (by assumption) | exact isSt.ob (by assumption) | exact isHist.ob (by assumption) | exact isTxt.ob (by assumption) | exact isLac.ob (by assumption) | exact isMea.ob (by assumption))))) (pk_in 0 1 (by omega)) ?_
    refine K_goto (tgt := 21) dL_lies_10 (by decide) ?_
    refine K_iconst (v := 0) dL_lies_21 (by decide) ?_
    exact K_done ⟨_, (⟨by rw [hR]; rfl, isLT_fr hw (fr_set (lo := o) (hi := o + 1) (by omega) (by omega)) (by omega), ⟨_, hset_s, fun _ => by rw [show (0 : Int32).toNatClampNeg = 0 by decide]; exact pk_uLs⟩, fun q d1 d2 => (hset_n d1).trans (hk q d2), by omega⟩), Or.inl ⟨dL_lies_22, _, _, rfl, rfl, (by rfl), rfl⟩⟩
abbrev mm_L_winding : MI := (yL_winding, cL_winding, 5, some .int)
abbrev hh_L_winding : List (Nat × Nat × Nat × Nat) := [(0, 10, 13, 49)]
theorem mf_L_winding : MFW mm_L_winding hh_L_winding 4 := ⟨tb_4 (List.mem_of_getElem? (i := 15) rfl) rfl, tb_1 (List.mem_of_getElem? (i := 0) rfl) rfl, ⟨by decide, by decide⟩, by decide +kernel, by decide⟩
theorem ms_L_winding : Cond.static yL_winding ∈ WS := tb_4 (List.mem_of_getElem? (i := 14) rfl) rfl
set_option maxRecDepth 20000 in
theorem sp_L_winding {G : GG} {h : HP} {x o : Nat} {σ : Sg} {g : Nat → Int64} (w : isLT G h x σ) (ok : okS σ) (ho : h o = some (.inl (G.2.1 1, 1, .inr (.inl g)))) (hd : o < x ∨ x + 64 ≤ o) (a b : Int32) (n : Nat) : SpW G mm_L_winding hh_L_winding 7 [.ref x, .int a, .int b, .ref o] h n (qW G x o h (opWinding a b σ)) := by
  refine SpW_of (by decide +kernel) (Nat.le_of_ble_eq_true rfl) ?_
  refine K_aload_n dL_winding_0 (by rfl) ?_
  refine K_iconst (v := 0) dL_winding_1 (by decide) ?_
  refine K_aload_n dL_winding_2 (by rfl) ?_
  refine K_iload_n dL_winding_3 (by rfl) ?_
  refine K_iload_n dL_winding_4 (by rfl) ?_
  refine K_callX (tb := hh_L_winding) (kc' := 0) (kn' := 0) mf_X9_winding (tb_4 (List.mem_of_getElem? (i := 16) rfl) rfl) mi_X9_winding mv_X9_winding (sp_X9_winding w ok a b _) dL_winding_5 (by first | assumption | exact isLT.ob (by assumption) | exact isMt.ob (by assumption) | exact isRow.ob (by assumption) | exact isHnd.ob (by assumption) | exact isUnt.ob (by assumption) | exact isSt.ob (by assumption) | exact isHist.ob (by assumption) | exact isTxt.ob (by assumption) | exact isLac.ob (by assumption) | exact isMea.ob (by assumption) | exact hset_s | exact (hset_n (by first | assumption | omega)).trans (by first | assumption | exact isLT.ob (by assumption) | exact isMt.ob (by assumption) | exact isRow.ob (by assumption) | exact isHnd.ob (by assumption) | exact isUnt.ob (by assumption) | exact isSt.ob (by assumption) | exact isHist.ob (by assumption) | exact isTxt.ob (by assumption) | exact isLac.ob (by assumption) | exact isMea.ob (by assumption) | exact hset_s | exact (hset_n (by first | assumption | omega)).trans (by first | assumption | exact isLT.ob (by assumption) | exact isMt.ob (by assumption) | exact isRow.ob (by assumption) | exact isHnd.ob (by assumption) | exact isUnt.ob (by assumption) | exact isSt.ob (by assumption) | exact isHist.ob (by assumption) | exact isTxt.ob (by assumption) | exact isLac.ob (by assumption) | exact isMea.ob (by assumption) | exact hset_s | exact (hset_n (by first | assumption | omega)).trans (by first | assumption | exact isLT.ob (by assumption) | exact isMt.ob (by assumption) | exact isRow.ob (by assumption) | exact isHnd.ob (by assumption) | exact isUnt.ob (by assumption) | exact isSt.ob (by assumption) | exact isHist.ob (by assumption) | exact isTxt.ob (by assumption) | exact isLac.ob (by assumption) | exact isMea.ob (by assumption))))) rfl rfl (by decide) (by rfl) rfl (Nat.le_of_ble_eq_true rfl) rfl rfl (fun E h' q => ?_) (fun v h4 n4 q4 => ?_)
  · obtain ⟨⟨i, hR, hE⟩, hw, hk⟩ := q
    have ho4 := (hk o (by omega)).trans ho
    rcases (show i = 0 ∨ 1 ≤ i by omega) with rfl | hi
    · have hE : some "java/lang/IndexOutOfBoundsException" = some E := hE
      cases hE
      refine ⟨13, ⟨[], ⟨0, 10, 13, 49⟩, [], rfl, (fun z hz => by cases hz), by decide, by decide, cl_L_49, ca_L_49, rfl⟩, fun q9 => ?_⟩
      refine K_astore dL_winding_13 (Nat.le_of_ble_eq_true rfl) (by rfl) ?_
      refine K_iconst (v := 1) dL_winding_15 (by decide) ?_
      exact K_done ⟨_, (⟨by rw [hR]; rfl, hw, ⟨g, ho4, fun e => by rw [hR] at e; cases e⟩, fun q d1 d2 => hk q d2, by omega⟩), Or.inl ⟨dL_winding_16, _, _, rfl, rfl, (by rfl), rfl⟩⟩
    · rw [List.getElem?_eq_none (by show 1 ≤ i; exact hi)] at hE
      cases hE
  · obtain ⟨hR, rfl, hw, hk⟩ := q4
    have ho4 := (hk o (by omega)).trans ho
    refine K_i2l dL_winding_8 ?_
    refine K_last dL_winding_9 (by first | assumption | exact isLT.ob (by assumption) | exact isMt.ob (by assumption) | exact isRow.ob (by assumption) | exact isHnd.ob (by assumption) | exact isUnt.ob (by assumption) | exact isSt.ob (by assumption) | exact isHist.ob (by assumption) | exact isTxt.ob (by assumption) | exact isLac.ob (by assumption) | exact isMea.ob (by assumption) | exact hset_s | exact (hset_n (by first | assumption | omega)).trans (by first | assumption | exact isLT.ob (by assumption) | exact isMt.ob (by assumption) | exact isRow.ob (by assumption) | exact isHnd.ob (by assumption) | exact isUnt.ob (by assumption) | exact isSt.ob (by assumption) | exact isHist.ob (by assumption) | exact isTxt.ob (by assumption) | exact isLac.ob (by assumption) | exact isMea.ob (by assumption) | exact hset_s | exact (hset_n (by first | assumption | omega)).trans (by first | assumption | exact isLT.ob (by assumption) | exact isMt.ob (by assumption) | exact isRow.ob (by assumption) | exact isHnd.ob (by assumption) | exact isUnt.ob (by assumption) | exact isSt.ob (by assumption) | exact isHist.ob (by assumption) | exact isTxt.ob (by assumption) | exact isLac.ob (by assumption) | exact isMea.ob (by assumption) | exact hset_s | exact (hset_n (by first | assumption | omega)).trans (by first | assumption | exact isLT.ob (by assumption) | exact isMt.ob (by assumption) | exact isRow.ob (by assumption) | exact isHnd.ob (by assumption) | exact isUnt.ob (by assumption) | exact isSt.ob (by assumption) | exact isHist.ob (by assumption) | exact isTxt.ob (by assumption) | exact isLac.ob (by assumption) | exact isMea.ob (by assumption))))) (pk_in 0 1 (by omega)) ?_
    refine K_goto (tgt := 17) dL_winding_10 (by decide) ?_
    refine K_iconst (v := 0) dL_winding_17 (by decide) ?_
    exact K_done ⟨_, (⟨by rw [hR]; rfl, isLT_fr hw (fr_set (lo := o) (hi := o + 1) (by omega) (by omega)) (by omega), ⟨_, hset_s, fun _ => by rw [show (0 : Int32).toNatClampNeg = 0 by decide]; exact pk_uLs⟩, fun q d1 d2 => (hset_n d1).trans (hk q d2), by omega⟩), Or.inl ⟨dL_winding_18, _, _, rfl, rfl, (by rfl), rfl⟩⟩
abbrev mm_L_measure : MI := (yL_measure, cL_measure, 5, some .int)
abbrev hh_L_measure : List (Nat × Nat × Nat × Nat) := [(0, 10, 13, 49)]
theorem mf_L_measure : MFW mm_L_measure hh_L_measure 4 := ⟨tb_4 (List.mem_of_getElem? (i := 23) rfl) rfl, tb_1 (List.mem_of_getElem? (i := 0) rfl) rfl, ⟨by decide, by decide⟩, by decide +kernel, by decide⟩
theorem ms_L_measure : Cond.static yL_measure ∈ WS := tb_4 (List.mem_of_getElem? (i := 22) rfl) rfl
set_option maxRecDepth 20000 in
theorem sp_L_measure {G : GG} {h : HP} {x o : Nat} {σ : Sg} {g : Nat → Int64} (w : isLT G h x σ) (ok : okS σ) (ho : h o = some (.inl (G.2.1 1, 1, .inr (.inl g)))) (hd : o < x ∨ x + 64 ≤ o) (a b : Int32) (n : Nat) : SpW G mm_L_measure hh_L_measure 7 [.ref x, .int a, .int b, .ref o] h n (qW G x o h (opMeasure a b σ)) := by
  refine SpW_of (by decide +kernel) (Nat.le_of_ble_eq_true rfl) ?_
  refine K_aload_n dL_measure_0 (by rfl) ?_
  refine K_iconst (v := 0) dL_measure_1 (by decide) ?_
  refine K_aload_n dL_measure_2 (by rfl) ?_
  refine K_iload_n dL_measure_3 (by rfl) ?_
  refine K_iload_n dL_measure_4 (by rfl) ?_
  refine K_callX (tb := hh_L_measure) (kc' := 0) (kn' := 0) mf_X9_measure (tb_4 (List.mem_of_getElem? (i := 24) rfl) rfl) mi_X9_measure mv_X9_measure (sp_X9_measure w ok a b _) dL_measure_5 (by first | assumption | exact isLT.ob (by assumption) | exact isMt.ob (by assumption) | exact isRow.ob (by assumption) | exact isHnd.ob (by assumption) | exact isUnt.ob (by assumption) | exact isSt.ob (by assumption) | exact isHist.ob (by assumption) | exact isTxt.ob (by assumption) | exact isLac.ob (by assumption) | exact isMea.ob (by assumption) | exact hset_s | exact (hset_n (by first | assumption | omega)).trans (by first | assumption | exact isLT.ob (by assumption) | exact isMt.ob (by assumption) | exact isRow.ob (by assumption) | exact isHnd.ob (by assumption) | exact isUnt.ob (by assumption) | exact isSt.ob (by assumption) | exact isHist.ob (by assumption) | exact isTxt.ob (by assumption) | exact isLac.ob (by assumption) | exact isMea.ob (by assumption) | exact hset_s | exact (hset_n (by first | assumption | omega)).trans (by first | assumption | exact isLT.ob (by assumption) | exact isMt.ob (by assumption) | exact isRow.ob (by assumption) | exact isHnd.ob (by assumption) | exact isUnt.ob (by assumption) | exact isSt.ob (by assumption) | exact isHist.ob (by assumption) | exact isTxt.ob (by assumption) | exact isLac.ob (by assumption) | exact isMea.ob (by assumption) | exact hset_s | exact (hset_n (by first | assumption | omega)).trans (by first | assumption | exact isLT.ob (by assumption) | exact isMt.ob (by assumption) | exact isRow.ob (by assumption) | exact isHnd.ob (by assumption) | exact isUnt.ob (by assumption) | exact isSt.ob (by assumption) | exact isHist.ob (by assumption) | exact isTxt.ob (by assumption) | exact isLac.ob (by assumption) | exact isMea.ob (by assumption))))) rfl rfl (by decide) (by rfl) rfl (Nat.le_of_ble_eq_true rfl) rfl rfl (fun E h' q => ?_) (fun v h4 n4 q4 => ?_)
  · obtain ⟨⟨i, hR, hE⟩, hw, hk⟩ := q
    have ho4 := (hk o (by omega)).trans ho
    rcases (show i = 0 ∨ 1 ≤ i by omega) with rfl | hi
    · have hE : some "java/lang/IndexOutOfBoundsException" = some E := hE
      cases hE
      refine ⟨13, ⟨[], ⟨0, 10, 13, 49⟩, [], rfl, (fun z hz => by cases hz), by decide, by decide, cl_L_49, ca_L_49, rfl⟩, fun q9 => ?_⟩
      refine K_astore dL_measure_13 (Nat.le_of_ble_eq_true rfl) (by rfl) ?_
      refine K_iconst (v := 1) dL_measure_15 (by decide) ?_
      exact K_done ⟨_, (⟨by rw [hR]; rfl, hw, ⟨g, ho4, fun e => by rw [hR] at e; cases e⟩, fun q d1 d2 => hk q d2, by omega⟩), Or.inl ⟨dL_measure_16, _, _, rfl, rfl, (by rfl), rfl⟩⟩
    · rw [List.getElem?_eq_none (by show 1 ≤ i; exact hi)] at hE
      cases hE
  · obtain ⟨hR, rfl, hw, hk⟩ := q4
    have ho4 := (hk o (by omega)).trans ho
    refine K_i2l dL_measure_8 ?_
    refine K_last dL_measure_9 (by first | assumption | exact isLT.ob (by assumption) | exact isMt.ob (by assumption) | exact isRow.ob (by assumption) | exact isHnd.ob (by assumption) | exact isUnt.ob (by assumption) | exact isSt.ob (by assumption) | exact isHist.ob (by assumption) | exact isTxt.ob (by assumption) | exact isLac.ob (by assumption) | exact isMea.ob (by assumption) | exact hset_s | exact (hset_n (by first | assumption | omega)).trans (by first | assumption | exact isLT.ob (by assumption) | exact isMt.ob (by assumption) | exact isRow.ob (by assumption) | exact isHnd.ob (by assumption) | exact isUnt.ob (by assumption) | exact isSt.ob (by assumption) | exact isHist.ob (by assumption) | exact isTxt.ob (by assumption) | exact isLac.ob (by assumption) | exact isMea.ob (by assumption) | exact hset_s | exact (hset_n (by first | assumption | omega)).trans (by first | assumption | exact isLT.ob (by assumption) | exact isMt.ob (by assumption) | exact isRow.ob (by assumption) | exact isHnd.ob (by assumption) | exact isUnt.ob (by assumption) | exact isSt.ob (by assumption) | exact isHist.ob (by assumption) | exact isTxt.ob (by assumption) | exact isLac.ob (by assumption) | exact isMea.ob (by assumption) | exact hset_s | exact (hset_n (by first | assumption | omega)).trans (by first | assumption | exact isLT.ob (by assumption) | exact isMt.ob (by assumption) | exact isRow.ob (by assumption) | exact isHnd.ob (by assumption) | exact isUnt.ob (by assumption) | exact isSt.ob (by assumption) | exact isHist.ob (by assumption) | exact isTxt.ob (by assumption) | exact isLac.ob (by assumption) | exact isMea.ob (by assumption))))) (pk_in 0 1 (by omega)) ?_
    refine K_goto (tgt := 17) dL_measure_10 (by decide) ?_
    refine K_iconst (v := 0) dL_measure_17 (by decide) ?_
    exact K_done ⟨_, (⟨by rw [hR]; rfl, isLT_fr hw (fr_set (lo := o) (hi := o + 1) (by omega) (by omega)) (by omega), ⟨_, hset_s, fun _ => by rw [show (0 : Int32).toNatClampNeg = 0 by decide]; exact pk_uLs⟩, fun q d1 d2 => (hset_n d1).trans (hk q d2), by omega⟩), Or.inl ⟨dL_measure_18, _, _, rfl, rfl, (by rfl), rfl⟩⟩
abbrev mm_L_halved : MI := (yL_halved, cL_halved, 5, some .int)
abbrev hh_L_halved : List (Nat × Nat × Nat × Nat) := [(0, 10, 13, 49)]
theorem mf_L_halved : MFW mm_L_halved hh_L_halved 4 := ⟨tb_4 (List.mem_of_getElem? (i := 31) rfl) rfl, tb_1 (List.mem_of_getElem? (i := 0) rfl) rfl, ⟨by decide, by decide⟩, by decide +kernel, by decide⟩
theorem ms_L_halved : Cond.static yL_halved ∈ WS := tb_4 (List.mem_of_getElem? (i := 30) rfl) rfl
set_option maxRecDepth 20000 in
theorem sp_L_halved {G : GG} {h : HP} {x o : Nat} {σ : Sg} {g : Nat → Int64} (w : isLT G h x σ) (ok : okS σ) (ho : h o = some (.inl (G.2.1 1, 1, .inr (.inl g)))) (hd : o < x ∨ x + 64 ≤ o) (a b : Int32) (n : Nat) : SpW G mm_L_halved hh_L_halved 10 [.ref x, .int a, .int b, .ref o] h n (qW G x o h (opMeasure a b σ)) := by
  refine SpW_of (by decide +kernel) (Nat.le_of_ble_eq_true rfl) ?_
  refine K_aload_n dL_halved_0 (by rfl) ?_
  refine K_iconst (v := 0) dL_halved_1 (by decide) ?_
  refine K_aload_n dL_halved_2 (by rfl) ?_
  refine K_iload_n dL_halved_3 (by rfl) ?_
  refine K_iload_n dL_halved_4 (by rfl) ?_
  refine K_callX (tb := hh_L_halved) (kc' := 0) (kn' := 0) mf_X9_halved (tb_4 (List.mem_of_getElem? (i := 32) rfl) rfl) mi_X9_halved mv_X9_halved (sp_X9_halved w ok a b _) dL_halved_5 (by first | assumption | exact isLT.ob (by assumption) | exact isMt.ob (by assumption) | exact isRow.ob (by assumption) | exact isHnd.ob (by assumption) | exact isUnt.ob (by assumption) | exact isSt.ob (by assumption) | exact isHist.ob (by assumption) | exact isTxt.ob (by assumption) | exact isLac.ob (by assumption) | exact isMea.ob (by assumption) | exact hset_s | exact (hset_n (by first | assumption | omega)).trans (by first | assumption | exact isLT.ob (by assumption) | exact isMt.ob (by assumption) | exact isRow.ob (by assumption) | exact isHnd.ob (by assumption) | exact isUnt.ob (by assumption) | exact isSt.ob (by assumption) | exact isHist.ob (by assumption) | exact isTxt.ob (by assumption) | exact isLac.ob (by assumption) | exact isMea.ob (by assumption) | exact hset_s | exact (hset_n (by first | assumption | omega)).trans (by first | assumption | exact isLT.ob (by assumption) | exact isMt.ob (by assumption) | exact isRow.ob (by assumption) | exact isHnd.ob (by assumption) | exact isUnt.ob (by assumption) | exact isSt.ob (by assumption) | exact isHist.ob (by assumption) | exact isTxt.ob (by assumption) | exact isLac.ob (by assumption) | exact isMea.ob (by assumption) | exact hset_s | exact (hset_n (by first | assumption | omega)).trans (by first | assumption | exact isLT.ob (by assumption) | exact isMt.ob (by assumption) | exact isRow.ob (by assumption) | exact isHnd.ob (by assumption) | exact isUnt.ob (by assumption) | exact isSt.ob (by assumption) | exact isHist.ob (by assumption) | exact isTxt.ob (by assumption) | exact isLac.ob (by assumption) | exact isMea.ob (by assumption))))) rfl rfl (by decide) (by rfl) rfl (Nat.le_of_ble_eq_true rfl) rfl rfl (fun E h' q => ?_) (fun v h4 n4 q4 => ?_)
  · obtain ⟨⟨i, hR, hE⟩, hw, hk⟩ := q
    have ho4 := (hk o (by omega)).trans ho
    rcases (show i = 0 ∨ 1 ≤ i by omega) with rfl | hi
    · have hE : some "java/lang/IndexOutOfBoundsException" = some E := hE
      cases hE
      refine ⟨13, ⟨[], ⟨0, 10, 13, 49⟩, [], rfl, (fun z hz => by cases hz), by decide, by decide, cl_L_49, ca_L_49, rfl⟩, fun q9 => ?_⟩
      refine K_astore dL_halved_13 (Nat.le_of_ble_eq_true rfl) (by rfl) ?_
      refine K_iconst (v := 1) dL_halved_15 (by decide) ?_
      exact K_done ⟨_, (⟨by rw [hR]; rfl, hw, ⟨g, ho4, fun e => by rw [hR] at e; cases e⟩, fun q d1 d2 => hk q d2, by omega⟩), Or.inl ⟨dL_halved_16, _, _, rfl, rfl, (by rfl), rfl⟩⟩
    · rw [List.getElem?_eq_none (by show 1 ≤ i; exact hi)] at hE
      cases hE
  · obtain ⟨hR, rfl, hw, hk⟩ := q4
    have ho4 := (hk o (by omega)).trans ho
    refine K_i2l dL_halved_8 ?_
    refine K_last dL_halved_9 (by first | assumption | exact isLT.ob (by assumption) | exact isMt.ob (by assumption) | exact isRow.ob (by assumption) | exact isHnd.ob (by assumption) | exact isUnt.ob (by assumption) | exact isSt.ob (by assumption) | exact isHist.ob (by assumption) | exact isTxt.ob (by assumption) | exact isLac.ob (by assumption) | exact isMea.ob (by assumption) | exact hset_s | exact (hset_n (by first | assumption | omega)).trans (by first | assumption | exact isLT.ob (by assumption) | exact isMt.ob (by assumption) | exact isRow.ob (by assumption) | exact isHnd.ob (by assumption) | exact isUnt.ob (by assumption) | exact isSt.ob (by assumption) | exact isHist.ob (by assumption) | exact isTxt.ob (by assumption) | exact isLac.ob (by assumption) | exact isMea.ob (by assumption) | exact hset_s | exact (hset_n (by first | assumption | omega)).trans (by first | assumption | exact isLT.ob (by assumption) | exact isMt.ob (by assumption) | exact isRow.ob (by assumption) | exact isHnd.ob (by assumption) | exact isUnt.ob (by assumption) | exact isSt.ob (by assumption) | exact isHist.ob (by assumption) | exact isTxt.ob (by assumption) | exact isLac.ob (by assumption) | exact isMea.ob (by assumption) | exact hset_s | exact (hset_n (by first | assumption | omega)).trans (by first | assumption | exact isLT.ob (by assumption) | exact isMt.ob (by assumption) | exact isRow.ob (by assumption) | exact isHnd.ob (by assumption) | exact isUnt.ob (by assumption) | exact isSt.ob (by assumption) | exact isHist.ob (by assumption) | exact isTxt.ob (by assumption) | exact isLac.ob (by assumption) | exact isMea.ob (by assumption))))) (pk_in 0 1 (by omega)) ?_
    refine K_goto (tgt := 17) dL_halved_10 (by decide) ?_
    refine K_iconst (v := 0) dL_halved_17 (by decide) ?_
    exact K_done ⟨_, (⟨by rw [hR]; rfl, isLT_fr hw (fr_set (lo := o) (hi := o + 1) (by omega) (by omega)) (by omega), ⟨_, hset_s, fun _ => by rw [show (0 : Int32).toNatClampNeg = 0 by decide]; exact pk_uLs⟩, fun q d1 d2 => (hset_n d1).trans (hk q d2), by omega⟩), Or.inl ⟨dL_halved_18, _, _, rfl, rfl, (by rfl), rfl⟩⟩
abbrev mm_L_count : MI := (yL_count, cL_count, 4, some .int)
abbrev hh_L_count : List (Nat × Nat × Nat × Nat) := [(0, 9, 12, 13)]
theorem mf_L_count : MFW mm_L_count hh_L_count 3 := ⟨tb_4 (List.mem_of_getElem? (i := 38) rfl) rfl, tb_1 (List.mem_of_getElem? (i := 0) rfl) rfl, ⟨by decide, by decide⟩, by decide +kernel, by decide⟩
theorem ms_L_count : Cond.static yL_count ∈ WS := tb_4 (List.mem_of_getElem? (i := 37) rfl) rfl
set_option maxRecDepth 20000 in
theorem sp_L_count {G : GG} {h : HP} {x o : Nat} {σ : Sg} {g : Nat → Int64} (w : isLT G h x σ) (ok : okS σ) (ho : h o = some (.inl (G.2.1 1, 1, .inr (.inl g)))) (hd : o < x ∨ x + 64 ≤ o) (k : Int32) (n : Nat) : SpW G mm_L_count hh_L_count 7 [.ref x, .int k, .ref o] h n (qW G x o h (opCount k σ)) := by
  refine SpW_of (by decide +kernel) (Nat.le_of_ble_eq_true rfl) ?_
  refine K_aload_n dL_count_0 (by rfl) ?_
  refine K_iconst (v := 0) dL_count_1 (by decide) ?_
  refine K_aload_n dL_count_2 (by rfl) ?_
  refine K_iload_n dL_count_3 (by rfl) ?_
  refine K_callX (tb := hh_L_count) (kc' := 0) (kn' := 0) mf_X9_count (tb_4 (List.mem_of_getElem? (i := 39) rfl) rfl) mi_X9_count mv_X9_count (sp_X9_count w ok k _) dL_count_4 (by first | assumption | exact isLT.ob (by assumption) | exact isMt.ob (by assumption) | exact isRow.ob (by assumption) | exact isHnd.ob (by assumption) | exact isUnt.ob (by assumption) | exact isSt.ob (by assumption) | exact isHist.ob (by assumption) | exact isTxt.ob (by assumption) | exact isLac.ob (by assumption) | exact isMea.ob (by assumption) | exact hset_s | exact (hset_n (by first | assumption | omega)).trans (by first | assumption | exact isLT.ob (by assumption) | exact isMt.ob (by assumption) | exact isRow.ob (by assumption) | exact isHnd.ob (by assumption) | exact isUnt.ob (by assumption) | exact isSt.ob (by assumption) | exact isHist.ob (by assumption) | exact isTxt.ob (by assumption) | exact isLac.ob (by assumption) | exact isMea.ob (by assumption) | exact hset_s | exact (hset_n (by first | assumption | omega)).trans (by first | assumption | exact isLT.ob (by assumption) | exact isMt.ob (by assumption) | exact isRow.ob (by assumption) | exact isHnd.ob (by assumption) | exact isUnt.ob (by assumption) | exact isSt.ob (by assumption) | exact isHist.ob (by assumption) | exact isTxt.ob (by assumption) | exact isLac.ob (by assumption) | exact isMea.ob (by assumption) | exact hset_s | exact (hset_n (by first | assumption | omega)).trans (by first | assumption | exact isLT.ob (by assumption) | exact isMt.ob (by assumption) | exact isRow.ob (by assumption) | exact isHnd.ob (by assumption) | exact isUnt.ob (by assumption) | exact isSt.ob (by assumption) | exact isHist.ob (by assumption) | exact isTxt.ob (by assumption) | exact isLac.ob (by assumption) | exact isMea.ob (by assumption))))) rfl rfl (by decide) (by rfl) rfl (Nat.le_of_ble_eq_true rfl) rfl rfl (fun E h' q => ?_) (fun v h4 n4 q4 => ?_)
  · obtain ⟨⟨i, hR, hE⟩, hw, hk⟩ := q
    have ho4 := (hk o (by omega)).trans ho
    rcases (show i = 0 ∨ 1 ≤ i by omega) with rfl | hi
    · have hE : some "java/lang/IllegalArgumentException" = some E := hE
      cases hE
      refine ⟨12, ⟨[], ⟨0, 9, 12, 13⟩, [], rfl, (fun z hz => by cases hz), by decide, by decide, cl_L_13, ca_L_13, rfl⟩, fun q9 => ?_⟩
      refine K_astore_n dL_count_12 (Nat.le_of_ble_eq_true rfl) (by rfl) ?_
      refine K_iconst (v := 1) dL_count_13 (by decide) ?_
      exact K_done ⟨_, (⟨by rw [hR]; rfl, hw, ⟨g, ho4, fun e => by rw [hR] at e; cases e⟩, fun q d1 d2 => hk q d2, by omega⟩), Or.inl ⟨dL_count_14, _, _, rfl, rfl, (by rfl), rfl⟩⟩
    · rw [List.getElem?_eq_none (by show 1 ≤ i; exact hi)] at hE
      cases hE
  · obtain ⟨hR, rfl, hw, hk⟩ := q4
    have ho4 := (hk o (by omega)).trans ho
    refine K_i2l dL_count_7 ?_
    refine K_last dL_count_8 (by first | assumption | exact isLT.ob (by assumption) | exact isMt.ob (by assumption) | exact isRow.ob (by assumption) | exact isHnd.ob (by assumption) | exact isUnt.ob (by assumption) | exact isSt.ob (by assumption) | exact isHist.ob (by assumption) | exact isTxt.ob (by assumption) | exact isLac.ob (by assumption) | exact isMea.ob (by assumption) | exact hset_s | exact (hset_n (by first | assumption | omega)).trans (by first | assumption | exact isLT.ob (by assumption) | exact isMt.ob (by assumption) | exact isRow.ob (by assumption) | exact isHnd.ob (by assumption) | exact isUnt.ob (by assumption) | exact isSt.ob (by assumption) | exact isHist.ob (by assumption) | exact isTxt.ob (by assumption) | exact isLac.ob (by assumption) | exact isMea.ob (by assumption) | exact hset_s | exact (hset_n (by first | assumption | omega)).trans (by first | assumption | exact isLT.ob (by assumption) | exact isMt.ob (by assumption) | exact isRow.ob (by assumption) | exact isHnd.ob (by assumption) | exact isUnt.ob (by assumption) | exact isSt.ob (by assumption) | exact isHist.ob (by assumption) | exact isTxt.ob (by assumption) | exact isLac.ob (by assumption) | exact isMea.ob (by assumption) | exact hset_s | exact (hset_n (by first | assumption | omega)).trans (by first | assumption | exact isLT.ob (by assumption) | exact isMt.ob (by assumption) | exact isRow.ob (by assumption) | exact isHnd.ob (by assumption) | exact isUnt.ob (by assumption) | exact isSt.ob (by assumption) | exact isHist.ob (by assumption) | exact isTxt.ob (by assumption) | exact isLac.ob (by assumption) | exact isMea.ob (by assumption))))) (pk_in 0 1 (by omega)) ?_
    refine K_goto (tgt := 15) dL_count_9 (by decide) ?_
    refine K_iconst (v := 0) dL_count_15 (by decide) ?_
    exact K_done ⟨_, (⟨by rw [hR]; rfl, isLT_fr hw (fr_set (lo := o) (hi := o + 1) (by omega) (by omega)) (by omega), ⟨_, hset_s, fun _ => by rw [show (0 : Int32).toNatClampNeg = 0 by decide]; exact pk_uLs⟩, fun q d1 d2 => (hset_n d1).trans (hk q d2), by omega⟩), Or.inl ⟨dL_count_16, _, _, rfl, rfl, (by rfl), rfl⟩⟩
abbrev mm_L_whyNot : MI := (yL_whyNot, cL_whyNot, 5, some .int)
abbrev hh_L_whyNot : List (Nat × Nat × Nat × Nat) := [(0, 10, 13, 13)]
theorem mf_L_whyNot : MFW mm_L_whyNot hh_L_whyNot 4 := ⟨tb_4 (List.mem_of_getElem? (i := 46) rfl) rfl, tb_1 (List.mem_of_getElem? (i := 0) rfl) rfl, ⟨by decide, by decide⟩, by decide +kernel, by decide⟩
theorem ms_L_whyNot : Cond.static yL_whyNot ∈ WS := tb_4 (List.mem_of_getElem? (i := 45) rfl) rfl
set_option maxRecDepth 20000 in
theorem sp_L_whyNot {G : GG} {h : HP} {x o : Nat} {σ : Sg} {g : Nat → Int64} (w : isLT G h x σ) (ok : okS σ) (ho : h o = some (.inl (G.2.1 1, 1, .inr (.inl g)))) (hd : o < x ∨ x + 64 ≤ o) (m k : Int32) (n : Nat) : SpW G mm_L_whyNot hh_L_whyNot 7 [.ref x, .int m, .int k, .ref o] h n (qW G x o h (opWhy m k σ)) := by
  refine SpW_of (by decide +kernel) (Nat.le_of_ble_eq_true rfl) ?_
  refine K_aload_n dL_whyNot_0 (by rfl) ?_
  refine K_iconst (v := 0) dL_whyNot_1 (by decide) ?_
  refine K_aload_n dL_whyNot_2 (by rfl) ?_
  refine K_iload_n dL_whyNot_3 (by rfl) ?_
  refine K_iload_n dL_whyNot_4 (by rfl) ?_
  refine K_callX (tb := hh_L_whyNot) (kc' := 0) (kn' := 0) mf_X9_whyNot (tb_4 (List.mem_of_getElem? (i := 47) rfl) rfl) mi_X9_whyNot mv_X9_whyNot (sp_X9_whyNot w m k _) dL_whyNot_5 (by first | assumption | exact isLT.ob (by assumption) | exact isMt.ob (by assumption) | exact isRow.ob (by assumption) | exact isHnd.ob (by assumption) | exact isUnt.ob (by assumption) | exact isSt.ob (by assumption) | exact isHist.ob (by assumption) | exact isTxt.ob (by assumption) | exact isLac.ob (by assumption) | exact isMea.ob (by assumption) | exact hset_s | exact (hset_n (by first | assumption | omega)).trans (by first | assumption | exact isLT.ob (by assumption) | exact isMt.ob (by assumption) | exact isRow.ob (by assumption) | exact isHnd.ob (by assumption) | exact isUnt.ob (by assumption) | exact isSt.ob (by assumption) | exact isHist.ob (by assumption) | exact isTxt.ob (by assumption) | exact isLac.ob (by assumption) | exact isMea.ob (by assumption) | exact hset_s | exact (hset_n (by first | assumption | omega)).trans (by first | assumption | exact isLT.ob (by assumption) | exact isMt.ob (by assumption) | exact isRow.ob (by assumption) | exact isHnd.ob (by assumption) | exact isUnt.ob (by assumption) | exact isSt.ob (by assumption) | exact isHist.ob (by assumption) | exact isTxt.ob (by assumption) | exact isLac.ob (by assumption) | exact isMea.ob (by assumption) | exact hset_s | exact (hset_n (by first | assumption | omega)).trans (by first | assumption | exact isLT.ob (by assumption) | exact isMt.ob (by assumption) | exact isRow.ob (by assumption) | exact isHnd.ob (by assumption) | exact isUnt.ob (by assumption) | exact isSt.ob (by assumption) | exact isHist.ob (by assumption) | exact isTxt.ob (by assumption) | exact isLac.ob (by assumption) | exact isMea.ob (by assumption))))) rfl rfl (by decide) (by rfl) rfl (Nat.le_of_ble_eq_true rfl) rfl rfl (fun E h' q => ?_) (fun v h4 n4 q4 => ?_)
  · obtain ⟨⟨i, hR, hE⟩, hw, hk⟩ := q
    have ho4 := (hk o (by omega)).trans ho
    rcases (show i = 0 ∨ 1 ≤ i by omega) with rfl | hi
    · have hE : some "java/lang/IllegalArgumentException" = some E := hE
      cases hE
      refine ⟨13, ⟨[], ⟨0, 10, 13, 13⟩, [], rfl, (fun z hz => by cases hz), by decide, by decide, cl_L_13, ca_L_13, rfl⟩, fun q9 => ?_⟩
      refine K_astore dL_whyNot_13 (Nat.le_of_ble_eq_true rfl) (by rfl) ?_
      refine K_iconst (v := 1) dL_whyNot_15 (by decide) ?_
      exact K_done ⟨_, (⟨by rw [hR]; rfl, hw, ⟨g, ho4, fun e => by rw [hR] at e; cases e⟩, fun q d1 d2 => hk q d2, by omega⟩), Or.inl ⟨dL_whyNot_16, _, _, rfl, rfl, (by rfl), rfl⟩⟩
    · rw [List.getElem?_eq_none (by show 1 ≤ i; exact hi)] at hE
      cases hE
  · obtain ⟨hR, rfl, hw, hk⟩ := q4
    have ho4 := (hk o (by omega)).trans ho
    refine K_i2l dL_whyNot_8 ?_
    refine K_last dL_whyNot_9 (by first | assumption | exact isLT.ob (by assumption) | exact isMt.ob (by assumption) | exact isRow.ob (by assumption) | exact isHnd.ob (by assumption) | exact isUnt.ob (by assumption) | exact isSt.ob (by assumption) | exact isHist.ob (by assumption) | exact isTxt.ob (by assumption) | exact isLac.ob (by assumption) | exact isMea.ob (by assumption) | exact hset_s | exact (hset_n (by first | assumption | omega)).trans (by first | assumption | exact isLT.ob (by assumption) | exact isMt.ob (by assumption) | exact isRow.ob (by assumption) | exact isHnd.ob (by assumption) | exact isUnt.ob (by assumption) | exact isSt.ob (by assumption) | exact isHist.ob (by assumption) | exact isTxt.ob (by assumption) | exact isLac.ob (by assumption) | exact isMea.ob (by assumption) | exact hset_s | exact (hset_n (by first | assumption | omega)).trans (by first | assumption | exact isLT.ob (by assumption) | exact isMt.ob (by assumption) | exact isRow.ob (by assumption) | exact isHnd.ob (by assumption) | exact isUnt.ob (by assumption) | exact isSt.ob (by assumption) | exact isHist.ob (by assumption) | exact isTxt.ob (by assumption) | exact isLac.ob (by assumption) | exact isMea.ob (by assumption) | exact hset_s | exact (hset_n (by first | assumption | omega)).trans (by first | assumption | exact isLT.ob (by assumption) | exact isMt.ob (by assumption) | exact isRow.ob (by assumption) | exact isHnd.ob (by assumption) | exact isUnt.ob (by assumption) | exact isSt.ob (by assumption) | exact isHist.ob (by assumption) | exact isTxt.ob (by assumption) | exact isLac.ob (by assumption) | exact isMea.ob (by assumption))))) (pk_in 0 1 (by omega)) ?_
    refine K_goto (tgt := 17) dL_whyNot_10 (by decide) ?_
    refine K_iconst (v := 0) dL_whyNot_17 (by decide) ?_
    exact K_done ⟨_, (⟨by rw [hR]; rfl, isLT_fr hw (fr_set (lo := o) (hi := o + 1) (by omega) (by omega)) (by omega), ⟨_, hset_s, fun _ => by rw [show (0 : Int32).toNatClampNeg = 0 by decide]; exact pk_uLs⟩, fun q d1 d2 => (hset_n d1).trans (hk q d2), by omega⟩), Or.inl ⟨dL_whyNot_18, _, _, rfl, rfl, (by rfl), rfl⟩⟩
abbrev mm_L_untangled : MI := (yL_untangled, cL_untangled, 4, some .int)
abbrev hh_L_untangled : List (Nat × Nat × Nat × Nat) := [(0, 9, 12, 13)]
theorem mf_L_untangled : MFW mm_L_untangled hh_L_untangled 3 := ⟨tb_4 (List.mem_of_getElem? (i := 53) rfl) rfl, tb_1 (List.mem_of_getElem? (i := 0) rfl) rfl, ⟨by decide, by decide⟩, by decide +kernel, by decide⟩
theorem ms_L_untangled : Cond.static yL_untangled ∈ WS := tb_4 (List.mem_of_getElem? (i := 52) rfl) rfl
set_option maxRecDepth 20000 in
theorem sp_L_untangled {G : GG} {h : HP} {x o : Nat} {σ : Sg} {g : Nat → Int64} (w : isLT G h x σ) (ok : okS σ) (ho : h o = some (.inl (G.2.1 1, 1, .inr (.inl g)))) (hd : o < x ∨ x + 64 ≤ o) (k : Int32) (n : Nat) : SpW G mm_L_untangled hh_L_untangled 7 [.ref x, .int k, .ref o] h n (qW G x o h (opUnt k σ)) := by
  refine SpW_of (by decide +kernel) (Nat.le_of_ble_eq_true rfl) ?_
  refine K_aload_n dL_untangled_0 (by rfl) ?_
  refine K_iconst (v := 0) dL_untangled_1 (by decide) ?_
  refine K_aload_n dL_untangled_2 (by rfl) ?_
  refine K_iload_n dL_untangled_3 (by rfl) ?_
  refine K_callX (tb := hh_L_untangled) (kc' := 0) (kn' := 0) mf_X9_untangled (tb_4 (List.mem_of_getElem? (i := 54) rfl) rfl) mi_X9_untangled mv_X9_untangled (sp_X9_untangled w ok k _) dL_untangled_4 (by first | assumption | exact isLT.ob (by assumption) | exact isMt.ob (by assumption) | exact isRow.ob (by assumption) | exact isHnd.ob (by assumption) | exact isUnt.ob (by assumption) | exact isSt.ob (by assumption) | exact isHist.ob (by assumption) | exact isTxt.ob (by assumption) | exact isLac.ob (by assumption) | exact isMea.ob (by assumption) | exact hset_s | exact (hset_n (by first | assumption | omega)).trans (by first | assumption | exact isLT.ob (by assumption) | exact isMt.ob (by assumption) | exact isRow.ob (by assumption) | exact isHnd.ob (by assumption) | exact isUnt.ob (by assumption) | exact isSt.ob (by assumption) | exact isHist.ob (by assumption) | exact isTxt.ob (by assumption) | exact isLac.ob (by assumption) | exact isMea.ob (by assumption) | exact hset_s | exact (hset_n (by first | assumption | omega)).trans (by first | assumption | exact isLT.ob (by assumption) | exact isMt.ob (by assumption) | exact isRow.ob (by assumption) | exact isHnd.ob (by assumption) | exact isUnt.ob (by assumption) | exact isSt.ob (by assumption) | exact isHist.ob (by assumption) | exact isTxt.ob (by assumption) | exact isLac.ob (by assumption) | exact isMea.ob (by assumption) | exact hset_s | exact (hset_n (by first | assumption | omega)).trans (by first | assumption | exact isLT.ob (by assumption) | exact isMt.ob (by assumption) | exact isRow.ob (by assumption) | exact isHnd.ob (by assumption) | exact isUnt.ob (by assumption) | exact isSt.ob (by assumption) | exact isHist.ob (by assumption) | exact isTxt.ob (by assumption) | exact isLac.ob (by assumption) | exact isMea.ob (by assumption))))) rfl rfl (by decide) (by rfl) rfl (Nat.le_of_ble_eq_true rfl) rfl rfl (fun E h' q => ?_) (fun v h4 n4 q4 => ?_)
  · obtain ⟨⟨i, hR, hE⟩, hw, hk⟩ := q
    have ho4 := (hk o (by omega)).trans ho
    rcases (show i = 0 ∨ 1 ≤ i by omega) with rfl | hi
    · have hE : some "java/lang/IllegalArgumentException" = some E := hE
      cases hE
      refine ⟨12, ⟨[], ⟨0, 9, 12, 13⟩, [], rfl, (fun z hz => by cases hz), by decide, by decide, cl_L_13, ca_L_13, rfl⟩, fun q9 => ?_⟩
      refine K_astore_n dL_untangled_12 (Nat.le_of_ble_eq_true rfl) (by rfl) ?_
      refine K_iconst (v := 1) dL_untangled_13 (by decide) ?_
      exact K_done ⟨_, (⟨by rw [hR]; rfl, hw, ⟨g, ho4, fun e => by rw [hR] at e; cases e⟩, fun q d1 d2 => hk q d2, by omega⟩), Or.inl ⟨dL_untangled_14, _, _, rfl, rfl, (by rfl), rfl⟩⟩
    · rw [List.getElem?_eq_none (by show 1 ≤ i; exact hi)] at hE
      cases hE
  · obtain ⟨hR, rfl, hw, hk⟩ := q4
    have ho4 := (hk o (by omega)).trans ho
    refine K_i2l dL_untangled_7 ?_
    refine K_last dL_untangled_8 (by first | assumption | exact isLT.ob (by assumption) | exact isMt.ob (by assumption) | exact isRow.ob (by assumption) | exact isHnd.ob (by assumption) | exact isUnt.ob (by assumption) | exact isSt.ob (by assumption) | exact isHist.ob (by assumption) | exact isTxt.ob (by assumption) | exact isLac.ob (by assumption) | exact isMea.ob (by assumption) | exact hset_s | exact (hset_n (by first | assumption | omega)).trans (by first | assumption | exact isLT.ob (by assumption) | exact isMt.ob (by assumption) | exact isRow.ob (by assumption) | exact isHnd.ob (by assumption) | exact isUnt.ob (by assumption) | exact isSt.ob (by assumption) | exact isHist.ob (by assumption) | exact isTxt.ob (by assumption) | exact isLac.ob (by assumption) | exact isMea.ob (by assumption) | exact hset_s | exact (hset_n (by first | assumption | omega)).trans (by first | assumption | exact isLT.ob (by assumption) | exact isMt.ob (by assumption) | exact isRow.ob (by assumption) | exact isHnd.ob (by assumption) | exact isUnt.ob (by assumption) | exact isSt.ob (by assumption) | exact isHist.ob (by assumption) | exact isTxt.ob (by assumption) | exact isLac.ob (by assumption) | exact isMea.ob (by assumption) | exact hset_s | exact (hset_n (by first | assumption | omega)).trans (by first | assumption | exact isLT.ob (by assumption) | exact isMt.ob (by assumption) | exact isRow.ob (by assumption) | exact isHnd.ob (by assumption) | exact isUnt.ob (by assumption) | exact isSt.ob (by assumption) | exact isHist.ob (by assumption) | exact isTxt.ob (by assumption) | exact isLac.ob (by assumption) | exact isMea.ob (by assumption))))) (pk_in 0 1 (by omega)) ?_
    refine K_goto (tgt := 15) dL_untangled_9 (by decide) ?_
    refine K_iconst (v := 0) dL_untangled_15 (by decide) ?_
    exact K_done ⟨_, (⟨by rw [hR]; rfl, isLT_fr hw (fr_set (lo := o) (hi := o + 1) (by omega) (by omega)) (by omega), ⟨_, hset_s, fun _ => by rw [show (0 : Int32).toNatClampNeg = 0 by decide]; exact pk_uLs⟩, fun q d1 d2 => (hset_n d1).trans (hk q d2), by omega⟩), Or.inl ⟨dL_untangled_16, _, _, rfl, rfl, (by rfl), rfl⟩⟩
abbrev mm_L_left : MI := (yL_left, cL_left, 4, some .int)
abbrev hh_L_left : List (Nat × Nat × Nat × Nat) := [(0, 9, 12, 13)]
theorem mf_L_left : MFW mm_L_left hh_L_left 3 := ⟨tb_4 (List.mem_of_getElem? (i := 61) rfl) rfl, tb_1 (List.mem_of_getElem? (i := 0) rfl) rfl, ⟨by decide, by decide⟩, by decide +kernel, by decide⟩
theorem ms_L_left : Cond.static yL_left ∈ WS := tb_4 (List.mem_of_getElem? (i := 60) rfl) rfl
set_option maxRecDepth 20000 in
theorem sp_L_left {G : GG} {h : HP} {x o : Nat} {σ : Sg} {g : Nat → Int64} (w : isLT G h x σ) (ok : okS σ) (ho : h o = some (.inl (G.2.1 1, 1, .inr (.inl g)))) (hd : o < x ∨ x + 64 ≤ o) (k : Int32) (n : Nat) : SpW G mm_L_left hh_L_left 7 [.ref x, .int k, .ref o] h n (qW G x o h (opLeft k σ)) := by
  refine SpW_of (by decide +kernel) (Nat.le_of_ble_eq_true rfl) ?_
  refine K_aload_n dL_left_0 (by rfl) ?_
  refine K_iconst (v := 0) dL_left_1 (by decide) ?_
  refine K_aload_n dL_left_2 (by rfl) ?_
  refine K_iload_n dL_left_3 (by rfl) ?_
  refine K_callX (tb := hh_L_left) (kc' := 0) (kn' := 0) mf_X9_left (tb_4 (List.mem_of_getElem? (i := 62) rfl) rfl) mi_X9_left mv_X9_left (sp_X9_left w ok k _) dL_left_4 (by first | assumption | exact isLT.ob (by assumption) | exact isMt.ob (by assumption) | exact isRow.ob (by assumption) | exact isHnd.ob (by assumption) | exact isUnt.ob (by assumption) | exact isSt.ob (by assumption) | exact isHist.ob (by assumption) | exact isTxt.ob (by assumption) | exact isLac.ob (by assumption) | exact isMea.ob (by assumption) | exact hset_s | exact (hset_n (by first | assumption | omega)).trans (by first | assumption | exact isLT.ob (by assumption) | exact isMt.ob (by assumption) | exact isRow.ob (by assumption) | exact isHnd.ob (by assumption) | exact isUnt.ob (by assumption) | exact isSt.ob (by assumption) | exact isHist.ob (by assumption) | exact isTxt.ob (by assumption) | exact isLac.ob (by assumption) | exact isMea.ob (by assumption) | exact hset_s | exact (hset_n (by first | assumption | omega)).trans (by first | assumption | exact isLT.ob (by assumption) | exact isMt.ob (by assumption) | exact isRow.ob (by assumption) | exact isHnd.ob (by assumption) | exact isUnt.ob (by assumption) | exact isSt.ob (by assumption) | exact isHist.ob (by assumption) | exact isTxt.ob (by assumption) | exact isLac.ob (by assumption) | exact isMea.ob (by assumption) | exact hset_s | exact (hset_n (by first | assumption | omega)).trans (by first | assumption | exact isLT.ob (by assumption) | exact isMt.ob (by assumption) | exact isRow.ob (by assumption) | exact isHnd.ob (by assumption) | exact isUnt.ob (by assumption) | exact isSt.ob (by assumption) | exact isHist.ob (by assumption) | exact isTxt.ob (by assumption) | exact isLac.ob (by assumption) | exact isMea.ob (by assumption))))) rfl rfl (by decide) (by rfl) rfl (Nat.le_of_ble_eq_true rfl) rfl rfl (fun E h' q => ?_) (fun v h4 n4 q4 => ?_)
  · obtain ⟨⟨i, hR, hE⟩, hw, hk⟩ := q
    have ho4 := (hk o (by omega)).trans ho
    rcases (show i = 0 ∨ 1 ≤ i by omega) with rfl | hi
    · have hE : some "java/lang/IllegalArgumentException" = some E := hE
      cases hE
      refine ⟨12, ⟨[], ⟨0, 9, 12, 13⟩, [], rfl, (fun z hz => by cases hz), by decide, by decide, cl_L_13, ca_L_13, rfl⟩, fun q9 => ?_⟩
      refine K_astore_n dL_left_12 (Nat.le_of_ble_eq_true rfl) (by rfl) ?_
      refine K_iconst (v := 1) dL_left_13 (by decide) ?_
      exact K_done ⟨_, (⟨by rw [hR]; rfl, hw, ⟨g, ho4, fun e => by rw [hR] at e; cases e⟩, fun q d1 d2 => hk q d2, by omega⟩), Or.inl ⟨dL_left_14, _, _, rfl, rfl, (by rfl), rfl⟩⟩
    · rw [List.getElem?_eq_none (by show 1 ≤ i; exact hi)] at hE
      cases hE
  · obtain ⟨hR, rfl, hw, hk⟩ := q4
    have ho4 := (hk o (by omega)).trans ho
    refine K_i2l dL_left_7 ?_
    refine K_last dL_left_8 (by first | assumption | exact isLT.ob (by assumption) | exact isMt.ob (by assumption) | exact isRow.ob (by assumption) | exact isHnd.ob (by assumption) | exact isUnt.ob (by assumption) | exact isSt.ob (by assumption) | exact isHist.ob (by assumption) | exact isTxt.ob (by assumption) | exact isLac.ob (by assumption) | exact isMea.ob (by assumption) | exact hset_s | exact (hset_n (by first | assumption | omega)).trans (by first | assumption | exact isLT.ob (by assumption) | exact isMt.ob (by assumption) | exact isRow.ob (by assumption) | exact isHnd.ob (by assumption) | exact isUnt.ob (by assumption) | exact isSt.ob (by assumption) | exact isHist.ob (by assumption) | exact isTxt.ob (by assumption) | exact isLac.ob (by assumption) | exact isMea.ob (by assumption) | exact hset_s | exact (hset_n (by first | assumption | omega)).trans (by first | assumption | exact isLT.ob (by assumption) | exact isMt.ob (by assumption) | exact isRow.ob (by assumption) | exact isHnd.ob (by assumption) | exact isUnt.ob (by assumption) | exact isSt.ob (by assumption) | exact isHist.ob (by assumption) | exact isTxt.ob (by assumption) | exact isLac.ob (by assumption) | exact isMea.ob (by assumption) | exact hset_s | exact (hset_n (by first | assumption | omega)).trans (by first | assumption | exact isLT.ob (by assumption) | exact isMt.ob (by assumption) | exact isRow.ob (by assumption) | exact isHnd.ob (by assumption) | exact isUnt.ob (by assumption) | exact isSt.ob (by assumption) | exact isHist.ob (by assumption) | exact isTxt.ob (by assumption) | exact isLac.ob (by assumption) | exact isMea.ob (by assumption))))) (pk_in 0 1 (by omega)) ?_
    refine K_goto (tgt := 15) dL_left_9 (by decide) ?_
    refine K_iconst (v := 0) dL_left_15 (by decide) ?_
    exact K_done ⟨_, (⟨by rw [hR]; rfl, isLT_fr hw (fr_set (lo := o) (hi := o + 1) (by omega) (by omega)) (by omega), ⟨_, hset_s, fun _ => by rw [show (0 : Int32).toNatClampNeg = 0 by decide]; exact pk_uLs⟩, fun q d1 d2 => (hset_n d1).trans (hk q d2), by omega⟩), Or.inl ⟨dL_left_16, _, _, rfl, rfl, (by rfl), rfl⟩⟩
abbrev mm_L_same : MI := (yL_same, cL_same, 3, some .int)
abbrev hh_L_same : List (Nat × Nat × Nat × Nat) := [(0, 8, 11, 15)]
theorem mf_L_same : MFW mm_L_same hh_L_same 2 := ⟨tb_4 (List.mem_of_getElem? (i := 68) rfl) rfl, tb_1 (List.mem_of_getElem? (i := 0) rfl) rfl, ⟨by decide, by decide⟩, by decide +kernel, by decide⟩
theorem ms_L_same : Cond.static yL_same ∈ WS := tb_4 (List.mem_of_getElem? (i := 67) rfl) rfl
set_option maxRecDepth 20000 in
theorem sp_L_same {G : GG} {h : HP} {x o : Nat} {σ : Sg} {g : Nat → Int64} (w : isLT G h x σ) (ok : okS σ) (ho : h o = some (.inl (G.2.1 1, 1, .inr (.inl g)))) (hd : o < x ∨ x + 64 ≤ o) (n : Nat) : SpW G mm_L_same hh_L_same 7 [.ref x, .ref o] h n (qW G x o h (opSame σ)) := by
  refine SpW_of (by decide +kernel) (Nat.le_of_ble_eq_true rfl) ?_
  refine K_aload_n dL_same_0 (by rfl) ?_
  refine K_iconst (v := 0) dL_same_1 (by decide) ?_
  refine K_aload_n dL_same_2 (by rfl) ?_
  refine K_callX (tb := hh_L_same) (kc' := 0) (kn' := 0) mf_X9_same (tb_4 (List.mem_of_getElem? (i := 69) rfl) rfl) mi_X9_same mv_X9_same (sp_X9_same w ok _) dL_same_3 (by first | assumption | exact isLT.ob (by assumption) | exact isMt.ob (by assumption) | exact isRow.ob (by assumption) | exact isHnd.ob (by assumption) | exact isUnt.ob (by assumption) | exact isSt.ob (by assumption) | exact isHist.ob (by assumption) | exact isTxt.ob (by assumption) | exact isLac.ob (by assumption) | exact isMea.ob (by assumption) | exact hset_s | exact (hset_n (by first | assumption | omega)).trans (by first | assumption | exact isLT.ob (by assumption) | exact isMt.ob (by assumption) | exact isRow.ob (by assumption) | exact isHnd.ob (by assumption) | exact isUnt.ob (by assumption) | exact isSt.ob (by assumption) | exact isHist.ob (by assumption) | exact isTxt.ob (by assumption) | exact isLac.ob (by assumption) | exact isMea.ob (by assumption) | exact hset_s | exact (hset_n (by first | assumption | omega)).trans (by first | assumption | exact isLT.ob (by assumption) | exact isMt.ob (by assumption) | exact isRow.ob (by assumption) | exact isHnd.ob (by assumption) | exact isUnt.ob (by assumption) | exact isSt.ob (by assumption) | exact isHist.ob (by assumption) | exact isTxt.ob (by assumption) | exact isLac.ob (by assumption) | exact isMea.ob (by assumption) | exact hset_s | exact (hset_n (by first | assumption | omega)).trans (by first | assumption | exact isLT.ob (by assumption) | exact isMt.ob (by assumption) | exact isRow.ob (by assumption) | exact isHnd.ob (by assumption) | exact isUnt.ob (by assumption) | exact isSt.ob (by assumption) | exact isHist.ob (by assumption) | exact isTxt.ob (by assumption) | exact isLac.ob (by assumption) | exact isMea.ob (by assumption))))) rfl rfl (by decide) (by rfl) rfl (Nat.le_of_ble_eq_true rfl) rfl rfl (fun E h' q => ?_) (fun v h4 n4 q4 => ?_)
  · obtain ⟨⟨i, hR, hE⟩, hw, hk⟩ := q
    have ho4 := (hk o (by omega)).trans ho
    rcases (show i = 0 ∨ 1 ≤ i by omega) with rfl | hi
    · have hE : some "java/lang/IllegalStateException" = some E := hE
      cases hE
      refine ⟨11, ⟨[], ⟨0, 8, 11, 15⟩, [], rfl, (fun z hz => by cases hz), by decide, by decide, cl_L_15, ca_L_15, rfl⟩, fun q9 => ?_⟩
      refine K_astore_n dL_same_11 (Nat.le_of_ble_eq_true rfl) (by rfl) ?_
      refine K_iconst (v := 1) dL_same_12 (by decide) ?_
      exact K_done ⟨_, (⟨by rw [hR]; rfl, hw, ⟨g, ho4, fun e => by rw [hR] at e; cases e⟩, fun q d1 d2 => hk q d2, by omega⟩), Or.inl ⟨dL_same_13, _, _, rfl, rfl, (by rfl), rfl⟩⟩
    · rw [List.getElem?_eq_none (by show 1 ≤ i; exact hi)] at hE
      cases hE
  · obtain ⟨hR, rfl, hw, hk⟩ := q4
    have ho4 := (hk o (by omega)).trans ho
    refine K_i2l dL_same_6 ?_
    refine K_last dL_same_7 (by first | assumption | exact isLT.ob (by assumption) | exact isMt.ob (by assumption) | exact isRow.ob (by assumption) | exact isHnd.ob (by assumption) | exact isUnt.ob (by assumption) | exact isSt.ob (by assumption) | exact isHist.ob (by assumption) | exact isTxt.ob (by assumption) | exact isLac.ob (by assumption) | exact isMea.ob (by assumption) | exact hset_s | exact (hset_n (by first | assumption | omega)).trans (by first | assumption | exact isLT.ob (by assumption) | exact isMt.ob (by assumption) | exact isRow.ob (by assumption) | exact isHnd.ob (by assumption) | exact isUnt.ob (by assumption) | exact isSt.ob (by assumption) | exact isHist.ob (by assumption) | exact isTxt.ob (by assumption) | exact isLac.ob (by assumption) | exact isMea.ob (by assumption) | exact hset_s | exact (hset_n (by first | assumption | omega)).trans (by first | assumption | exact isLT.ob (by assumption) | exact isMt.ob (by assumption) | exact isRow.ob (by assumption) | exact isHnd.ob (by assumption) | exact isUnt.ob (by assumption) | exact isSt.ob (by assumption) | exact isHist.ob (by assumption) | exact isTxt.ob (by assumption) | exact isLac.ob (by assumption) | exact isMea.ob (by assumption) | exact hset_s | exact (hset_n (by first | assumption | omega)).trans (by first | assumption | exact isLT.ob (by assumption) | exact isMt.ob (by assumption) | exact isRow.ob (by assumption) | exact isHnd.ob (by assumption) | exact isUnt.ob (by assumption) | exact isSt.ob (by assumption) | exact isHist.ob (by assumption) | exact isTxt.ob (by assumption) | exact isLac.ob (by assumption) | exact isMea.ob (by assumption))))) (pk_in 0 1 (by omega)) ?_
    refine K_goto (tgt := 14) dL_same_8 (by decide) ?_
    refine K_iconst (v := 0) dL_same_14 (by decide) ?_
    exact K_done ⟨_, (⟨by rw [hR]; rfl, isLT_fr hw (fr_set (lo := o) (hi := o + 1) (by omega) (by omega)) (by omega), ⟨_, hset_s, fun _ => by rw [show (0 : Int32).toNatClampNeg = 0 by decide]; exact pk_uLs⟩, fun q d1 d2 => (hset_n d1).trans (hk q d2), by omega⟩), Or.inl ⟨dL_same_15, _, _, rfl, rfl, (by rfl), rfl⟩⟩
abbrev mm_L_possible : MI := (yL_possible, cL_possible, 4, some .int)
abbrev hh_L_possible : List (Nat × Nat × Nat × Nat) := [(0, 9, 12, 13)]
theorem mf_L_possible : MFW mm_L_possible hh_L_possible 3 := ⟨tb_4 (List.mem_of_getElem? (i := 75) rfl) rfl, tb_1 (List.mem_of_getElem? (i := 0) rfl) rfl, ⟨by decide, by decide⟩, by decide +kernel, by decide⟩
theorem ms_L_possible : Cond.static yL_possible ∈ WS := tb_4 (List.mem_of_getElem? (i := 74) rfl) rfl
set_option maxRecDepth 20000 in
theorem sp_L_possible {G : GG} {h : HP} {x o : Nat} {σ : Sg} {g : Nat → Int64} (w : isLT G h x σ) (ok : okS σ) (ho : h o = some (.inl (G.2.1 1, 1, .inr (.inl g)))) (hd : o < x ∨ x + 64 ≤ o) (m : Int32) (n : Nat) : SpW G mm_L_possible hh_L_possible 7 [.ref x, .int m, .ref o] h n (qW G x o h (opPossible m σ)) := by
  refine SpW_of (by decide +kernel) (Nat.le_of_ble_eq_true rfl) ?_
  refine K_aload_n dL_possible_0 (by rfl) ?_
  refine K_iconst (v := 0) dL_possible_1 (by decide) ?_
  refine K_aload_n dL_possible_2 (by rfl) ?_
  refine K_iload_n dL_possible_3 (by rfl) ?_
  refine K_callX (tb := hh_L_possible) (kc' := 0) (kn' := 0) mf_X9_possible (tb_4 (List.mem_of_getElem? (i := 76) rfl) rfl) mi_X9_possible mv_X9_possible (sp_X9_possible w m _) dL_possible_4 (by first | assumption | exact isLT.ob (by assumption) | exact isMt.ob (by assumption) | exact isRow.ob (by assumption) | exact isHnd.ob (by assumption) | exact isUnt.ob (by assumption) | exact isSt.ob (by assumption) | exact isHist.ob (by assumption) | exact isTxt.ob (by assumption) | exact isLac.ob (by assumption) | exact isMea.ob (by assumption) | exact hset_s | exact (hset_n (by first | assumption | omega)).trans (by first | assumption | exact isLT.ob (by assumption) | exact isMt.ob (by assumption) | exact isRow.ob (by assumption) | exact isHnd.ob (by assumption) | exact isUnt.ob (by assumption) | exact isSt.ob (by assumption) | exact isHist.ob (by assumption) | exact isTxt.ob (by assumption) | exact isLac.ob (by assumption) | exact isMea.ob (by assumption) | exact hset_s | exact (hset_n (by first | assumption | omega)).trans (by first | assumption | exact isLT.ob (by assumption) | exact isMt.ob (by assumption) | exact isRow.ob (by assumption) | exact isHnd.ob (by assumption) | exact isUnt.ob (by assumption) | exact isSt.ob (by assumption) | exact isHist.ob (by assumption) | exact isTxt.ob (by assumption) | exact isLac.ob (by assumption) | exact isMea.ob (by assumption) | exact hset_s | exact (hset_n (by first | assumption | omega)).trans (by first | assumption | exact isLT.ob (by assumption) | exact isMt.ob (by assumption) | exact isRow.ob (by assumption) | exact isHnd.ob (by assumption) | exact isUnt.ob (by assumption) | exact isSt.ob (by assumption) | exact isHist.ob (by assumption) | exact isTxt.ob (by assumption) | exact isLac.ob (by assumption) | exact isMea.ob (by assumption))))) rfl rfl (by decide) (by rfl) rfl (Nat.le_of_ble_eq_true rfl) rfl rfl (fun E h' q => ?_) (fun v h4 n4 q4 => ?_)
  · obtain ⟨⟨i, hR, hE⟩, hw, hk⟩ := q
    have ho4 := (hk o (by omega)).trans ho
    rcases (show i = 0 ∨ 1 ≤ i by omega) with rfl | hi
    · have hE : some "java/lang/IllegalArgumentException" = some E := hE
      cases hE
      refine ⟨12, ⟨[], ⟨0, 9, 12, 13⟩, [], rfl, (fun z hz => by cases hz), by decide, by decide, cl_L_13, ca_L_13, rfl⟩, fun q9 => ?_⟩
      refine K_astore_n dL_possible_12 (Nat.le_of_ble_eq_true rfl) (by rfl) ?_
      refine K_iconst (v := 1) dL_possible_13 (by decide) ?_
      exact K_done ⟨_, (⟨by rw [hR]; rfl, hw, ⟨g, ho4, fun e => by rw [hR] at e; cases e⟩, fun q d1 d2 => hk q d2, by omega⟩), Or.inl ⟨dL_possible_14, _, _, rfl, rfl, (by rfl), rfl⟩⟩
    · rw [List.getElem?_eq_none (by show 1 ≤ i; exact hi)] at hE
      cases hE
  · obtain ⟨hR, rfl, hw, hk⟩ := q4
    have ho4 := (hk o (by omega)).trans ho
    refine K_i2l dL_possible_7 ?_
    refine K_last dL_possible_8 (by first | assumption | exact isLT.ob (by assumption) | exact isMt.ob (by assumption) | exact isRow.ob (by assumption) | exact isHnd.ob (by assumption) | exact isUnt.ob (by assumption) | exact isSt.ob (by assumption) | exact isHist.ob (by assumption) | exact isTxt.ob (by assumption) | exact isLac.ob (by assumption) | exact isMea.ob (by assumption) | exact hset_s | exact (hset_n (by first | assumption | omega)).trans (by first | assumption | exact isLT.ob (by assumption) | exact isMt.ob (by assumption) | exact isRow.ob (by assumption) | exact isHnd.ob (by assumption) | exact isUnt.ob (by assumption) | exact isSt.ob (by assumption) | exact isHist.ob (by assumption) | exact isTxt.ob (by assumption) | exact isLac.ob (by assumption) | exact isMea.ob (by assumption) | exact hset_s | exact (hset_n (by first | assumption | omega)).trans (by first | assumption | exact isLT.ob (by assumption) | exact isMt.ob (by assumption) | exact isRow.ob (by assumption) | exact isHnd.ob (by assumption) | exact isUnt.ob (by assumption) | exact isSt.ob (by assumption) | exact isHist.ob (by assumption) | exact isTxt.ob (by assumption) | exact isLac.ob (by assumption) | exact isMea.ob (by assumption) | exact hset_s | exact (hset_n (by first | assumption | omega)).trans (by first | assumption | exact isLT.ob (by assumption) | exact isMt.ob (by assumption) | exact isRow.ob (by assumption) | exact isHnd.ob (by assumption) | exact isUnt.ob (by assumption) | exact isSt.ob (by assumption) | exact isHist.ob (by assumption) | exact isTxt.ob (by assumption) | exact isLac.ob (by assumption) | exact isMea.ob (by assumption))))) (pk_in 0 1 (by omega)) ?_
    refine K_goto (tgt := 15) dL_possible_9 (by decide) ?_
    refine K_iconst (v := 0) dL_possible_15 (by decide) ?_
    exact K_done ⟨_, (⟨by rw [hR]; rfl, isLT_fr hw (fr_set (lo := o) (hi := o + 1) (by omega) (by omega)) (by omega), ⟨_, hset_s, fun _ => by rw [show (0 : Int32).toNatClampNeg = 0 by decide]; exact pk_uLs⟩, fun q d1 d2 => (hset_n d1).trans (hk q d2), by omega⟩), Or.inl ⟨dL_possible_16, _, _, rfl, rfl, (by rfl), rfl⟩⟩
