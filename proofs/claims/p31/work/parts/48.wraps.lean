/-! the law's wrappers -/
/-- the answer of a wrapper: what was answered, or the number for the kind of refusal -/
def qW (G : GG) (x : Nat) (h : HP) (R : Nat × Int32 × Sg) (cds : List Int32) : Option Value → HP → Nat → Prop := fun v h' _ => v = some (.int (if R.1 = 0 then R.2.1 else cds.getD (R.1 - 1) 0)) ∧ isLT G h' x R.2.2 ∧ fr x (x + 64) h h'
abbrev mm_L_cross : MI := (yL_cross, cL_cross, 3, some .int)
abbrev hh_L_cross : List (Nat × Nat × Nat × Nat) := [(0, 5, 6, 16), (0, 5, 10, 18)]
theorem mf_L_cross : MFW mm_L_cross hh_L_cross 2 := ⟨tb_2 (List.mem_of_getElem? (i := 165) rfl) rfl, it_L, ⟨by decide, by decide⟩, by decide +kernel, by decide⟩
theorem ms_L_cross : Cond.static yL_cross ∈ WS := tb_2 (List.mem_of_getElem? (i := 164) rfl) rfl
theorem ca_L_16 : Cond.castable "java/lang/IllegalArgumentException" "java/lang/IllegalArgumentException" ∈ WS := tb_2 (List.mem_of_getElem? (i := 104) rfl) rfl
theorem ca_L_18 : Cond.castable "java/lang/IllegalStateException" "java/lang/IllegalStateException" ∈ WS := tb_1 (List.mem_of_getElem? (i := 225) rfl) rfl
set_option maxRecDepth 20000 in
theorem sp_L_cross {G : GG} {h : HP} {x : Nat} {σ : Sg} (w : isLT G h x σ) (ok : okS σ) (c : Int32) (n : Nat) : SpW G mm_L_cross hh_L_cross 7 [.ref x, .int c] h n (qW G x h (opCross c σ) [-102, -103]) := by
  refine SpW_of (by decide +kernel) (Nat.le_of_ble_eq_true rfl) ?_
  refine K_aload_n dL_cross_0 (by rfl) ?_
  refine K_iload_n dL_cross_1 (by rfl) ?_
  refine K_callX (tb := hh_L_cross) (kc' := 0) (kn' := 0) mf_X9_cross (tb_2 (List.mem_of_getElem? (i := 166) rfl) rfl) mi_X9_cross mv_X9_cross (sp_X9_cross w c _) dL_cross_2 (by first | assumption | exact isLT.ob (by assumption) | exact hset_s | exact (hset_n (by first | assumption | omega)).trans (by first | assumption | exact isLT.ob (by assumption) | exact hset_s | exact (hset_n (by first | assumption | omega)).trans (by first | assumption | exact isLT.ob (by assumption) | exact hset_s | exact (hset_n (by first | assumption | omega)).trans (by first | assumption | exact isLT.ob (by assumption))))) rfl rfl (by decide) (by rfl) rfl (Nat.le_of_ble_eq_true rfl) rfl rfl (fun E h' q => ?_) (fun v h4 n4 q4 => ?_)
  · obtain ⟨⟨i, hR, hE⟩, hw, hk⟩ := q
    rcases (show i = 0 ∨ i = 1 ∨ 2 ≤ i by omega) with rfl | rfl | hi
    · have hE : some "java/lang/IllegalArgumentException" = some E := hE
      cases hE
      refine ⟨6, ⟨[], ⟨0, 5, 6, 16⟩, [⟨0, 5, 10, 18⟩], rfl, (fun z hz => by cases hz), by decide, by decide, cl_L_16, ca_L_16, rfl⟩, fun q9 => ?_⟩
      refine K_astore_n dL_cross_6 (Nat.le_of_ble_eq_true rfl) (by rfl) ?_
      refine K_bipush (v := (-102)) dL_cross_7 (by decide) ?_
      exact K_done ⟨_, (⟨by rw [hR]; rfl, hw, hk⟩), Or.inl ⟨dL_cross_9, _, _, rfl, rfl, (by rfl), rfl⟩⟩
    · have hE : some "java/lang/IllegalStateException" = some E := hE
      cases hE
      refine ⟨10, ⟨[⟨0, 5, 6, 16⟩], ⟨0, 5, 10, 18⟩, [], rfl, (fun z hz => by rw [List.mem_singleton.mp hz]; exact ⟨by decide, _, cl_L_16, by unfold NC; simp⟩), by decide, by decide, cl_L_18, ca_L_18, rfl⟩, fun q9 => ?_⟩
      refine K_astore_n dL_cross_10 (Nat.le_of_ble_eq_true rfl) (by rfl) ?_
      refine K_bipush (v := (-103)) dL_cross_11 (by decide) ?_
      exact K_done ⟨_, (⟨by rw [hR]; rfl, hw, hk⟩), Or.inl ⟨dL_cross_13, _, _, rfl, rfl, (by rfl), rfl⟩⟩
    · rw [List.getElem?_eq_none (by show 2 ≤ i; exact hi)] at hE
      cases hE
  · obtain ⟨hR, rfl, hw, hk⟩ := q4
    exact K_done ⟨_, (⟨by rw [if_pos hR], hw, hk⟩), Or.inl ⟨dL_cross_5, _, _, rfl, rfl, (by rfl), rfl⟩⟩
abbrev mm_L_open : MI := (yL_open, cL_open, 2, some .int)
abbrev hh_L_open : List (Nat × Nat × Nat × Nat) := [(0, 4, 5, 18)]
theorem mf_L_open : MFW mm_L_open hh_L_open 1 := ⟨tb_2 (List.mem_of_getElem? (i := 182) rfl) rfl, it_L, ⟨by decide, by decide⟩, by decide +kernel, by decide⟩
theorem ms_L_open : Cond.static yL_open ∈ WS := tb_2 (List.mem_of_getElem? (i := 181) rfl) rfl
set_option maxRecDepth 20000 in
theorem sp_L_open {G : GG} {h : HP} {x : Nat} {σ : Sg} (w : isLT G h x σ) (ok : okS σ) (n : Nat) : SpW G mm_L_open hh_L_open 7 [.ref x] h n (qW G x h (opOpen σ) [-103]) := by
  refine SpW_of (by decide +kernel) (Nat.le_of_ble_eq_true rfl) ?_
  refine K_aload_n dL_open_0 (by rfl) ?_
  refine K_callX (tb := hh_L_open) (kc' := 0) (kn' := 0) mf_X9_open (tb_2 (List.mem_of_getElem? (i := 183) rfl) rfl) mi_X9_open mv_X9_open (sp_X9_open w _) dL_open_1 (by first | assumption | exact isLT.ob (by assumption) | exact hset_s | exact (hset_n (by first | assumption | omega)).trans (by first | assumption | exact isLT.ob (by assumption) | exact hset_s | exact (hset_n (by first | assumption | omega)).trans (by first | assumption | exact isLT.ob (by assumption) | exact hset_s | exact (hset_n (by first | assumption | omega)).trans (by first | assumption | exact isLT.ob (by assumption))))) rfl rfl (by decide) (by rfl) rfl (Nat.le_of_ble_eq_true rfl) rfl rfl (fun E h' q => ?_) (fun v h4 n4 q4 => ?_)
  · obtain ⟨⟨i, hR, hE⟩, hw, hk⟩ := q
    rcases (show i = 0 ∨ 1 ≤ i by omega) with rfl | hi
    · have hE : some "java/lang/IllegalStateException" = some E := hE
      cases hE
      refine ⟨5, ⟨[], ⟨0, 4, 5, 18⟩, [], rfl, (fun z hz => by cases hz), by decide, by decide, cl_L_18, ca_L_18, rfl⟩, fun q9 => ?_⟩
      refine K_astore_n dL_open_5 (Nat.le_of_ble_eq_true rfl) (by rfl) ?_
      refine K_bipush (v := (-103)) dL_open_6 (by decide) ?_
      exact K_done ⟨_, (⟨by rw [hR]; rfl, hw, hk⟩), Or.inl ⟨dL_open_8, _, _, rfl, rfl, (by rfl), rfl⟩⟩
    · rw [List.getElem?_eq_none (by show 1 ≤ i; exact hi)] at hE
      cases hE
  · obtain ⟨hR, rfl, hw, hk⟩ := q4
    exact K_done ⟨_, (⟨by rw [if_pos hR], hw, hk⟩), Or.inl ⟨dL_open_4, _, _, rfl, rfl, (by rfl), rfl⟩⟩
abbrev mm_L_move : MI := (yL_move, cL_move, 4, some .int)
abbrev hh_L_move : List (Nat × Nat × Nat × Nat) := [(0, 6, 7, 16), (0, 6, 11, 18)]
theorem mf_L_move : MFW mm_L_move hh_L_move 3 := ⟨tb_2 (List.mem_of_getElem? (i := 190) rfl) rfl, it_L, ⟨by decide, by decide⟩, by decide +kernel, by decide⟩
theorem ms_L_move : Cond.static yL_move ∈ WS := tb_2 (List.mem_of_getElem? (i := 189) rfl) rfl
set_option maxRecDepth 20000 in
theorem sp_L_move {G : GG} {h : HP} {x : Nat} {σ : Sg} (w : isLT G h x σ) (ok : okS σ) (m k : Int32) (n : Nat) : SpW G mm_L_move hh_L_move 7 [.ref x, .int m, .int k] h n (qW G x h (opMove m k σ) [-102, -103]) := by
  refine SpW_of (by decide +kernel) (Nat.le_of_ble_eq_true rfl) ?_
  refine K_aload_n dL_move_0 (by rfl) ?_
  refine K_iload_n dL_move_1 (by rfl) ?_
  refine K_iload_n dL_move_2 (by rfl) ?_
  refine K_callX (tb := hh_L_move) (kc' := 0) (kn' := 0) mf_X9_move (tb_2 (List.mem_of_getElem? (i := 191) rfl) rfl) mi_X9_move mv_X9_move (sp_X9_move w m k _) dL_move_3 (by first | assumption | exact isLT.ob (by assumption) | exact hset_s | exact (hset_n (by first | assumption | omega)).trans (by first | assumption | exact isLT.ob (by assumption) | exact hset_s | exact (hset_n (by first | assumption | omega)).trans (by first | assumption | exact isLT.ob (by assumption) | exact hset_s | exact (hset_n (by first | assumption | omega)).trans (by first | assumption | exact isLT.ob (by assumption))))) rfl rfl (by decide) (by rfl) rfl (Nat.le_of_ble_eq_true rfl) rfl rfl (fun E h' q => ?_) (fun v h4 n4 q4 => ?_)
  · obtain ⟨⟨i, hR, hE⟩, hw, hk⟩ := q
    rcases (show i = 0 ∨ i = 1 ∨ 2 ≤ i by omega) with rfl | rfl | hi
    · have hE : some "java/lang/IllegalArgumentException" = some E := hE
      cases hE
      refine ⟨7, ⟨[], ⟨0, 6, 7, 16⟩, [⟨0, 6, 11, 18⟩], rfl, (fun z hz => by cases hz), by decide, by decide, cl_L_16, ca_L_16, rfl⟩, fun q9 => ?_⟩
      refine K_astore_n dL_move_7 (Nat.le_of_ble_eq_true rfl) (by rfl) ?_
      refine K_bipush (v := (-102)) dL_move_8 (by decide) ?_
      exact K_done ⟨_, (⟨by rw [hR]; rfl, hw, hk⟩), Or.inl ⟨dL_move_10, _, _, rfl, rfl, (by rfl), rfl⟩⟩
    · have hE : some "java/lang/IllegalStateException" = some E := hE
      cases hE
      refine ⟨11, ⟨[⟨0, 6, 7, 16⟩], ⟨0, 6, 11, 18⟩, [], rfl, (fun z hz => by rw [List.mem_singleton.mp hz]; exact ⟨by decide, _, cl_L_16, by unfold NC; simp⟩), by decide, by decide, cl_L_18, ca_L_18, rfl⟩, fun q9 => ?_⟩
      refine K_astore_n dL_move_11 (Nat.le_of_ble_eq_true rfl) (by rfl) ?_
      refine K_bipush (v := (-103)) dL_move_12 (by decide) ?_
      exact K_done ⟨_, (⟨by rw [hR]; rfl, hw, hk⟩), Or.inl ⟨dL_move_14, _, _, rfl, rfl, (by rfl), rfl⟩⟩
    · rw [List.getElem?_eq_none (by show 2 ≤ i; exact hi)] at hE
      cases hE
  · obtain ⟨hR, rfl, hw, hk⟩ := q4
    exact K_done ⟨_, (⟨by rw [if_pos hR], hw, hk⟩), Or.inl ⟨dL_move_6, _, _, rfl, rfl, (by rfl), rfl⟩⟩
abbrev mm_L_pair : MI := (yL_pair, cL_pair, 4, some .int)
abbrev hh_L_pair : List (Nat × Nat × Nat × Nat) := [(0, 6, 7, 16), (0, 6, 11, 18)]
theorem mf_L_pair : MFW mm_L_pair hh_L_pair 3 := ⟨tb_2 (List.mem_of_getElem? (i := 228) rfl) rfl, it_L, ⟨by decide, by decide⟩, by decide +kernel, by decide⟩
theorem ms_L_pair : Cond.static yL_pair ∈ WS := tb_2 (List.mem_of_getElem? (i := 227) rfl) rfl
set_option maxRecDepth 20000 in
theorem sp_L_pair {G : GG} {h : HP} {x : Nat} {σ : Sg} (w : isLT G h x σ) (ok : okS σ) (k c : Int32) (n : Nat) : SpW G mm_L_pair hh_L_pair 7 [.ref x, .int k, .int c] h n (qW G x h (opPair k c σ) [-102, -103]) := by
  refine SpW_of (by decide +kernel) (Nat.le_of_ble_eq_true rfl) ?_
  refine K_aload_n dL_pair_0 (by rfl) ?_
  refine K_iload_n dL_pair_1 (by rfl) ?_
  refine K_iload_n dL_pair_2 (by rfl) ?_
  refine K_callX (tb := hh_L_pair) (kc' := 0) (kn' := 0) mf_X9_pair (tb_2 (List.mem_of_getElem? (i := 229) rfl) rfl) mi_X9_pair mv_X9_pair (sp_X9_pair w k c _) dL_pair_3 (by first | assumption | exact isLT.ob (by assumption) | exact hset_s | exact (hset_n (by first | assumption | omega)).trans (by first | assumption | exact isLT.ob (by assumption) | exact hset_s | exact (hset_n (by first | assumption | omega)).trans (by first | assumption | exact isLT.ob (by assumption) | exact hset_s | exact (hset_n (by first | assumption | omega)).trans (by first | assumption | exact isLT.ob (by assumption))))) rfl rfl (by decide) (by rfl) rfl (Nat.le_of_ble_eq_true rfl) rfl rfl (fun E h' q => ?_) (fun v h4 n4 q4 => ?_)
  · obtain ⟨⟨i, hR, hE⟩, hw, hk⟩ := q
    rcases (show i = 0 ∨ i = 1 ∨ 2 ≤ i by omega) with rfl | rfl | hi
    · have hE : some "java/lang/IllegalArgumentException" = some E := hE
      cases hE
      refine ⟨7, ⟨[], ⟨0, 6, 7, 16⟩, [⟨0, 6, 11, 18⟩], rfl, (fun z hz => by cases hz), by decide, by decide, cl_L_16, ca_L_16, rfl⟩, fun q9 => ?_⟩
      refine K_astore_n dL_pair_7 (Nat.le_of_ble_eq_true rfl) (by rfl) ?_
      refine K_bipush (v := (-102)) dL_pair_8 (by decide) ?_
      exact K_done ⟨_, (⟨by rw [hR]; rfl, hw, hk⟩), Or.inl ⟨dL_pair_10, _, _, rfl, rfl, (by rfl), rfl⟩⟩
    · have hE : some "java/lang/IllegalStateException" = some E := hE
      cases hE
      refine ⟨11, ⟨[⟨0, 6, 7, 16⟩], ⟨0, 6, 11, 18⟩, [], rfl, (fun z hz => by rw [List.mem_singleton.mp hz]; exact ⟨by decide, _, cl_L_16, by unfold NC; simp⟩), by decide, by decide, cl_L_18, ca_L_18, rfl⟩, fun q9 => ?_⟩
      refine K_astore_n dL_pair_11 (Nat.le_of_ble_eq_true rfl) (by rfl) ?_
      refine K_bipush (v := (-103)) dL_pair_12 (by decide) ?_
      exact K_done ⟨_, (⟨by rw [hR]; rfl, hw, hk⟩), Or.inl ⟨dL_pair_14, _, _, rfl, rfl, (by rfl), rfl⟩⟩
    · rw [List.getElem?_eq_none (by show 2 ≤ i; exact hi)] at hE
      cases hE
  · obtain ⟨hR, rfl, hw, hk⟩ := q4
    exact K_done ⟨_, (⟨by rw [if_pos hR], hw, hk⟩), Or.inl ⟨dL_pair_6, _, _, rfl, rfl, (by rfl), rfl⟩⟩
abbrev mm_L_handle : MI := (yL_handle, cL_handle, 2, some .int)
abbrev hh_L_handle : List (Nat × Nat × Nat × Nat) := [(0, 4, 5, 18)]
theorem mf_L_handle : MFW mm_L_handle hh_L_handle 1 := ⟨tb_3 (List.mem_of_getElem? (i := 19) rfl) rfl, it_L, ⟨by decide, by decide⟩, by decide +kernel, by decide⟩
theorem ms_L_handle : Cond.static yL_handle ∈ WS := tb_3 (List.mem_of_getElem? (i := 18) rfl) rfl
set_option maxRecDepth 20000 in
theorem sp_L_handle {G : GG} {h : HP} {x : Nat} {σ : Sg} (w : isLT G h x σ) (ok : okS σ) (n : Nat) : SpW G mm_L_handle hh_L_handle 7 [.ref x] h n (qW G x h (opHandle σ) [-103]) := by
  refine SpW_of (by decide +kernel) (Nat.le_of_ble_eq_true rfl) ?_
  refine K_aload_n dL_handle_0 (by rfl) ?_
  refine K_callX (tb := hh_L_handle) (kc' := 0) (kn' := 0) mf_X9_handle (tb_3 (List.mem_of_getElem? (i := 20) rfl) rfl) mi_X9_handle mv_X9_handle (sp_X9_handle w ok _) dL_handle_1 (by first | assumption | exact isLT.ob (by assumption) | exact hset_s | exact (hset_n (by first | assumption | omega)).trans (by first | assumption | exact isLT.ob (by assumption) | exact hset_s | exact (hset_n (by first | assumption | omega)).trans (by first | assumption | exact isLT.ob (by assumption) | exact hset_s | exact (hset_n (by first | assumption | omega)).trans (by first | assumption | exact isLT.ob (by assumption))))) rfl rfl (by decide) (by rfl) rfl (Nat.le_of_ble_eq_true rfl) rfl rfl (fun E h' q => ?_) (fun v h4 n4 q4 => ?_)
  · obtain ⟨⟨i, hR, hE⟩, hw, hk⟩ := q
    rcases (show i = 0 ∨ 1 ≤ i by omega) with rfl | hi
    · have hE : some "java/lang/IllegalStateException" = some E := hE
      cases hE
      refine ⟨5, ⟨[], ⟨0, 4, 5, 18⟩, [], rfl, (fun z hz => by cases hz), by decide, by decide, cl_L_18, ca_L_18, rfl⟩, fun q9 => ?_⟩
      refine K_astore_n dL_handle_5 (Nat.le_of_ble_eq_true rfl) (by rfl) ?_
      refine K_bipush (v := (-103)) dL_handle_6 (by decide) ?_
      exact K_done ⟨_, (⟨by rw [hR]; rfl, hw, hk⟩), Or.inl ⟨dL_handle_8, _, _, rfl, rfl, (by rfl), rfl⟩⟩
    · rw [List.getElem?_eq_none (by show 1 ≤ i; exact hi)] at hE
      cases hE
  · obtain ⟨hR, rfl, hw, hk⟩ := q4
    exact K_done ⟨_, (⟨by rw [if_pos hR], hw, hk⟩), Or.inl ⟨dL_handle_4, _, _, rfl, rfl, (by rfl), rfl⟩⟩
abbrev mm_L_undo : MI := (yL_undo, cL_undo, 2, some .int)
abbrev hh_L_undo : List (Nat × Nat × Nat × Nat) := [(0, 4, 5, 18)]
theorem mf_L_undo : MFW mm_L_undo hh_L_undo 1 := ⟨tb_1 (List.mem_of_getElem? (i := 217) rfl) rfl, it_L, ⟨by decide, by decide⟩, by decide +kernel, by decide⟩
theorem ms_L_undo : Cond.static yL_undo ∈ WS := tb_1 (List.mem_of_getElem? (i := 216) rfl) rfl
set_option maxRecDepth 20000 in
theorem sp_L_undo {G : GG} {h : HP} {x : Nat} {σ : Sg} (w : isLT G h x σ) (ok : okS σ) (n : Nat) : SpW G mm_L_undo hh_L_undo 7 [.ref x] h n (qW G x h (opUndo σ) [-103]) := by
  refine SpW_of (by decide +kernel) (Nat.le_of_ble_eq_true rfl) ?_
  refine K_aload_n dL_undo_0 (by rfl) ?_
  refine K_callX (tb := hh_L_undo) (kc' := 0) (kn' := 0) mf_X9_undo (tb_1 (List.mem_of_getElem? (i := 219) rfl) rfl) mi_X9_undo mv_X9_undo (sp_X9_undo w _) dL_undo_1 (by first | assumption | exact isLT.ob (by assumption) | exact hset_s | exact (hset_n (by first | assumption | omega)).trans (by first | assumption | exact isLT.ob (by assumption) | exact hset_s | exact (hset_n (by first | assumption | omega)).trans (by first | assumption | exact isLT.ob (by assumption) | exact hset_s | exact (hset_n (by first | assumption | omega)).trans (by first | assumption | exact isLT.ob (by assumption))))) rfl rfl (by decide) (by rfl) rfl (Nat.le_of_ble_eq_true rfl) rfl rfl (fun E h' q => ?_) (fun v h4 n4 q4 => ?_)
  · obtain ⟨⟨i, hR, hE⟩, hw, hk⟩ := q
    rcases (show i = 0 ∨ 1 ≤ i by omega) with rfl | hi
    · have hE : some "java/lang/IllegalStateException" = some E := hE
      cases hE
      refine ⟨5, ⟨[], ⟨0, 4, 5, 18⟩, [], rfl, (fun z hz => by cases hz), by decide, by decide, cl_L_18, ca_L_18, rfl⟩, fun q9 => ?_⟩
      refine K_astore_n dL_undo_5 (Nat.le_of_ble_eq_true rfl) (by rfl) ?_
      refine K_bipush (v := (-103)) dL_undo_6 (by decide) ?_
      exact K_done ⟨_, (⟨by rw [hR]; rfl, hw, hk⟩), Or.inl ⟨dL_undo_8, _, _, rfl, rfl, (by rfl), rfl⟩⟩
    · rw [List.getElem?_eq_none (by show 1 ≤ i; exact hi)] at hE
      cases hE
  · obtain ⟨hR, rfl, hw, hk⟩ := q4
    exact K_done ⟨_, (⟨by rw [if_pos hR], hw, hk⟩), Or.inl ⟨dL_undo_4, _, _, rfl, rfl, (by rfl), rfl⟩⟩
abbrev mm_L_crossing : MI := (yL_crossing, cL_crossing, 3, some .int)
abbrev hh_L_crossing : List (Nat × Nat × Nat × Nat) := [(0, 5, 6, 16)]
theorem mf_L_crossing : MFW mm_L_crossing hh_L_crossing 2 := ⟨tb_2 (List.mem_of_getElem? (i := 96) rfl) rfl, it_L, ⟨by decide, by decide⟩, by decide +kernel, by decide⟩
theorem ms_L_crossing : Cond.static yL_crossing ∈ WS := tb_2 (List.mem_of_getElem? (i := 95) rfl) rfl
set_option maxRecDepth 20000 in
theorem sp_L_crossing {G : GG} {h : HP} {x : Nat} {σ : Sg} (w : isLT G h x σ) (ok : okS σ) (k : Int32) (n : Nat) : SpW G mm_L_crossing hh_L_crossing 7 [.ref x, .int k] h n (qW G x h (opCrossing k σ) [-102]) := by
  refine SpW_of (by decide +kernel) (Nat.le_of_ble_eq_true rfl) ?_
  refine K_aload_n dL_crossing_0 (by rfl) ?_
  refine K_iload_n dL_crossing_1 (by rfl) ?_
  refine K_callX (tb := hh_L_crossing) (kc' := 0) (kn' := 0) mf_X9_crossing (tb_2 (List.mem_of_getElem? (i := 98) rfl) rfl) mi_X9_crossing mv_X9_crossing (sp_X9_crossing w k _) dL_crossing_2 (by first | assumption | exact isLT.ob (by assumption) | exact hset_s | exact (hset_n (by first | assumption | omega)).trans (by first | assumption | exact isLT.ob (by assumption) | exact hset_s | exact (hset_n (by first | assumption | omega)).trans (by first | assumption | exact isLT.ob (by assumption) | exact hset_s | exact (hset_n (by first | assumption | omega)).trans (by first | assumption | exact isLT.ob (by assumption))))) rfl rfl (by decide) (by rfl) rfl (Nat.le_of_ble_eq_true rfl) rfl rfl (fun E h' q => ?_) (fun v h4 n4 q4 => ?_)
  · obtain ⟨⟨i, hR, hE⟩, hw, hk⟩ := q
    rcases (show i = 0 ∨ 1 ≤ i by omega) with rfl | hi
    · have hE : some "java/lang/IllegalArgumentException" = some E := hE
      cases hE
      refine ⟨6, ⟨[], ⟨0, 5, 6, 16⟩, [], rfl, (fun z hz => by cases hz), by decide, by decide, cl_L_16, ca_L_16, rfl⟩, fun q9 => ?_⟩
      refine K_astore_n dL_crossing_6 (Nat.le_of_ble_eq_true rfl) (by rfl) ?_
      refine K_bipush (v := (-102)) dL_crossing_7 (by decide) ?_
      exact K_done ⟨_, (⟨by rw [hR]; rfl, hw, hk⟩), Or.inl ⟨dL_crossing_9, _, _, rfl, rfl, (by rfl), rfl⟩⟩
    · rw [List.getElem?_eq_none (by show 1 ≤ i; exact hi)] at hE
      cases hE
  · obtain ⟨hR, rfl, hw, hk⟩ := q4
    exact K_done ⟨_, (⟨by rw [if_pos hR], hw, hk⟩), Or.inl ⟨dL_crossing_5, _, _, rfl, rfl, (by rfl), rfl⟩⟩
abbrev mm_L_lies : MI := (yL_lies, cL_lies, 4, some .int)
abbrev hh_L_lies : List (Nat × Nat × Nat × Nat) := [(0, 6, 7, 43), (0, 6, 11, 16)]
theorem mf_L_lies : MFW mm_L_lies hh_L_lies 3 := ⟨tb_3 (List.mem_of_getElem? (i := 89) rfl) rfl, it_L, ⟨by decide, by decide⟩, by decide +kernel, by decide⟩
theorem ms_L_lies : Cond.static yL_lies ∈ WS := tb_3 (List.mem_of_getElem? (i := 88) rfl) rfl
theorem ca_L_43 : Cond.castable "java/lang/IndexOutOfBoundsException" "java/lang/IndexOutOfBoundsException" ∈ WS := tb_3 (List.mem_of_getElem? (i := 100) rfl) rfl
set_option maxRecDepth 20000 in
theorem sp_L_lies {G : GG} {h : HP} {x : Nat} {σ : Sg} (w : isLT G h x σ) (ok : okS σ) (k p : Int32) (n : Nat) : SpW G mm_L_lies hh_L_lies 7 [.ref x, .int k, .int p] h n (qW G x h (opLies k p σ) [-101, -102]) := by
  refine SpW_of (by decide +kernel) (Nat.le_of_ble_eq_true rfl) ?_
  refine K_aload_n dL_lies_0 (by rfl) ?_
  refine K_iload_n dL_lies_1 (by rfl) ?_
  refine K_iload_n dL_lies_2 (by rfl) ?_
  refine K_callX (tb := hh_L_lies) (kc' := 0) (kn' := 0) mf_X9_lies (tb_3 (List.mem_of_getElem? (i := 91) rfl) rfl) mi_X9_lies mv_X9_lies (sp_X9_lies w ok k p _) dL_lies_3 (by first | assumption | exact isLT.ob (by assumption) | exact hset_s | exact (hset_n (by first | assumption | omega)).trans (by first | assumption | exact isLT.ob (by assumption) | exact hset_s | exact (hset_n (by first | assumption | omega)).trans (by first | assumption | exact isLT.ob (by assumption) | exact hset_s | exact (hset_n (by first | assumption | omega)).trans (by first | assumption | exact isLT.ob (by assumption))))) rfl rfl (by decide) (by rfl) rfl (Nat.le_of_ble_eq_true rfl) rfl rfl (fun E h' q => ?_) (fun v h4 n4 q4 => ?_)
  · obtain ⟨⟨i, hR, hE⟩, hw, hk⟩ := q
    rcases (show i = 0 ∨ i = 1 ∨ 2 ≤ i by omega) with rfl | rfl | hi
    · have hE : some "java/lang/IndexOutOfBoundsException" = some E := hE
      cases hE
      refine ⟨7, ⟨[], ⟨0, 6, 7, 43⟩, [⟨0, 6, 11, 16⟩], rfl, (fun z hz => by cases hz), by decide, by decide, cl_L_43, ca_L_43, rfl⟩, fun q9 => ?_⟩
      refine K_astore_n dL_lies_7 (Nat.le_of_ble_eq_true rfl) (by rfl) ?_
      refine K_bipush (v := (-101)) dL_lies_8 (by decide) ?_
      exact K_done ⟨_, (⟨by rw [hR]; rfl, hw, hk⟩), Or.inl ⟨dL_lies_10, _, _, rfl, rfl, (by rfl), rfl⟩⟩
    · have hE : some "java/lang/IllegalArgumentException" = some E := hE
      cases hE
      refine ⟨11, ⟨[⟨0, 6, 7, 43⟩], ⟨0, 6, 11, 16⟩, [], rfl, (fun z hz => by rw [List.mem_singleton.mp hz]; exact ⟨by decide, _, cl_L_43, by unfold NC; simp⟩), by decide, by decide, cl_L_16, ca_L_16, rfl⟩, fun q9 => ?_⟩
      refine K_astore_n dL_lies_11 (Nat.le_of_ble_eq_true rfl) (by rfl) ?_
      refine K_bipush (v := (-102)) dL_lies_12 (by decide) ?_
      exact K_done ⟨_, (⟨by rw [hR]; rfl, hw, hk⟩), Or.inl ⟨dL_lies_14, _, _, rfl, rfl, (by rfl), rfl⟩⟩
    · rw [List.getElem?_eq_none (by show 2 ≤ i; exact hi)] at hE
      cases hE
  · obtain ⟨hR, rfl, hw, hk⟩ := q4
    exact K_done ⟨_, (⟨by rw [if_pos hR], hw, hk⟩), Or.inl ⟨dL_lies_6, _, _, rfl, rfl, (by rfl), rfl⟩⟩
abbrev mm_L_winding : MI := (yL_winding, cL_winding, 4, some .int)
abbrev hh_L_winding : List (Nat × Nat × Nat × Nat) := [(0, 6, 7, 43)]
theorem mf_L_winding : MFW mm_L_winding hh_L_winding 3 := ⟨tb_3 (List.mem_of_getElem? (i := 137) rfl) rfl, it_L, ⟨by decide, by decide⟩, by decide +kernel, by decide⟩
theorem ms_L_winding : Cond.static yL_winding ∈ WS := tb_3 (List.mem_of_getElem? (i := 136) rfl) rfl
set_option maxRecDepth 20000 in
theorem sp_L_winding {G : GG} {h : HP} {x : Nat} {σ : Sg} (w : isLT G h x σ) (ok : okS σ) (a b : Int32) (n : Nat) : SpW G mm_L_winding hh_L_winding 7 [.ref x, .int a, .int b] h n (qW G x h (opWinding a b σ) [-101]) := by
  refine SpW_of (by decide +kernel) (Nat.le_of_ble_eq_true rfl) ?_
  refine K_aload_n dL_winding_0 (by rfl) ?_
  refine K_iload_n dL_winding_1 (by rfl) ?_
  refine K_iload_n dL_winding_2 (by rfl) ?_
  refine K_callX (tb := hh_L_winding) (kc' := 0) (kn' := 0) mf_X9_winding (tb_3 (List.mem_of_getElem? (i := 138) rfl) rfl) mi_X9_winding mv_X9_winding (sp_X9_winding w ok a b _) dL_winding_3 (by first | assumption | exact isLT.ob (by assumption) | exact hset_s | exact (hset_n (by first | assumption | omega)).trans (by first | assumption | exact isLT.ob (by assumption) | exact hset_s | exact (hset_n (by first | assumption | omega)).trans (by first | assumption | exact isLT.ob (by assumption) | exact hset_s | exact (hset_n (by first | assumption | omega)).trans (by first | assumption | exact isLT.ob (by assumption))))) rfl rfl (by decide) (by rfl) rfl (Nat.le_of_ble_eq_true rfl) rfl rfl (fun E h' q => ?_) (fun v h4 n4 q4 => ?_)
  · obtain ⟨⟨i, hR, hE⟩, hw, hk⟩ := q
    rcases (show i = 0 ∨ 1 ≤ i by omega) with rfl | hi
    · have hE : some "java/lang/IndexOutOfBoundsException" = some E := hE
      cases hE
      refine ⟨7, ⟨[], ⟨0, 6, 7, 43⟩, [], rfl, (fun z hz => by cases hz), by decide, by decide, cl_L_43, ca_L_43, rfl⟩, fun q9 => ?_⟩
      refine K_astore_n dL_winding_7 (Nat.le_of_ble_eq_true rfl) (by rfl) ?_
      refine K_bipush (v := (-101)) dL_winding_8 (by decide) ?_
      exact K_done ⟨_, (⟨by rw [hR]; rfl, hw, hk⟩), Or.inl ⟨dL_winding_10, _, _, rfl, rfl, (by rfl), rfl⟩⟩
    · rw [List.getElem?_eq_none (by show 1 ≤ i; exact hi)] at hE
      cases hE
  · obtain ⟨hR, rfl, hw, hk⟩ := q4
    exact K_done ⟨_, (⟨by rw [if_pos hR], hw, hk⟩), Or.inl ⟨dL_winding_6, _, _, rfl, rfl, (by rfl), rfl⟩⟩
abbrev mm_L_measure : MI := (yL_measure, cL_measure, 4, some .int)
abbrev hh_L_measure : List (Nat × Nat × Nat × Nat) := [(0, 6, 7, 43)]
theorem mf_L_measure : MFW mm_L_measure hh_L_measure 3 := ⟨tb_3 (List.mem_of_getElem? (i := 156) rfl) rfl, it_L, ⟨by decide, by decide⟩, by decide +kernel, by decide⟩
theorem ms_L_measure : Cond.static yL_measure ∈ WS := tb_3 (List.mem_of_getElem? (i := 155) rfl) rfl
set_option maxRecDepth 20000 in
theorem sp_L_measure {G : GG} {h : HP} {x : Nat} {σ : Sg} (w : isLT G h x σ) (ok : okS σ) (a b : Int32) (n : Nat) : SpW G mm_L_measure hh_L_measure 7 [.ref x, .int a, .int b] h n (qW G x h (opMeasure a b σ) [-101]) := by
  refine SpW_of (by decide +kernel) (Nat.le_of_ble_eq_true rfl) ?_
  refine K_aload_n dL_measure_0 (by rfl) ?_
  refine K_iload_n dL_measure_1 (by rfl) ?_
  refine K_iload_n dL_measure_2 (by rfl) ?_
  refine K_callX (tb := hh_L_measure) (kc' := 0) (kn' := 0) mf_X9_measure (tb_3 (List.mem_of_getElem? (i := 157) rfl) rfl) mi_X9_measure mv_X9_measure (sp_X9_measure w ok a b _) dL_measure_3 (by first | assumption | exact isLT.ob (by assumption) | exact hset_s | exact (hset_n (by first | assumption | omega)).trans (by first | assumption | exact isLT.ob (by assumption) | exact hset_s | exact (hset_n (by first | assumption | omega)).trans (by first | assumption | exact isLT.ob (by assumption) | exact hset_s | exact (hset_n (by first | assumption | omega)).trans (by first | assumption | exact isLT.ob (by assumption))))) rfl rfl (by decide) (by rfl) rfl (Nat.le_of_ble_eq_true rfl) rfl rfl (fun E h' q => ?_) (fun v h4 n4 q4 => ?_)
  · obtain ⟨⟨i, hR, hE⟩, hw, hk⟩ := q
    rcases (show i = 0 ∨ 1 ≤ i by omega) with rfl | hi
    · have hE : some "java/lang/IndexOutOfBoundsException" = some E := hE
      cases hE
      refine ⟨7, ⟨[], ⟨0, 6, 7, 43⟩, [], rfl, (fun z hz => by cases hz), by decide, by decide, cl_L_43, ca_L_43, rfl⟩, fun q9 => ?_⟩
      refine K_astore_n dL_measure_7 (Nat.le_of_ble_eq_true rfl) (by rfl) ?_
      refine K_bipush (v := (-101)) dL_measure_8 (by decide) ?_
      exact K_done ⟨_, (⟨by rw [hR]; rfl, hw, hk⟩), Or.inl ⟨dL_measure_10, _, _, rfl, rfl, (by rfl), rfl⟩⟩
    · rw [List.getElem?_eq_none (by show 1 ≤ i; exact hi)] at hE
      cases hE
  · obtain ⟨hR, rfl, hw, hk⟩ := q4
    exact K_done ⟨_, (⟨by rw [if_pos hR], hw, hk⟩), Or.inl ⟨dL_measure_6, _, _, rfl, rfl, (by rfl), rfl⟩⟩
abbrev mm_L_halved : MI := (yL_halved, cL_halved, 4, some .int)
abbrev hh_L_halved : List (Nat × Nat × Nat × Nat) := [(0, 6, 7, 43)]
theorem mf_L_halved : MFW mm_L_halved hh_L_halved 3 := ⟨tb_3 (List.mem_of_getElem? (i := 184) rfl) rfl, it_L, ⟨by decide, by decide⟩, by decide +kernel, by decide⟩
theorem ms_L_halved : Cond.static yL_halved ∈ WS := tb_3 (List.mem_of_getElem? (i := 183) rfl) rfl
set_option maxRecDepth 20000 in
theorem sp_L_halved {G : GG} {h : HP} {x : Nat} {σ : Sg} (w : isLT G h x σ) (ok : okS σ) (a b : Int32) (n : Nat) : SpW G mm_L_halved hh_L_halved 10 [.ref x, .int a, .int b] h n (qW G x h (opMeasure a b σ) [-101]) := by
  refine SpW_of (by decide +kernel) (Nat.le_of_ble_eq_true rfl) ?_
  refine K_aload_n dL_halved_0 (by rfl) ?_
  refine K_iload_n dL_halved_1 (by rfl) ?_
  refine K_iload_n dL_halved_2 (by rfl) ?_
  refine K_callX (tb := hh_L_halved) (kc' := 0) (kn' := 0) mf_X9_halved (tb_3 (List.mem_of_getElem? (i := 185) rfl) rfl) mi_X9_halved mv_X9_halved (sp_X9_halved w ok a b _) dL_halved_3 (by first | assumption | exact isLT.ob (by assumption) | exact hset_s | exact (hset_n (by first | assumption | omega)).trans (by first | assumption | exact isLT.ob (by assumption) | exact hset_s | exact (hset_n (by first | assumption | omega)).trans (by first | assumption | exact isLT.ob (by assumption) | exact hset_s | exact (hset_n (by first | assumption | omega)).trans (by first | assumption | exact isLT.ob (by assumption))))) rfl rfl (by decide) (by rfl) rfl (Nat.le_of_ble_eq_true rfl) rfl rfl (fun E h' q => ?_) (fun v h4 n4 q4 => ?_)
  · obtain ⟨⟨i, hR, hE⟩, hw, hk⟩ := q
    rcases (show i = 0 ∨ 1 ≤ i by omega) with rfl | hi
    · have hE : some "java/lang/IndexOutOfBoundsException" = some E := hE
      cases hE
      refine ⟨7, ⟨[], ⟨0, 6, 7, 43⟩, [], rfl, (fun z hz => by cases hz), by decide, by decide, cl_L_43, ca_L_43, rfl⟩, fun q9 => ?_⟩
      refine K_astore_n dL_halved_7 (Nat.le_of_ble_eq_true rfl) (by rfl) ?_
      refine K_bipush (v := (-101)) dL_halved_8 (by decide) ?_
      exact K_done ⟨_, (⟨by rw [hR]; rfl, hw, hk⟩), Or.inl ⟨dL_halved_10, _, _, rfl, rfl, (by rfl), rfl⟩⟩
    · rw [List.getElem?_eq_none (by show 1 ≤ i; exact hi)] at hE
      cases hE
  · obtain ⟨hR, rfl, hw, hk⟩ := q4
    exact K_done ⟨_, (⟨by rw [if_pos hR], hw, hk⟩), Or.inl ⟨dL_halved_6, _, _, rfl, rfl, (by rfl), rfl⟩⟩
abbrev mm_L_count : MI := (yL_count, cL_count, 3, some .int)
abbrev hh_L_count : List (Nat × Nat × Nat × Nat) := [(0, 5, 6, 16)]
theorem mf_L_count : MFW mm_L_count hh_L_count 2 := ⟨tb_2 (List.mem_of_getElem? (i := 124) rfl) rfl, it_L, ⟨by decide, by decide⟩, by decide +kernel, by decide⟩
theorem ms_L_count : Cond.static yL_count ∈ WS := tb_2 (List.mem_of_getElem? (i := 123) rfl) rfl
set_option maxRecDepth 20000 in
theorem sp_L_count {G : GG} {h : HP} {x : Nat} {σ : Sg} (w : isLT G h x σ) (ok : okS σ) (k : Int32) (n : Nat) : SpW G mm_L_count hh_L_count 7 [.ref x, .int k] h n (qW G x h (opCount k σ) [-102]) := by
  refine SpW_of (by decide +kernel) (Nat.le_of_ble_eq_true rfl) ?_
  refine K_aload_n dL_count_0 (by rfl) ?_
  refine K_iload_n dL_count_1 (by rfl) ?_
  refine K_callX (tb := hh_L_count) (kc' := 0) (kn' := 0) mf_X9_count (tb_2 (List.mem_of_getElem? (i := 125) rfl) rfl) mi_X9_count mv_X9_count (sp_X9_count w ok k _) dL_count_2 (by first | assumption | exact isLT.ob (by assumption) | exact hset_s | exact (hset_n (by first | assumption | omega)).trans (by first | assumption | exact isLT.ob (by assumption) | exact hset_s | exact (hset_n (by first | assumption | omega)).trans (by first | assumption | exact isLT.ob (by assumption) | exact hset_s | exact (hset_n (by first | assumption | omega)).trans (by first | assumption | exact isLT.ob (by assumption))))) rfl rfl (by decide) (by rfl) rfl (Nat.le_of_ble_eq_true rfl) rfl rfl (fun E h' q => ?_) (fun v h4 n4 q4 => ?_)
  · obtain ⟨⟨i, hR, hE⟩, hw, hk⟩ := q
    rcases (show i = 0 ∨ 1 ≤ i by omega) with rfl | hi
    · have hE : some "java/lang/IllegalArgumentException" = some E := hE
      cases hE
      refine ⟨6, ⟨[], ⟨0, 5, 6, 16⟩, [], rfl, (fun z hz => by cases hz), by decide, by decide, cl_L_16, ca_L_16, rfl⟩, fun q9 => ?_⟩
      refine K_astore_n dL_count_6 (Nat.le_of_ble_eq_true rfl) (by rfl) ?_
      refine K_bipush (v := (-102)) dL_count_7 (by decide) ?_
      exact K_done ⟨_, (⟨by rw [hR]; rfl, hw, hk⟩), Or.inl ⟨dL_count_9, _, _, rfl, rfl, (by rfl), rfl⟩⟩
    · rw [List.getElem?_eq_none (by show 1 ≤ i; exact hi)] at hE
      cases hE
  · obtain ⟨hR, rfl, hw, hk⟩ := q4
    exact K_done ⟨_, (⟨by rw [if_pos hR], hw, hk⟩), Or.inl ⟨dL_count_5, _, _, rfl, rfl, (by rfl), rfl⟩⟩
abbrev mm_L_whyNot : MI := (yL_whyNot, cL_whyNot, 4, some .int)
abbrev hh_L_whyNot : List (Nat × Nat × Nat × Nat) := [(0, 6, 7, 16)]
theorem mf_L_whyNot : MFW mm_L_whyNot hh_L_whyNot 3 := ⟨tb_3 (List.mem_of_getElem? (i := 60) rfl) rfl, it_L, ⟨by decide, by decide⟩, by decide +kernel, by decide⟩
theorem ms_L_whyNot : Cond.static yL_whyNot ∈ WS := tb_3 (List.mem_of_getElem? (i := 59) rfl) rfl
set_option maxRecDepth 20000 in
theorem sp_L_whyNot {G : GG} {h : HP} {x : Nat} {σ : Sg} (w : isLT G h x σ) (ok : okS σ) (m k : Int32) (n : Nat) : SpW G mm_L_whyNot hh_L_whyNot 7 [.ref x, .int m, .int k] h n (qW G x h (opWhy m k σ) [-102]) := by
  refine SpW_of (by decide +kernel) (Nat.le_of_ble_eq_true rfl) ?_
  refine K_aload_n dL_whyNot_0 (by rfl) ?_
  refine K_iload_n dL_whyNot_1 (by rfl) ?_
  refine K_iload_n dL_whyNot_2 (by rfl) ?_
  refine K_callX (tb := hh_L_whyNot) (kc' := 0) (kn' := 0) mf_X9_whyNot (tb_3 (List.mem_of_getElem? (i := 61) rfl) rfl) mi_X9_whyNot mv_X9_whyNot (sp_X9_whyNot w m k _) dL_whyNot_3 (by first | assumption | exact isLT.ob (by assumption) | exact hset_s | exact (hset_n (by first | assumption | omega)).trans (by first | assumption | exact isLT.ob (by assumption) | exact hset_s | exact (hset_n (by first | assumption | omega)).trans (by first | assumption | exact isLT.ob (by assumption) | exact hset_s | exact (hset_n (by first | assumption | omega)).trans (by first | assumption | exact isLT.ob (by assumption))))) rfl rfl (by decide) (by rfl) rfl (Nat.le_of_ble_eq_true rfl) rfl rfl (fun E h' q => ?_) (fun v h4 n4 q4 => ?_)
  · obtain ⟨⟨i, hR, hE⟩, hw, hk⟩ := q
    rcases (show i = 0 ∨ 1 ≤ i by omega) with rfl | hi
    · have hE : some "java/lang/IllegalArgumentException" = some E := hE
      cases hE
      refine ⟨7, ⟨[], ⟨0, 6, 7, 16⟩, [], rfl, (fun z hz => by cases hz), by decide, by decide, cl_L_16, ca_L_16, rfl⟩, fun q9 => ?_⟩
      refine K_astore_n dL_whyNot_7 (Nat.le_of_ble_eq_true rfl) (by rfl) ?_
      refine K_bipush (v := (-102)) dL_whyNot_8 (by decide) ?_
      exact K_done ⟨_, (⟨by rw [hR]; rfl, hw, hk⟩), Or.inl ⟨dL_whyNot_10, _, _, rfl, rfl, (by rfl), rfl⟩⟩
    · rw [List.getElem?_eq_none (by show 1 ≤ i; exact hi)] at hE
      cases hE
  · obtain ⟨hR, rfl, hw, hk⟩ := q4
    exact K_done ⟨_, (⟨by rw [if_pos hR], hw, hk⟩), Or.inl ⟨dL_whyNot_6, _, _, rfl, rfl, (by rfl), rfl⟩⟩
abbrev mm_L_possible : MI := (yL_possible, cL_possible, 3, some .int)
abbrev hh_L_possible : List (Nat × Nat × Nat × Nat) := [(0, 5, 6, 16)]
theorem mf_L_possible : MFW mm_L_possible hh_L_possible 2 := ⟨tb_3 (List.mem_of_getElem? (i := 67) rfl) rfl, it_L, ⟨by decide, by decide⟩, by decide +kernel, by decide⟩
theorem ms_L_possible : Cond.static yL_possible ∈ WS := tb_3 (List.mem_of_getElem? (i := 66) rfl) rfl
set_option maxRecDepth 20000 in
theorem sp_L_possible {G : GG} {h : HP} {x : Nat} {σ : Sg} (w : isLT G h x σ) (ok : okS σ) (m : Int32) (n : Nat) : SpW G mm_L_possible hh_L_possible 7 [.ref x, .int m] h n (qW G x h (opPossible m σ) [-102]) := by
  refine SpW_of (by decide +kernel) (Nat.le_of_ble_eq_true rfl) ?_
  refine K_aload_n dL_possible_0 (by rfl) ?_
  refine K_iload_n dL_possible_1 (by rfl) ?_
  refine K_callX (tb := hh_L_possible) (kc' := 0) (kn' := 0) mf_X9_possible (tb_3 (List.mem_of_getElem? (i := 68) rfl) rfl) mi_X9_possible mv_X9_possible (sp_X9_possible w m _) dL_possible_2 (by first | assumption | exact isLT.ob (by assumption) | exact hset_s | exact (hset_n (by first | assumption | omega)).trans (by first | assumption | exact isLT.ob (by assumption) | exact hset_s | exact (hset_n (by first | assumption | omega)).trans (by first | assumption | exact isLT.ob (by assumption) | exact hset_s | exact (hset_n (by first | assumption | omega)).trans (by first | assumption | exact isLT.ob (by assumption))))) rfl rfl (by decide) (by rfl) rfl (Nat.le_of_ble_eq_true rfl) rfl rfl (fun E h' q => ?_) (fun v h4 n4 q4 => ?_)
  · obtain ⟨⟨i, hR, hE⟩, hw, hk⟩ := q
    rcases (show i = 0 ∨ 1 ≤ i by omega) with rfl | hi
    · have hE : some "java/lang/IllegalArgumentException" = some E := hE
      cases hE
      refine ⟨6, ⟨[], ⟨0, 5, 6, 16⟩, [], rfl, (fun z hz => by cases hz), by decide, by decide, cl_L_16, ca_L_16, rfl⟩, fun q9 => ?_⟩
      refine K_astore_n dL_possible_6 (Nat.le_of_ble_eq_true rfl) (by rfl) ?_
      refine K_bipush (v := (-102)) dL_possible_7 (by decide) ?_
      exact K_done ⟨_, (⟨by rw [hR]; rfl, hw, hk⟩), Or.inl ⟨dL_possible_9, _, _, rfl, rfl, (by rfl), rfl⟩⟩
    · rw [List.getElem?_eq_none (by show 1 ≤ i; exact hi)] at hE
      cases hE
  · obtain ⟨hR, rfl, hw, hk⟩ := q4
    exact K_done ⟨_, (⟨by rw [if_pos hR], hw, hk⟩), Or.inl ⟨dL_possible_5, _, _, rfl, rfl, (by rfl), rfl⟩⟩
