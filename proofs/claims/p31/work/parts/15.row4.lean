/-! Row: pairs in and out, cancelling; making a move -/
theorem getD_len {xs : List Int32} {k : Nat} (h : xs.getD k 0 ≠ 0) : k < xs.length := by
  rcases Nat.lt_or_ge k xs.length with q | q
  · exact q
  · exact absurd (getD_ge q) h
def insP (xs : List Int32) (k : Nat) (x : Int32) : List Int32 := xs.take k ++ ([x, -x] ++ xs.drop k)
theorem insP_len {xs : List Int32} {k : Nat} {x : Int32} (hk : k ≤ xs.length) : (insP xs k x).length = xs.length + 2 := by
  simp [insP]; omega
theorem insP_get {xs : List Int32} {k i : Nat} {x : Int32} (hk : k ≤ xs.length) : (insP xs k x).getD i 0 = if i < k then xs.getD i 0 else if i = k then x else if i = k + 1 then -x else xs.getD (i - 2) 0 := by
  unfold insP
  rw [getD_app, List.length_take, Nat.min_eq_left hk, getD_take]
  by_cases h1 : i < k
  · simp only [h1, if_true]
  · simp only [h1, if_false]
    rw [getD_app, List.length_cons, List.length_cons, List.length_nil]
    by_cases h2 : i = k
    · subst h2; simp
    · by_cases h3 : i = k + 1
      · subst h3
        have e : k + 1 - k = 1 := by omega
        simp [e]
      · simp only [h2, h3, if_false]
        rw [if_neg (by omega), getD_drop]
        congr 1
        omega
set_option maxRecDepth 20000 in
theorem sp_X5_insertPair {G : GG} {h : HP} {r cap : Nat} {xs : List Int32} (w : isRow G h r cap xs) {k : Nat} (hk : k ≤ xs.length) (hc : xs.length + 2 ≤ cap) (x : Int32) (n : Nat) : Sp G mm_X5_insertPair 1 0 0 [.ref r, .int (nI k), .int x] h n (fun v h' _ => v = none ∧ isRow G h' r cap (insP xs k x) ∧ fr r (r + 2) h h') := by
  refine Sp_of (by decide +kernel) (Nat.le_of_ble_eq_true rfl) ?_
  have hle := w.le
  have loop : ∀ (c : Nat) (hh : HP) (n1 : Nat) (L : List Int32), isRow G hh r cap L → L.length = xs.length + 2 → (∀ i, i < xs.length + 2 → L.getD i 0 = if c < i then xs.getD (i - 2) 0 else (xs ++ [0, 0]).getD i 0) → k + 1 ≤ c → c ≤ xs.length + 1 → fr r (r + 2) h hh → J (g0 G) mm_X5_insertPair 1 24 [(0, .ref r), (1, .int (nI k)), (2, .int x), (3, .int (nI c))] [] hh n1 0 0 (RT mm_X5_insertPair (fun v h' _ => v = none ∧ isRow G h' r cap (insP xs k x) ∧ fr r (r + 2) h h')) := by
    intro c
    induction c with
    | zero => intro hh n1 L wr hL hg h1 h2 hf; exact absurd h1 (by omega)
    | succ c ih =>
      intro hh n1 L wr hL hg h1 h2 hf
      obtain ⟨f, g1, g2, g3, g4, g5⟩ := id wr
      refine J_iload_n dX5_insertPair_24 (by rfl) ?_
      refine J_iload_n dX5_insertPair_25 (by rfl) ?_
      refine J_iconst (v := 2) dX5_insertPair_26 (by decide) ?_
      refine J_iadd dX5_insertPair_27 ?_
      rw [show nI k + 2 = nI (k + 2) from nI_add k 2]
      refine J_icmp_lt (tgt := 49) dX5_insertPair_28 (by decide) (fun c28 => ?_) (fun c28 => ?_)
      · rw [nI_ltI (by omega) (by omega)] at c28
        refine J_aload_n dX5_insertPair_49 (by rfl) ?_
        refine J_iload_n dX5_insertPair_50 (by rfl) ?_
        refine J_iload_n dX5_insertPair_51 (by rfl) ?_
        refine J_callV mf_X5_put lk_X5_32 mi_X5_put mv_X5_put (sp_X5_put wr (k := k) (by omega) x _) dX5_insertPair_52 (by first | assumption | exact isRow.ob (by assumption) | exact hset_s | exact (hset_n (by first | assumption | omega)).trans (by first | assumption | exact isRow.ob (by assumption) | exact hset_s | exact (hset_n (by first | assumption | omega)).trans (by first | assumption | exact isRow.ob (by assumption) | exact hset_s | exact (hset_n (by first | assumption | omega)).trans (by first | assumption | exact isRow.ob (by assumption))))) rfl rfl (by decide) (by rfl) rfl (Nat.le_of_ble_eq_true rfl) (Nat.zero_add _) (Nat.zero_add _) (fun v52 h52 n52 q52 => ?_)
        obtain ⟨rfl, w52, f52⟩ := q52
        refine J_aload_n dX5_insertPair_55 (by rfl) ?_
        refine J_iload_n dX5_insertPair_56 (by rfl) ?_
        refine J_iconst (v := 1) dX5_insertPair_57 (by decide) ?_
        refine J_iadd dX5_insertPair_58 ?_
        refine J_iload_n dX5_insertPair_59 (by rfl) ?_
        refine J_ineg dX5_insertPair_60 ?_
        rw [show nI k + 1 = nI (k + 1) from nI_1 k]
        refine J_callV mf_X5_put lk_X5_32 mi_X5_put mv_X5_put (sp_X5_put w52 (k := k + 1) (by omega) (-x) _) dX5_insertPair_61 (by first | assumption | exact isRow.ob (by assumption) | exact hset_s | exact (hset_n (by first | assumption | omega)).trans (by first | assumption | exact isRow.ob (by assumption) | exact hset_s | exact (hset_n (by first | assumption | omega)).trans (by first | assumption | exact isRow.ob (by assumption) | exact hset_s | exact (hset_n (by first | assumption | omega)).trans (by first | assumption | exact isRow.ob (by assumption))))) rfl rfl (by decide) (by rfl) rfl (Nat.le_of_ble_eq_true rfl) (Nat.zero_add _) (Nat.zero_add _) (fun v61 h61 n61 q61 => ?_)
        obtain ⟨rfl, w61, f61⟩ := q61
        exact J_return dX5_insertPair_64 rfl (⟨rfl, by
          have e : (L.set k x).set (k + 1) (-x) = insP xs k x := by
            refine ext_getD (by rw [List.length_set, List.length_set, hL, insP_len hk]) (fun i hi => ?_)
            rw [List.length_set, List.length_set, hL] at hi
            rw [getD_set (by rw [List.length_set]; omega), getD_set (by omega), insP_get hk, hg i hi]
            by_cases e1 : i = k + 1
            · subst e1; rw [if_pos rfl, if_neg (by omega), if_neg (by omega), if_pos rfl]
            · rw [if_neg e1]
              by_cases e2 : i = k
              · subst e2; rw [if_pos rfl, if_neg (by omega), if_pos rfl]
              · rw [if_neg e2]
                by_cases e3 : c + 1 < i
                · rw [if_pos e3, if_neg (by omega), if_neg e2, if_neg e1]
                · rw [if_neg e3, if_pos (by omega), getD_app, if_pos (by omega)]
          rw [e] at w61; exact w61, fr_tr hf (fr_tr f52 f61)⟩)
      · rw [nI_ltI (by omega) (by omega)] at c28
        refine J_aload_n dX5_insertPair_31 (by rfl) ?_
        refine J_iload_n dX5_insertPair_32 (by rfl) ?_
        refine J_aload_n dX5_insertPair_33 (by rfl) ?_
        refine J_iload_n dX5_insertPair_34 (by rfl) ?_
        refine J_iconst (v := 2) dX5_insertPair_35 (by decide) ?_
        refine J_isub dX5_insertPair_36 ?_
        rw [show nI (c + 1) - 2 = nI (c + 1 - 2) from pk_sub (a := c + 1) (b := 2) (by omega)]
        refine J_callV mf_X5_at lk_X5_17 mi_X5_at mv_X5_at (sp_X5_at wr (k := c + 1 - 2) (by omega) _) dX5_insertPair_37 (by first | assumption | exact isRow.ob (by assumption) | exact hset_s | exact (hset_n (by first | assumption | omega)).trans (by first | assumption | exact isRow.ob (by assumption) | exact hset_s | exact (hset_n (by first | assumption | omega)).trans (by first | assumption | exact isRow.ob (by assumption) | exact hset_s | exact (hset_n (by first | assumption | omega)).trans (by first | assumption | exact isRow.ob (by assumption))))) rfl rfl (by decide) (by rfl) rfl (Nat.le_of_ble_eq_true rfl) (Nat.zero_add _) (Nat.zero_add _) (fun v37 h37 n37 q37 => ?_)
        obtain ⟨rfl, rfl⟩ := q37
        refine J_callV mf_X5_put lk_X5_32 mi_X5_put mv_X5_put (sp_X5_put wr (k := c + 1) (by omega) (L.getD (c + 1 - 2) 0) _) dX5_insertPair_40 (by first | assumption | exact isRow.ob (by assumption) | exact hset_s | exact (hset_n (by first | assumption | omega)).trans (by first | assumption | exact isRow.ob (by assumption) | exact hset_s | exact (hset_n (by first | assumption | omega)).trans (by first | assumption | exact isRow.ob (by assumption) | exact hset_s | exact (hset_n (by first | assumption | omega)).trans (by first | assumption | exact isRow.ob (by assumption))))) rfl rfl (by decide) (by rfl) rfl (Nat.le_of_ble_eq_true rfl) (Nat.zero_add _) (Nat.zero_add _) (fun v40 h40 n40 q40 => ?_)
        obtain ⟨rfl, w40, f40⟩ := q40
        refine J_iincM dX5_insertPair_43 (by rfl) (by decide) (by rfl) ?_
        refine J_goto (tgt := 24) dX5_insertPair_46 (by decide) ?_
        refine J_sub (by repeat (first | exact subl_nil | refine subl_cons rfl ?_)) (ih _ _ _ w40 (by rw [List.length_set]; exact hL) (fun i hi => ?_) (by omega) (by omega) (fr_tr hf f40))
        rw [getD_set (by omega)]
        by_cases e : i = c + 1
        · subst e
          rw [if_pos rfl, if_pos (by omega), hg _ (by omega), if_neg (by omega), getD_app, if_pos (by omega)]
        · rw [if_neg e, hg i hi]
          by_cases e2 : c < i
          · rw [if_pos e2, if_pos (by omega)]
          · rw [if_neg e2, if_neg (by omega)]
  refine J_aload_n dX5_insertPair_0 (by rfl) ?_
  refine J_iconst (v := 0) dX5_insertPair_1 (by decide) ?_
  refine J_callV mf_X5_add lk_X5_21 mi_X5_add mv_X5_add (sp_X5_add w 0 n) dX5_insertPair_2 (by first | assumption | exact isRow.ob (by assumption) | exact hset_s | exact (hset_n (by first | assumption | omega)).trans (by first | assumption | exact isRow.ob (by assumption) | exact hset_s | exact (hset_n (by first | assumption | omega)).trans (by first | assumption | exact isRow.ob (by assumption) | exact hset_s | exact (hset_n (by first | assumption | omega)).trans (by first | assumption | exact isRow.ob (by assumption))))) rfl rfl (by decide) (by rfl) rfl (Nat.le_of_ble_eq_true rfl) (Nat.zero_add _) (Nat.zero_add _) (fun v2 h2 n2 q2 => ?_)
  obtain ⟨rfl, w2, f2⟩ := q2
  rw [if_pos (show xs.length < cap by omega)]
  rw [List.take_of_length_le (by simp; omega)] at w2
  refine J_if_eq (tgt := 16) dX5_insertPair_5 (by decide) (fun c5 => ?_) (fun c5 => ?_)
  · exact absurd c5 (by decide)
  · refine J_aload_n dX5_insertPair_8 (by rfl) ?_
    refine J_iconst (v := 0) dX5_insertPair_9 (by decide) ?_
    refine J_callV mf_X5_add lk_X5_21 mi_X5_add mv_X5_add (sp_X5_add w2 0 _) dX5_insertPair_10 (by first | assumption | exact isRow.ob (by assumption) | exact hset_s | exact (hset_n (by first | assumption | omega)).trans (by first | assumption | exact isRow.ob (by assumption) | exact hset_s | exact (hset_n (by first | assumption | omega)).trans (by first | assumption | exact isRow.ob (by assumption) | exact hset_s | exact (hset_n (by first | assumption | omega)).trans (by first | assumption | exact isRow.ob (by assumption))))) rfl rfl (by decide) (by rfl) rfl (Nat.le_of_ble_eq_true rfl) (Nat.zero_add _) (Nat.zero_add _) (fun v10 h10 n10 q10 => ?_)
    obtain ⟨rfl, w10, f10⟩ := q10
    have e10 : (xs ++ [(0 : Int32)]).length < cap := by rw [List.length_append]; show xs.length + 1 < cap; omega
    rw [if_pos e10]
    rw [List.take_of_length_le (by simp; omega)] at w10
    refine J_if_ne (tgt := 17) dX5_insertPair_13 (by decide) (fun c13 => ?_) (fun c13 => ?_)
    · refine J_aload_n dX5_insertPair_17 (by rfl) ?_
      refine J_get fg_X5_13 dX5_insertPair_18 (by first | assumption | exact isRow.ob (by assumption) | exact hset_s | exact (hset_n (by first | assumption | omega)).trans (by first | assumption | exact isRow.ob (by assumption) | exact hset_s | exact (hset_n (by first | assumption | omega)).trans (by first | assumption | exact isRow.ob (by assumption) | exact hset_s | exact (hset_n (by first | assumption | omega)).trans (by first | assumption | exact isRow.ob (by assumption))))) (by rfl) ?_
      refine J_iconst (v := 1) dX5_insertPair_21 (by decide) ?_
      refine J_isub dX5_insertPair_22 ?_
      have e23 : (xs ++ [(0 : Int32)] ++ [(0 : Int32)]).length = (xs.length + 1) + 1 := by rw [List.length_append, List.length_append]; rfl
      rw [e23, nI_pred]
      refine J_istore_n dX5_insertPair_23 (by decide) (by rfl) ?_
      refine J_sub (by repeat (first | exact subl_nil | refine subl_cons rfl ?_)) (loop (xs.length + 1) _ _ _ w10 (by simp) (fun i hi => ?_) (by omega) (by omega) (fr_tr f2 f10))
      rw [if_neg (by omega), List.append_assoc]; rfl
    · exact absurd c13 (by decide)
def delP (xs : List Int32) (k : Nat) : List Int32 := xs.take k ++ xs.drop (k + 2)
theorem delP_len {xs : List Int32} {k : Nat} (hk : k + 2 ≤ xs.length) : (delP xs k).length = xs.length - 2 := by simp [delP]; omega
theorem delP_get {xs : List Int32} {k i : Nat} (hk : k + 2 ≤ xs.length) : (delP xs k).getD i 0 = if i < k then xs.getD i 0 else xs.getD (i + 2) 0 := by
  unfold delP
  rw [getD_app, List.length_take, Nat.min_eq_left (by omega), getD_take, getD_drop]
  by_cases h1 : i < k
  · simp only [h1, if_true]
  · simp only [h1, if_false]
    congr 1
    omega
set_option maxRecDepth 20000 in
theorem sp_X5_removePair {G : GG} {h : HP} {r cap : Nat} {xs : List Int32} (w : isRow G h r cap xs) {k : Nat} (hk : k + 2 ≤ xs.length) (n : Nat) : Sp G mm_X5_removePair 1 0 0 [.ref r, .int (nI k)] h n (fun v h' _ => v = none ∧ isRow G h' r cap (delP xs k) ∧ fr r (r + 2) h h') := by
  refine Sp_of (by decide +kernel) (Nat.le_of_ble_eq_true rfl) ?_
  have hle := w.le
  have loop : ∀ (j c : Nat) (hh : HP) (n1 : Nat) (L : List Int32), xs.length - c = j → isRow G hh r cap L → L.length = xs.length → (∀ i, i < xs.length → L.getD i 0 = if k ≤ i ∧ i < c then xs.getD (i + 2) 0 else xs.getD i 0) → k ≤ c → c + 2 ≤ xs.length → fr r (r + 2) h hh → J (g0 G) mm_X5_removePair 1 2 [(0, .ref r), (1, .int (nI k)), (2, .int (nI c))] [] hh n1 0 0 (RT mm_X5_removePair (fun v h' _ => v = none ∧ isRow G h' r cap (delP xs k) ∧ fr r (r + 2) h h')) := by
    intro j
    induction j using Nat.strongRecOn with
    | _ j ih =>
      intro c hh n1 L hj wr hL hg h1 h2 hf
      obtain ⟨f, g1, g2, g3, g4, g5⟩ := id wr
      refine J_iload_n dX5_removePair_2 (by rfl) ?_
      refine J_iconst (v := 2) dX5_removePair_3 (by decide) ?_
      refine J_iadd dX5_removePair_4 ?_
      refine J_aload_n dX5_removePair_5 (by rfl) ?_
      refine J_get fg_X5_13 dX5_removePair_6 (by first | assumption | exact isRow.ob (by assumption) | exact hset_s | exact (hset_n (by first | assumption | omega)).trans (by first | assumption | exact isRow.ob (by assumption) | exact hset_s | exact (hset_n (by first | assumption | omega)).trans (by first | assumption | exact isRow.ob (by assumption) | exact hset_s | exact (hset_n (by first | assumption | omega)).trans (by first | assumption | exact isRow.ob (by assumption))))) (by rfl) ?_
      rw [show nI c + 2 = nI (c + 2) from nI_add c 2]
      refine J_icmp_ge (tgt := 30) dX5_removePair_9 (by decide) (fun c9 => ?_) (fun c9 => ?_)
      · rw [nI_leI (by omega) (by omega)] at c9
        refine J_aload_n dX5_removePair_30 (by rfl) ?_
        refine J_aload_n dX5_removePair_31 (by rfl) ?_
        refine J_get fg_X5_13 dX5_removePair_32 (by first | assumption | exact isRow.ob (by assumption) | exact hset_s | exact (hset_n (by first | assumption | omega)).trans (by first | assumption | exact isRow.ob (by assumption) | exact hset_s | exact (hset_n (by first | assumption | omega)).trans (by first | assumption | exact isRow.ob (by assumption) | exact hset_s | exact (hset_n (by first | assumption | omega)).trans (by first | assumption | exact isRow.ob (by assumption))))) (by rfl) ?_
        refine J_iconst (v := 2) dX5_removePair_35 (by decide) ?_
        have e36 : (2 : Int32) ≤ nI L.length := (nI_leI (a := 2) (by omega) (by omega)).mpr (by omega)
        refine J_icmp_ge (tgt := 43) dX5_removePair_36 (by decide) (fun c36 => ?_) (fun c36 => ?_)
        · refine J_aload_n dX5_removePair_43 (by rfl) ?_
          refine J_get fg_X5_13 dX5_removePair_44 (by first | assumption | exact isRow.ob (by assumption) | exact hset_s | exact (hset_n (by first | assumption | omega)).trans (by first | assumption | exact isRow.ob (by assumption) | exact hset_s | exact (hset_n (by first | assumption | omega)).trans (by first | assumption | exact isRow.ob (by assumption) | exact hset_s | exact (hset_n (by first | assumption | omega)).trans (by first | assumption | exact isRow.ob (by assumption))))) (by rfl) ?_
          refine J_iconst (v := 2) dX5_removePair_47 (by decide) ?_
          refine J_isub dX5_removePair_48 ?_
          rw [show nI L.length - 2 = nI (L.length - 2) from pk_sub (a := L.length) (b := 2) (by omega)]
          refine J_put fp_X5_13 dX5_removePair_49 (by first | assumption | exact isRow.ob (by assumption) | exact hset_s | exact (hset_n (by first | assumption | omega)).trans (by first | assumption | exact isRow.ob (by assumption) | exact hset_s | exact (hset_n (by first | assumption | omega)).trans (by first | assumption | exact isRow.ob (by assumption) | exact hset_s | exact (hset_n (by first | assumption | omega)).trans (by first | assumption | exact isRow.ob (by assumption))))) (Nat.le_of_ble_eq_true rfl) (by rfl) (by rfl) ?_
          exact J_return dX5_removePair_52 rfl (⟨rfl, ⟨f, hset_s.trans (by rw [delP_len hk, hL]; rfl), (hset_n (by omega)).trans g2, by rw [delP_len hk]; omega, g4, fun i hi => by
            rw [delP_len hk] at hi
            rw [g5 i (by omega), hg i (by omega), delP_get hk]
            by_cases e : i < k
            · rw [if_pos e, if_neg (by omega)]
            · rw [if_neg e, if_pos (by omega)]⟩, fr_tr hf (fr_set (by omega) (by omega))⟩)
        · exact absurd e36 c36
      · rw [nI_leI (by omega) (by omega)] at c9
        refine J_aload_n dX5_removePair_12 (by rfl) ?_
        refine J_iload_n dX5_removePair_13 (by rfl) ?_
        refine J_aload_n dX5_removePair_14 (by rfl) ?_
        refine J_iload_n dX5_removePair_15 (by rfl) ?_
        refine J_iconst (v := 2) dX5_removePair_16 (by decide) ?_
        refine J_iadd dX5_removePair_17 ?_
        rw [show nI c + 2 = nI (c + 2) from nI_add c 2]
        refine J_callV mf_X5_at lk_X5_17 mi_X5_at mv_X5_at (sp_X5_at wr (k := c + 2) (by omega) _) dX5_removePair_18 (by first | assumption | exact isRow.ob (by assumption) | exact hset_s | exact (hset_n (by first | assumption | omega)).trans (by first | assumption | exact isRow.ob (by assumption) | exact hset_s | exact (hset_n (by first | assumption | omega)).trans (by first | assumption | exact isRow.ob (by assumption) | exact hset_s | exact (hset_n (by first | assumption | omega)).trans (by first | assumption | exact isRow.ob (by assumption))))) rfl rfl (by decide) (by rfl) rfl (Nat.le_of_ble_eq_true rfl) (Nat.zero_add _) (Nat.zero_add _) (fun v18 h18 n18 q18 => ?_)
        obtain ⟨rfl, rfl⟩ := q18
        refine J_callV mf_X5_put lk_X5_32 mi_X5_put mv_X5_put (sp_X5_put wr (k := c) (by omega) (L.getD (c + 2) 0) _) dX5_removePair_21 (by first | assumption | exact isRow.ob (by assumption) | exact hset_s | exact (hset_n (by first | assumption | omega)).trans (by first | assumption | exact isRow.ob (by assumption) | exact hset_s | exact (hset_n (by first | assumption | omega)).trans (by first | assumption | exact isRow.ob (by assumption) | exact hset_s | exact (hset_n (by first | assumption | omega)).trans (by first | assumption | exact isRow.ob (by assumption))))) rfl rfl (by decide) (by rfl) rfl (Nat.le_of_ble_eq_true rfl) (Nat.zero_add _) (Nat.zero_add _) (fun v21 h21 n21 q21 => ?_)
        obtain ⟨rfl, w21, f21⟩ := q21
        refine J_iincN dX5_removePair_24 (by rfl) (by decide) (by rfl) ?_
        refine J_goto (tgt := 2) dX5_removePair_27 (by decide) ?_
        refine J_sub (by repeat (first | exact subl_nil | refine subl_cons rfl ?_)) (ih (xs.length - (c + 1)) (by omega) (c + 1) _ _ _ rfl w21 (by rw [List.length_set]; exact hL) (fun i hi => ?_) (by omega) (by omega) (fr_tr hf f21))
        rw [getD_set (by omega)]
        by_cases e : i = c
        · subst e
          rw [if_pos rfl, if_pos (by omega), hg _ (by omega), if_neg (by omega)]
        · rw [if_neg e, hg i hi]
          by_cases e2 : k ≤ i ∧ i < c
          · rw [if_pos e2, if_pos (by omega)]
          · rw [if_neg e2, if_neg (by omega)]
  refine J_iload_n dX5_removePair_0 (by rfl) ?_
  refine J_istore_n dX5_removePair_1 (by decide) (by rfl) ?_
  exact J_sub (by repeat (first | exact subl_nil | refine subl_cons rfl ?_)) (loop _ k h n xs rfl w rfl (fun i hi => by rw [if_neg (by omega)]) (by omega) hk fr_rf)
set_option maxRecDepth 20000 in
theorem sp_X5_empty2 {G : GG} {h : HP} {r : Nat} {v0 v1 : Value} (h1 : h r = some (.inr (4, [v0, v1]))) (n : Nat) : Sp G mm_X5_empty 0 0 0 [.ref r] h n (fun v h' _ => v = none ∧ h' = hset h r (.inr (4, [v0, .int 0]))) := by
  refine Sp_of (by decide +kernel) (Nat.le_of_ble_eq_true rfl) ?_
  refine J_aload_n dX5_empty_0 (by rfl) ?_
  refine J_iconst (v := 0) dX5_empty_1 (by decide) ?_
  refine J_put fp_X5_13 dX5_empty_2 (by first | assumption | exact isRow.ob (by assumption) | exact hset_s | exact (hset_n (by first | assumption | omega)).trans (by first | assumption | exact isRow.ob (by assumption) | exact hset_s | exact (hset_n (by first | assumption | omega)).trans (by first | assumption | exact isRow.ob (by assumption) | exact hset_s | exact (hset_n (by first | assumption | omega)).trans (by first | assumption | exact isRow.ob (by assumption))))) (Nat.le_of_ble_eq_true rfl) (by rfl) (by rfl) ?_
  exact J_return dX5_empty_5 rfl (⟨rfl, rfl⟩)
set_option maxRecDepth 20000 in
theorem sp_X5_add2 {G : GG} {h : HP} {r cap : Nat} {f : Nat → Int32} {c : Nat} (h1 : h r = some (.inr (4, [.ref (r + 1), .int (nI c)]))) (h2 : h (r + 1) = some (.inl (G.2.1 0, cap, .inl f))) (hc : c < cap) (hcap : cap < 1000) (x : Int32) (n : Nat) : Sp G mm_X5_add 0 0 0 [.ref r, .int x] h n (fun v h' _ => v = some (.int 1) ∧ h' = hset (hset h (r + 1) (.inl (G.2.1 0, cap, .inl (upd f c x)))) r (.inr (4, [.ref (r + 1), .int (nI (c + 1))]))) := by
  refine Sp_of (by decide +kernel) (Nat.le_of_ble_eq_true rfl) ?_
  refine J_aload_n dX5_add_0 (by rfl) ?_
  refine J_get fg_X5_13 dX5_add_1 (by first | assumption | exact isRow.ob (by assumption) | exact hset_s | exact (hset_n (by first | assumption | omega)).trans (by first | assumption | exact isRow.ob (by assumption) | exact hset_s | exact (hset_n (by first | assumption | omega)).trans (by first | assumption | exact isRow.ob (by assumption) | exact hset_s | exact (hset_n (by first | assumption | omega)).trans (by first | assumption | exact isRow.ob (by assumption))))) (by rfl) ?_
  refine J_if_lt (tgt := 19) dX5_add_4 (by decide) (fun c4 => ?_) (fun c4 => ?_)
  · exact absurd c4 (nI_pos (by omega))
  · refine J_aload_n dX5_add_7 (by rfl) ?_
    refine J_get fg_X5_13 dX5_add_8 (by first | assumption | exact isRow.ob (by assumption) | exact hset_s | exact (hset_n (by first | assumption | omega)).trans (by first | assumption | exact isRow.ob (by assumption) | exact hset_s | exact (hset_n (by first | assumption | omega)).trans (by first | assumption | exact isRow.ob (by assumption) | exact hset_s | exact (hset_n (by first | assumption | omega)).trans (by first | assumption | exact isRow.ob (by assumption))))) (by rfl) ?_
    refine J_aload_n dX5_add_11 (by rfl) ?_
    refine J_get fg_X5_7 dX5_add_12 (by first | assumption | exact isRow.ob (by assumption) | exact hset_s | exact (hset_n (by first | assumption | omega)).trans (by first | assumption | exact isRow.ob (by assumption) | exact hset_s | exact (hset_n (by first | assumption | omega)).trans (by first | assumption | exact isRow.ob (by assumption) | exact hset_s | exact (hset_n (by first | assumption | omega)).trans (by first | assumption | exact isRow.ob (by assumption))))) (by rfl) ?_
    refine J_alen (t := 0) (by decide) dX5_add_15 (by first | assumption | exact isRow.ob (by assumption) | exact hset_s | exact (hset_n (by first | assumption | omega)).trans (by first | assumption | exact isRow.ob (by assumption) | exact hset_s | exact (hset_n (by first | assumption | omega)).trans (by first | assumption | exact isRow.ob (by assumption) | exact hset_s | exact (hset_n (by first | assumption | omega)).trans (by first | assumption | exact isRow.ob (by assumption))))) ?_
    refine J_icmp_lt (tgt := 21) dX5_add_16 (by decide) (fun c16 => ?_) (fun c16 => ?_)
    · refine J_aload_n dX5_add_21 (by rfl) ?_
      refine J_get fg_X5_7 dX5_add_22 (by first | assumption | exact isRow.ob (by assumption) | exact hset_s | exact (hset_n (by first | assumption | omega)).trans (by first | assumption | exact isRow.ob (by assumption) | exact hset_s | exact (hset_n (by first | assumption | omega)).trans (by first | assumption | exact isRow.ob (by assumption) | exact hset_s | exact (hset_n (by first | assumption | omega)).trans (by first | assumption | exact isRow.ob (by assumption))))) (by rfl) ?_
      refine J_aload_n dX5_add_25 (by rfl) ?_
      refine J_get fg_X5_13 dX5_add_26 (by first | assumption | exact isRow.ob (by assumption) | exact hset_s | exact (hset_n (by first | assumption | omega)).trans (by first | assumption | exact isRow.ob (by assumption) | exact hset_s | exact (hset_n (by first | assumption | omega)).trans (by first | assumption | exact isRow.ob (by assumption) | exact hset_s | exact (hset_n (by first | assumption | omega)).trans (by first | assumption | exact isRow.ob (by assumption))))) (by rfl) ?_
      refine J_iload_n dX5_add_29 (by rfl) ?_
      refine J_iast dX5_add_30 (by first | assumption | exact isRow.ob (by assumption) | exact hset_s | exact (hset_n (by first | assumption | omega)).trans (by first | assumption | exact isRow.ob (by assumption) | exact hset_s | exact (hset_n (by first | assumption | omega)).trans (by first | assumption | exact isRow.ob (by assumption) | exact hset_s | exact (hset_n (by first | assumption | omega)).trans (by first | assumption | exact isRow.ob (by assumption))))) (vp_in_nI hc (by omega)) ?_
      refine J_aload_n dX5_add_31 (by rfl) ?_
      refine J_dup dX5_add_32 rfl ?_
      refine J_get fg_X5_13 dX5_add_33 (by first | assumption | exact isRow.ob (by assumption) | exact hset_s | exact (hset_n (by first | assumption | omega)).trans (by first | assumption | exact isRow.ob (by assumption) | exact hset_s | exact (hset_n (by first | assumption | omega)).trans (by first | assumption | exact isRow.ob (by assumption) | exact hset_s | exact (hset_n (by first | assumption | omega)).trans (by first | assumption | exact isRow.ob (by assumption))))) (by rfl) ?_
      refine J_iconst (v := 1) dX5_add_36 (by decide) ?_
      refine J_iadd dX5_add_37 ?_
      refine J_put fp_X5_13 dX5_add_38 (by first | assumption | exact isRow.ob (by assumption) | exact hset_s | exact (hset_n (by first | assumption | omega)).trans (by first | assumption | exact isRow.ob (by assumption) | exact hset_s | exact (hset_n (by first | assumption | omega)).trans (by first | assumption | exact isRow.ob (by assumption) | exact hset_s | exact (hset_n (by first | assumption | omega)).trans (by first | assumption | exact isRow.ob (by assumption))))) (Nat.le_of_ble_eq_true rfl) (by rfl) (by rfl) ?_
      refine J_iconst (v := 1) dX5_add_41 (by decide) ?_
      exact J_ireturn dX5_add_42 rfl (by rfl) (⟨rfl, by rw [nI_clamp (by omega), ← nI_1]; rfl⟩)
    · exact absurd ((nI_ltI (b := cap) (by omega) (by omega)).mpr hc) c16
def cst (a : List Int32) (x : Int32) : List Int32 := if 0 < a.length ∧ a.getD (a.length - 1) 0 = -x then a.take (a.length - 1) else a ++ [x]
def red (xs : List Int32) : List Int32 := xs.foldl cst []
theorem red_take {xs : List Int32} {k : Nat} (h : k < xs.length) : red (xs.take (k + 1)) = cst (red (xs.take k)) (xs.getD k 0) := by
  rw [take_get h, red, List.foldl_append]; rfl
theorem cst_len (a : List Int32) (x : Int32) : (cst a x).length ≤ a.length + 1 := by
  unfold cst
  split
  · simp; omega
  · simp
theorem red_len (xs : List Int32) : ∀ k, (red (xs.take k)).length ≤ k := by
  intro k
  induction k with
  | zero => simp [red]
  | succ k ih =>
    rcases Nat.lt_or_ge k xs.length with q | q
    · rw [red_take q]
      have := cst_len (red (xs.take k)) (xs.getD k 0)
      omega
    · rw [List.take_of_length_le (by omega)]
      rw [List.take_of_length_le q] at ih
      omega
set_option maxRecDepth 20000 in
theorem sp_X5_cancelAll {G : GG} {h : HP} {r cap : Nat} {xs : List Int32} (w : isRow G h r cap xs) (n : Nat) : Sp G mm_X5_cancelAll 1 0 0 [.ref r] h n (fun v h' _ => v = some (.int (nI (xs.length - (red xs).length))) ∧ isRow G h' r cap (red xs) ∧ fr r (r + 2) h h') := by
  refine Sp_of (by decide +kernel) (Nat.le_of_ble_eq_true rfl) ?_
  have hle := w.le
  have loop : ∀ (j p : Nat) (hh : HP) (n1 : Nat) (f : Nat → Int32), xs.length - p = j → p ≤ xs.length → hh r = some (.inr (4, [.ref (r + 1), .int (nI (red (xs.take p)).length)])) → hh (r + 1) = some (.inl (G.2.1 0, cap, .inl f)) → (∀ i, i < (red (xs.take p)).length → f i = (red (xs.take p)).getD i 0) → (∀ i, p ≤ i → i < xs.length → f i = xs.getD i 0) → fr r (r + 2) h hh → J (g0 G) mm_X5_cancelAll 1 11 [(0, .ref r), (1, .int (nI xs.length)), (2, .int (nI p))] [] hh n1 0 0 (RT mm_X5_cancelAll (fun v h' _ => v = some (.int (nI (xs.length - (red xs).length))) ∧ isRow G h' r cap (red xs) ∧ fr r (r + 2) h h')) := by
    intro j
    induction j using Nat.strongRecOn with
    | _ j ih =>
      intro p hh n1 f hj hp g1 g2 g3 g4 hf
      have hr := red_len xs p
      have wr : isRow G hh r cap (red (xs.take p)) := ⟨f, g1, g2, by omega, by omega, g3⟩
      refine J_iload_n dX5_cancelAll_11 (by rfl) ?_
      refine J_iload_n dX5_cancelAll_12 (by rfl) ?_
      refine J_icmp_ge (tgt := 79) dX5_cancelAll_13 (by decide) (fun c13 => ?_) (fun c13 => ?_)
      · rw [nI_leI (by omega) (by omega)] at c13
        refine J_iload_n dX5_cancelAll_79 (by rfl) ?_
        refine J_aload_n dX5_cancelAll_80 (by rfl) ?_
        refine J_get fg_X5_13 dX5_cancelAll_81 (by first | assumption | exact isRow.ob (by assumption) | exact hset_s | exact (hset_n (by first | assumption | omega)).trans (by first | assumption | exact isRow.ob (by assumption) | exact hset_s | exact (hset_n (by first | assumption | omega)).trans (by first | assumption | exact isRow.ob (by assumption) | exact hset_s | exact (hset_n (by first | assumption | omega)).trans (by first | assumption | exact isRow.ob (by assumption))))) (by rfl) ?_
        refine J_isub dX5_cancelAll_84 ?_
        exact J_ireturn dX5_cancelAll_85 rfl (by rfl) (⟨by rw [pk_sub (by rw [List.take_of_length_le (by omega)] at hr ⊢; have := red_len xs xs.length; rw [List.take_length] at this; exact this), List.take_of_length_le (by omega)], by rw [List.take_of_length_le (by omega)] at wr; exact wr, hf⟩)
      · rw [nI_leI (by omega) (by omega)] at c13
        refine J_iload_n dX5_cancelAll_16 (by rfl) ?_
        refine J_aload_n dX5_cancelAll_17 (by rfl) ?_
        refine J_get fg_X5_7 dX5_cancelAll_18 (by first | assumption | exact isRow.ob (by assumption) | exact hset_s | exact (hset_n (by first | assumption | omega)).trans (by first | assumption | exact isRow.ob (by assumption) | exact hset_s | exact (hset_n (by first | assumption | omega)).trans (by first | assumption | exact isRow.ob (by assumption) | exact hset_s | exact (hset_n (by first | assumption | omega)).trans (by first | assumption | exact isRow.ob (by assumption))))) (by rfl) ?_
        refine J_alen (t := 0) (by decide) dX5_cancelAll_21 (by first | assumption | exact isRow.ob (by assumption) | exact hset_s | exact (hset_n (by first | assumption | omega)).trans (by first | assumption | exact isRow.ob (by assumption) | exact hset_s | exact (hset_n (by first | assumption | omega)).trans (by first | assumption | exact isRow.ob (by assumption) | exact hset_s | exact (hset_n (by first | assumption | omega)).trans (by first | assumption | exact isRow.ob (by assumption))))) ?_
        refine J_icmp_ge (tgt := 79) dX5_cancelAll_22 (by decide) (fun c22 => ?_) (fun c22 => ?_)
        · exact absurd ((nI_leI (a := cap) (by omega) (by omega)).mp c22) (by omega)
        · refine J_aload_n dX5_cancelAll_25 (by rfl) ?_
          refine J_get fg_X5_7 dX5_cancelAll_26 (by first | assumption | exact isRow.ob (by assumption) | exact hset_s | exact (hset_n (by first | assumption | omega)).trans (by first | assumption | exact isRow.ob (by assumption) | exact hset_s | exact (hset_n (by first | assumption | omega)).trans (by first | assumption | exact isRow.ob (by assumption) | exact hset_s | exact (hset_n (by first | assumption | omega)).trans (by first | assumption | exact isRow.ob (by assumption))))) (by rfl) ?_
          refine J_iload_n dX5_cancelAll_29 (by rfl) ?_
          refine J_iald dX5_cancelAll_30 (by first | assumption | exact isRow.ob (by assumption) | exact hset_s | exact (hset_n (by first | assumption | omega)).trans (by first | assumption | exact isRow.ob (by assumption) | exact hset_s | exact (hset_n (by first | assumption | omega)).trans (by first | assumption | exact isRow.ob (by assumption) | exact hset_s | exact (hset_n (by first | assumption | omega)).trans (by first | assumption | exact isRow.ob (by assumption))))) (vp_in_nI (by omega) (by omega)) ?_
          rw [nI_clamp (by omega), g4 p (by omega) (by omega)]
          refine J_istore_n dX5_cancelAll_31 (by decide) (by rfl) ?_
          refine J_aload_n dX5_cancelAll_32 (by rfl) ?_
          refine J_get fg_X5_13 dX5_cancelAll_33 (by first | assumption | exact isRow.ob (by assumption) | exact hset_s | exact (hset_n (by first | assumption | omega)).trans (by first | assumption | exact isRow.ob (by assumption) | exact hset_s | exact (hset_n (by first | assumption | omega)).trans (by first | assumption | exact isRow.ob (by assumption) | exact hset_s | exact (hset_n (by first | assumption | omega)).trans (by first | assumption | exact isRow.ob (by assumption))))) (by rfl) ?_
          refine J_if_le (tgt := 67) dX5_cancelAll_36 (by decide) (fun c36 => ?_) (fun c36 => ?_)
          · have hcst : red (xs.take (p + 1)) = red (xs.take p) ++ [xs.getD p 0] := by
              rw [red_take (by omega), cst, if_neg]
              intro q
              first
                | exact c51 q.2
                | (have e0 := (nI_eq (b := 0) (by omega) (by omega)).mp (Int32.le_antisymm c36 (nI_zle (by omega))); omega)
            refine J_aload_n dX5_cancelAll_67 (by rfl) ?_
            refine J_iload_n dX5_cancelAll_68 (by rfl) ?_
            refine J_callV mf_X5_add lk_X5_21 mi_X5_add mv_X5_add (sp_X5_add2 g1 g2 (by omega) (by omega) (xs.getD p 0) _) dX5_cancelAll_69 (by first | assumption | exact isRow.ob (by assumption) | exact hset_s | exact (hset_n (by first | assumption | omega)).trans (by first | assumption | exact isRow.ob (by assumption) | exact hset_s | exact (hset_n (by first | assumption | omega)).trans (by first | assumption | exact isRow.ob (by assumption) | exact hset_s | exact (hset_n (by first | assumption | omega)).trans (by first | assumption | exact isRow.ob (by assumption))))) rfl rfl (by decide) (by rfl) rfl (Nat.le_of_ble_eq_true rfl) (Nat.zero_add _) (Nat.zero_add _) (fun v69 h69 n69 q69 => ?_)
            obtain ⟨rfl, rfl⟩ := q69
            refine J_pop dX5_cancelAll_72 rfl ?_
            refine J_iincN dX5_cancelAll_73 (by rfl) (by decide) (by rfl) ?_
            refine J_goto (tgt := 11) dX5_cancelAll_76 (by decide) ?_
            first
              | (have hcst2 : red (xs.take (p + 1)) = (red (xs.take p)).take ((red (xs.take p)).length - 1) := by rw [red_take (by omega), cst, if_pos ⟨e46, c51⟩]
                 have hl2 : (red (xs.take (p + 1))).length = (red (xs.take p)).length - 1 := by rw [hcst2, List.length_take]; omega
                 exact J_sub (by repeat (first | exact subl_nil | refine subl_cons rfl ?_)) (ih (xs.length - (p + 1)) (by omega) (p + 1) _ _ f rfl (by omega) (hset_s.trans (by rw [hl2]; rfl)) ((hset_n (by omega)).trans g2) (fun i hi => by rw [hl2] at hi; rw [g3 i (by omega), hcst2, getD_take, if_pos (by omega)]) (fun i h1 h2 => g4 i (by omega) h2) (fr_tr hf (fr_set (by omega) (by omega)))))
              | (have hl2 : (red (xs.take (p + 1))).length = (red (xs.take p)).length + 1 := by rw [hcst, List.length_append]; rfl
                 exact J_sub (by repeat (first | exact subl_nil | refine subl_cons rfl ?_)) (ih (xs.length - (p + 1)) (by omega) (p + 1) _ _ (upd f (red (xs.take p)).length (xs.getD p 0)) rfl (by omega) (hset_s.trans (by rw [hl2])) ((hset_n (by omega)).trans hset_s) (fun i hi => by rw [hcst] at hi ⊢; exact row_push g3 _ i hi) (fun i h1 h2 => by rw [upd, if_neg (by omega)]; exact g4 i (by omega) h2) (fr_tr hf (fr_tr (fr_set (by omega) (by omega)) (fr_set (by omega) (by omega))))))
          · refine J_aload_n dX5_cancelAll_39 (by rfl) ?_
            refine J_aload_n dX5_cancelAll_40 (by rfl) ?_
            refine J_get fg_X5_13 dX5_cancelAll_41 (by first | assumption | exact isRow.ob (by assumption) | exact hset_s | exact (hset_n (by first | assumption | omega)).trans (by first | assumption | exact isRow.ob (by assumption) | exact hset_s | exact (hset_n (by first | assumption | omega)).trans (by first | assumption | exact isRow.ob (by assumption) | exact hset_s | exact (hset_n (by first | assumption | omega)).trans (by first | assumption | exact isRow.ob (by assumption))))) (by rfl) ?_
            refine J_iconst (v := 1) dX5_cancelAll_44 (by decide) ?_
            refine J_isub dX5_cancelAll_45 ?_
            have e46 : 0 < (red (xs.take p)).length := by
              rcases Nat.eq_zero_or_pos (red (xs.take p)).length with q | q
              · rw [q] at c36; exact absurd (by decide) c36
              · exact q
            rw [show nI (red (xs.take p)).length - 1 = nI ((red (xs.take p)).length - 1) from pk_sub (a := (red (xs.take p)).length) (b := 1) (by omega)]
            refine J_callV mf_X5_at lk_X5_17 mi_X5_at mv_X5_at (sp_X5_at wr (k := (red (xs.take p)).length - 1) (by omega) _) dX5_cancelAll_46 (by first | assumption | exact isRow.ob (by assumption) | exact hset_s | exact (hset_n (by first | assumption | omega)).trans (by first | assumption | exact isRow.ob (by assumption) | exact hset_s | exact (hset_n (by first | assumption | omega)).trans (by first | assumption | exact isRow.ob (by assumption) | exact hset_s | exact (hset_n (by first | assumption | omega)).trans (by first | assumption | exact isRow.ob (by assumption))))) rfl rfl (by decide) (by rfl) rfl (Nat.le_of_ble_eq_true rfl) (Nat.zero_add _) (Nat.zero_add _) (fun v46 h46 n46 q46 => ?_)
            obtain ⟨rfl, rfl⟩ := q46
            refine J_iload_n dX5_cancelAll_49 (by rfl) ?_
            refine J_ineg dX5_cancelAll_50 ?_
            refine J_icmp_ne (tgt := 67) dX5_cancelAll_51 (by decide) (fun c51 => ?_) (fun c51 => ?_)
            · have hcst : red (xs.take (p + 1)) = red (xs.take p) ++ [xs.getD p 0] := by
                rw [red_take (by omega), cst, if_neg]
                intro q
                first
                  | exact c51 q.2
                  | (have e0 := (nI_eq (b := 0) (by omega) (by omega)).mp (Int32.le_antisymm c36 (nI_zle (by omega))); omega)
              refine J_aload_n dX5_cancelAll_67 (by rfl) ?_
              refine J_iload_n dX5_cancelAll_68 (by rfl) ?_
              refine J_callV mf_X5_add lk_X5_21 mi_X5_add mv_X5_add (sp_X5_add2 g1 g2 (by omega) (by omega) (xs.getD p 0) _) dX5_cancelAll_69 (by first | assumption | exact isRow.ob (by assumption) | exact hset_s | exact (hset_n (by first | assumption | omega)).trans (by first | assumption | exact isRow.ob (by assumption) | exact hset_s | exact (hset_n (by first | assumption | omega)).trans (by first | assumption | exact isRow.ob (by assumption) | exact hset_s | exact (hset_n (by first | assumption | omega)).trans (by first | assumption | exact isRow.ob (by assumption))))) rfl rfl (by decide) (by rfl) rfl (Nat.le_of_ble_eq_true rfl) (Nat.zero_add _) (Nat.zero_add _) (fun v69 h69 n69 q69 => ?_)
              obtain ⟨rfl, rfl⟩ := q69
              refine J_pop dX5_cancelAll_72 rfl ?_
              refine J_iincN dX5_cancelAll_73 (by rfl) (by decide) (by rfl) ?_
              refine J_goto (tgt := 11) dX5_cancelAll_76 (by decide) ?_
              first
                | (have hcst2 : red (xs.take (p + 1)) = (red (xs.take p)).take ((red (xs.take p)).length - 1) := by rw [red_take (by omega), cst, if_pos ⟨e46, c51⟩]
                   have hl2 : (red (xs.take (p + 1))).length = (red (xs.take p)).length - 1 := by rw [hcst2, List.length_take]; omega
                   exact J_sub (by repeat (first | exact subl_nil | refine subl_cons rfl ?_)) (ih (xs.length - (p + 1)) (by omega) (p + 1) _ _ f rfl (by omega) (hset_s.trans (by rw [hl2]; rfl)) ((hset_n (by omega)).trans g2) (fun i hi => by rw [hl2] at hi; rw [g3 i (by omega), hcst2, getD_take, if_pos (by omega)]) (fun i h1 h2 => g4 i (by omega) h2) (fr_tr hf (fr_set (by omega) (by omega)))))
                | (have hl2 : (red (xs.take (p + 1))).length = (red (xs.take p)).length + 1 := by rw [hcst, List.length_append]; rfl
                   exact J_sub (by repeat (first | exact subl_nil | refine subl_cons rfl ?_)) (ih (xs.length - (p + 1)) (by omega) (p + 1) _ _ (upd f (red (xs.take p)).length (xs.getD p 0)) rfl (by omega) (hset_s.trans (by rw [hl2])) ((hset_n (by omega)).trans hset_s) (fun i hi => by rw [hcst] at hi ⊢; exact row_push g3 _ i hi) (fun i h1 h2 => by rw [upd, if_neg (by omega)]; exact g4 i (by omega) h2) (fr_tr hf (fr_tr (fr_set (by omega) (by omega)) (fr_set (by omega) (by omega))))))
            · refine J_aload_n dX5_cancelAll_54 (by rfl) ?_
              refine J_dup dX5_cancelAll_55 rfl ?_
              refine J_get fg_X5_13 dX5_cancelAll_56 (by first | assumption | exact isRow.ob (by assumption) | exact hset_s | exact (hset_n (by first | assumption | omega)).trans (by first | assumption | exact isRow.ob (by assumption) | exact hset_s | exact (hset_n (by first | assumption | omega)).trans (by first | assumption | exact isRow.ob (by assumption) | exact hset_s | exact (hset_n (by first | assumption | omega)).trans (by first | assumption | exact isRow.ob (by assumption))))) (by rfl) ?_
              refine J_iconst (v := 1) dX5_cancelAll_59 (by decide) ?_
              refine J_isub dX5_cancelAll_60 ?_
              rw [show nI (red (xs.take p)).length - 1 = nI ((red (xs.take p)).length - 1) from pk_sub (a := (red (xs.take p)).length) (b := 1) (by omega)]
              refine J_put fp_X5_13 dX5_cancelAll_61 (by first | assumption | exact isRow.ob (by assumption) | exact hset_s | exact (hset_n (by first | assumption | omega)).trans (by first | assumption | exact isRow.ob (by assumption) | exact hset_s | exact (hset_n (by first | assumption | omega)).trans (by first | assumption | exact isRow.ob (by assumption) | exact hset_s | exact (hset_n (by first | assumption | omega)).trans (by first | assumption | exact isRow.ob (by assumption))))) (Nat.le_of_ble_eq_true rfl) (by rfl) (by rfl) ?_
              refine J_goto (tgt := 73) dX5_cancelAll_64 (by decide) ?_
              refine J_iincN dX5_cancelAll_73 (by rfl) (by decide) (by rfl) ?_
              refine J_goto (tgt := 11) dX5_cancelAll_76 (by decide) ?_
              first
                | (have hcst2 : red (xs.take (p + 1)) = (red (xs.take p)).take ((red (xs.take p)).length - 1) := by rw [red_take (by omega), cst, if_pos ⟨e46, c51⟩]
                   have hl2 : (red (xs.take (p + 1))).length = (red (xs.take p)).length - 1 := by rw [hcst2, List.length_take]; omega
                   exact J_sub (by repeat (first | exact subl_nil | refine subl_cons rfl ?_)) (ih (xs.length - (p + 1)) (by omega) (p + 1) _ _ f rfl (by omega) (hset_s.trans (by rw [hl2]; rfl)) ((hset_n (by omega)).trans g2) (fun i hi => by rw [hl2] at hi; rw [g3 i (by omega), hcst2, getD_take, if_pos (by omega)]) (fun i h1 h2 => g4 i (by omega) h2) (fr_tr hf (fr_set (by omega) (by omega)))))
                | (have hl2 : (red (xs.take (p + 1))).length = (red (xs.take p)).length + 1 := by rw [hcst, List.length_append]; rfl
                   exact J_sub (by repeat (first | exact subl_nil | refine subl_cons rfl ?_)) (ih (xs.length - (p + 1)) (by omega) (p + 1) _ _ (upd f (red (xs.take p)).length (xs.getD p 0)) rfl (by omega) (hset_s.trans (by rw [hl2])) ((hset_n (by omega)).trans hset_s) (fun i hi => by rw [hcst] at hi ⊢; exact row_push g3 _ i hi) (fun i h1 h2 => by rw [upd, if_neg (by omega)]; exact g4 i (by omega) h2) (fr_tr hf (fr_tr (fr_set (by omega) (by omega)) (fr_set (by omega) (by omega))))))
  obtain ⟨f, h1, h2, h3, h4, h5⟩ := id w
  refine J_aload_n dX5_cancelAll_0 (by rfl) ?_
  refine J_get fg_X5_13 dX5_cancelAll_1 (by first | assumption | exact isRow.ob (by assumption) | exact hset_s | exact (hset_n (by first | assumption | omega)).trans (by first | assumption | exact isRow.ob (by assumption) | exact hset_s | exact (hset_n (by first | assumption | omega)).trans (by first | assumption | exact isRow.ob (by assumption) | exact hset_s | exact (hset_n (by first | assumption | omega)).trans (by first | assumption | exact isRow.ob (by assumption))))) (by rfl) ?_
  refine J_istore_n dX5_cancelAll_4 (by decide) (by rfl) ?_
  refine J_aload_n dX5_cancelAll_5 (by rfl) ?_
  refine J_callV mf_X5_empty lk_X5_25 mi_X5_empty mv_X5_empty (sp_X5_empty2 h1 n) dX5_cancelAll_6 (by first | assumption | exact isRow.ob (by assumption) | exact hset_s | exact (hset_n (by first | assumption | omega)).trans (by first | assumption | exact isRow.ob (by assumption) | exact hset_s | exact (hset_n (by first | assumption | omega)).trans (by first | assumption | exact isRow.ob (by assumption) | exact hset_s | exact (hset_n (by first | assumption | omega)).trans (by first | assumption | exact isRow.ob (by assumption))))) rfl rfl (by decide) (by rfl) rfl (Nat.le_of_ble_eq_true rfl) (Nat.zero_add _) (Nat.zero_add _) (fun v6 h6 n6 q6 => ?_)
  obtain ⟨rfl, rfl⟩ := q6
  refine J_iconst (v := 0) dX5_cancelAll_9 (by decide) ?_
  refine J_istore_n dX5_cancelAll_10 (by decide) (by rfl) ?_
  exact J_sub (by repeat (first | exact subl_nil | refine subl_cons rfl ?_)) (loop _ 0 _ _ f rfl (by omega) (hset_s.trans rfl) ((hset_n (by omega)).trans h2) (fun i hi => absurd hi (by simp [red])) (fun i _ hi => h5 i hi) (fr_set (by omega) (by omega)))
