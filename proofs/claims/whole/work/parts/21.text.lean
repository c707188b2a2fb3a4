/-! the buffer -/
def isTxt (G : GG) (h : HP) (a : Nat) (cs : List Int32) : Prop := ∃ f : Nat → Int32, h a = some (.inr (6, [.ref (a + 1), .int (nI cs.length)])) ∧ h (a + 1) = some (.inl (G.2.1 0, 60, .inl f)) ∧ cs.length ≤ 60 ∧ ∀ k, k < cs.length → f k = cs.getD k 0
theorem isTxt.ob {G : GG} {h : HP} {a : Nat} {cs : List Int32} (w : isTxt G h a cs) : h a = some (.inr (6, [.ref (a + 1), .int (nI cs.length)])) := by
  obtain ⟨f, h1, -⟩ := w
  exact h1
theorem isTxt.fr {G : GG} {h h' : HP} {a lo hi : Nat} {cs : List Int32} (w : isTxt G h a cs) (k : fr lo hi h h') (hd : a + 2 ≤ lo ∨ hi ≤ a) : isTxt G h' a cs := by
  obtain ⟨f, h1, h2, h3⟩ := w
  exact ⟨f, (k _ (by omega)).trans h1, (k _ (by omega)).trans h2, h3⟩
theorem isTxt.le {G : GG} {h : HP} {a : Nat} {cs : List Int32} (w : isTxt G h a cs) : cs.length ≤ 60 := by
  obtain ⟨f, h1, h2, h3, -⟩ := w
  exact h3
set_option maxRecDepth 20000 in
theorem sp_X7_add {G : GG} {h : HP} {a : Nat} {cs : List Int32} (w : isTxt G h a cs) (hc : cs.length < 60) (x : Int32) (n : Nat) : Sp G mm_X7_add 0 0 0 [.ref a, .int x] h n (fun v h' _ => v = none ∧ isTxt G h' a (cs ++ [x]) ∧ fr a (a + 2) h h') := by
  refine Sp_of (by decide +kernel) (Nat.le_of_ble_eq_true rfl) ?_
  obtain ⟨f, h1, h2, h3, h5⟩ := w
  refine J_aload_n dX7_add_0 (by rfl) ?_
  refine J_get fg_X7_15 dX7_add_1 (by first | assumption | exact isRow.ob (by assumption) | exact isHnd.ob (by assumption) | exact isUnt.ob (by assumption) | exact isSt.ob (by assumption) | exact isHist.ob (by assumption) | exact isTxt.ob (by assumption) | exact hset_s | exact (hset_n (by first | assumption | omega)).trans (by first | assumption | exact isRow.ob (by assumption) | exact isHnd.ob (by assumption) | exact isUnt.ob (by assumption) | exact isSt.ob (by assumption) | exact isHist.ob (by assumption) | exact isTxt.ob (by assumption) | exact hset_s | exact (hset_n (by first | assumption | omega)).trans (by first | assumption | exact isRow.ob (by assumption) | exact isHnd.ob (by assumption) | exact isUnt.ob (by assumption) | exact isSt.ob (by assumption) | exact isHist.ob (by assumption) | exact isTxt.ob (by assumption) | exact hset_s | exact (hset_n (by first | assumption | omega)).trans (by first | assumption | exact isRow.ob (by assumption) | exact isHnd.ob (by assumption) | exact isUnt.ob (by assumption) | exact isSt.ob (by assumption) | exact isHist.ob (by assumption) | exact isTxt.ob (by assumption))))) (by rfl) ?_
  refine J_if_lt (tgt := 39) dX7_add_4 (by decide) (fun c4 => ?_) (fun c4 => ?_)
  · exact absurd c4 (nI_pos (by omega))
  · refine J_aload_n dX7_add_7 (by rfl) ?_
    refine J_get fg_X7_15 dX7_add_8 (by first | assumption | exact isRow.ob (by assumption) | exact isHnd.ob (by assumption) | exact isUnt.ob (by assumption) | exact isSt.ob (by assumption) | exact isHist.ob (by assumption) | exact isTxt.ob (by assumption) | exact hset_s | exact (hset_n (by first | assumption | omega)).trans (by first | assumption | exact isRow.ob (by assumption) | exact isHnd.ob (by assumption) | exact isUnt.ob (by assumption) | exact isSt.ob (by assumption) | exact isHist.ob (by assumption) | exact isTxt.ob (by assumption) | exact hset_s | exact (hset_n (by first | assumption | omega)).trans (by first | assumption | exact isRow.ob (by assumption) | exact isHnd.ob (by assumption) | exact isUnt.ob (by assumption) | exact isSt.ob (by assumption) | exact isHist.ob (by assumption) | exact isTxt.ob (by assumption) | exact hset_s | exact (hset_n (by first | assumption | omega)).trans (by first | assumption | exact isRow.ob (by assumption) | exact isHnd.ob (by assumption) | exact isUnt.ob (by assumption) | exact isSt.ob (by assumption) | exact isHist.ob (by assumption) | exact isTxt.ob (by assumption))))) (by rfl) ?_
    refine J_aload_n dX7_add_11 (by rfl) ?_
    refine J_get fg_X7_9 dX7_add_12 (by first | assumption | exact isRow.ob (by assumption) | exact isHnd.ob (by assumption) | exact isUnt.ob (by assumption) | exact isSt.ob (by assumption) | exact isHist.ob (by assumption) | exact isTxt.ob (by assumption) | exact hset_s | exact (hset_n (by first | assumption | omega)).trans (by first | assumption | exact isRow.ob (by assumption) | exact isHnd.ob (by assumption) | exact isUnt.ob (by assumption) | exact isSt.ob (by assumption) | exact isHist.ob (by assumption) | exact isTxt.ob (by assumption) | exact hset_s | exact (hset_n (by first | assumption | omega)).trans (by first | assumption | exact isRow.ob (by assumption) | exact isHnd.ob (by assumption) | exact isUnt.ob (by assumption) | exact isSt.ob (by assumption) | exact isHist.ob (by assumption) | exact isTxt.ob (by assumption) | exact hset_s | exact (hset_n (by first | assumption | omega)).trans (by first | assumption | exact isRow.ob (by assumption) | exact isHnd.ob (by assumption) | exact isUnt.ob (by assumption) | exact isSt.ob (by assumption) | exact isHist.ob (by assumption) | exact isTxt.ob (by assumption))))) (by rfl) ?_
    refine J_alen (t := 0) (by decide) dX7_add_15 (by first | assumption | exact isRow.ob (by assumption) | exact isHnd.ob (by assumption) | exact isUnt.ob (by assumption) | exact isSt.ob (by assumption) | exact isHist.ob (by assumption) | exact isTxt.ob (by assumption) | exact hset_s | exact (hset_n (by first | assumption | omega)).trans (by first | assumption | exact isRow.ob (by assumption) | exact isHnd.ob (by assumption) | exact isUnt.ob (by assumption) | exact isSt.ob (by assumption) | exact isHist.ob (by assumption) | exact isTxt.ob (by assumption) | exact hset_s | exact (hset_n (by first | assumption | omega)).trans (by first | assumption | exact isRow.ob (by assumption) | exact isHnd.ob (by assumption) | exact isUnt.ob (by assumption) | exact isSt.ob (by assumption) | exact isHist.ob (by assumption) | exact isTxt.ob (by assumption) | exact hset_s | exact (hset_n (by first | assumption | omega)).trans (by first | assumption | exact isRow.ob (by assumption) | exact isHnd.ob (by assumption) | exact isUnt.ob (by assumption) | exact isSt.ob (by assumption) | exact isHist.ob (by assumption) | exact isTxt.ob (by assumption))))) ?_
    refine J_icmp_ge (tgt := 39) dX7_add_16 (by decide) (fun c16 => ?_) (fun c16 => ?_)
    · exact absurd ((nI_leI (a := 60) (by omega) (by omega)).mp c16) (by omega)
    · refine J_aload_n dX7_add_19 (by rfl) ?_
      refine J_get fg_X7_9 dX7_add_20 (by first | assumption | exact isRow.ob (by assumption) | exact isHnd.ob (by assumption) | exact isUnt.ob (by assumption) | exact isSt.ob (by assumption) | exact isHist.ob (by assumption) | exact isTxt.ob (by assumption) | exact hset_s | exact (hset_n (by first | assumption | omega)).trans (by first | assumption | exact isRow.ob (by assumption) | exact isHnd.ob (by assumption) | exact isUnt.ob (by assumption) | exact isSt.ob (by assumption) | exact isHist.ob (by assumption) | exact isTxt.ob (by assumption) | exact hset_s | exact (hset_n (by first | assumption | omega)).trans (by first | assumption | exact isRow.ob (by assumption) | exact isHnd.ob (by assumption) | exact isUnt.ob (by assumption) | exact isSt.ob (by assumption) | exact isHist.ob (by assumption) | exact isTxt.ob (by assumption) | exact hset_s | exact (hset_n (by first | assumption | omega)).trans (by first | assumption | exact isRow.ob (by assumption) | exact isHnd.ob (by assumption) | exact isUnt.ob (by assumption) | exact isSt.ob (by assumption) | exact isHist.ob (by assumption) | exact isTxt.ob (by assumption))))) (by rfl) ?_
      refine J_aload_n dX7_add_23 (by rfl) ?_
      refine J_get fg_X7_15 dX7_add_24 (by first | assumption | exact isRow.ob (by assumption) | exact isHnd.ob (by assumption) | exact isUnt.ob (by assumption) | exact isSt.ob (by assumption) | exact isHist.ob (by assumption) | exact isTxt.ob (by assumption) | exact hset_s | exact (hset_n (by first | assumption | omega)).trans (by first | assumption | exact isRow.ob (by assumption) | exact isHnd.ob (by assumption) | exact isUnt.ob (by assumption) | exact isSt.ob (by assumption) | exact isHist.ob (by assumption) | exact isTxt.ob (by assumption) | exact hset_s | exact (hset_n (by first | assumption | omega)).trans (by first | assumption | exact isRow.ob (by assumption) | exact isHnd.ob (by assumption) | exact isUnt.ob (by assumption) | exact isSt.ob (by assumption) | exact isHist.ob (by assumption) | exact isTxt.ob (by assumption) | exact hset_s | exact (hset_n (by first | assumption | omega)).trans (by first | assumption | exact isRow.ob (by assumption) | exact isHnd.ob (by assumption) | exact isUnt.ob (by assumption) | exact isSt.ob (by assumption) | exact isHist.ob (by assumption) | exact isTxt.ob (by assumption))))) (by rfl) ?_
      refine J_iload_n dX7_add_27 (by rfl) ?_
      refine J_iast dX7_add_28 (by first | assumption | exact isRow.ob (by assumption) | exact isHnd.ob (by assumption) | exact isUnt.ob (by assumption) | exact isSt.ob (by assumption) | exact isHist.ob (by assumption) | exact isTxt.ob (by assumption) | exact hset_s | exact (hset_n (by first | assumption | omega)).trans (by first | assumption | exact isRow.ob (by assumption) | exact isHnd.ob (by assumption) | exact isUnt.ob (by assumption) | exact isSt.ob (by assumption) | exact isHist.ob (by assumption) | exact isTxt.ob (by assumption) | exact hset_s | exact (hset_n (by first | assumption | omega)).trans (by first | assumption | exact isRow.ob (by assumption) | exact isHnd.ob (by assumption) | exact isUnt.ob (by assumption) | exact isSt.ob (by assumption) | exact isHist.ob (by assumption) | exact isTxt.ob (by assumption) | exact hset_s | exact (hset_n (by first | assumption | omega)).trans (by first | assumption | exact isRow.ob (by assumption) | exact isHnd.ob (by assumption) | exact isUnt.ob (by assumption) | exact isSt.ob (by assumption) | exact isHist.ob (by assumption) | exact isTxt.ob (by assumption))))) (vp_in_nI hc (by omega)) ?_
      refine J_aload_n dX7_add_29 (by rfl) ?_
      refine J_dup dX7_add_30 rfl ?_
      refine J_get fg_X7_15 dX7_add_31 (by first | assumption | exact isRow.ob (by assumption) | exact isHnd.ob (by assumption) | exact isUnt.ob (by assumption) | exact isSt.ob (by assumption) | exact isHist.ob (by assumption) | exact isTxt.ob (by assumption) | exact hset_s | exact (hset_n (by first | assumption | omega)).trans (by first | assumption | exact isRow.ob (by assumption) | exact isHnd.ob (by assumption) | exact isUnt.ob (by assumption) | exact isSt.ob (by assumption) | exact isHist.ob (by assumption) | exact isTxt.ob (by assumption) | exact hset_s | exact (hset_n (by first | assumption | omega)).trans (by first | assumption | exact isRow.ob (by assumption) | exact isHnd.ob (by assumption) | exact isUnt.ob (by assumption) | exact isSt.ob (by assumption) | exact isHist.ob (by assumption) | exact isTxt.ob (by assumption) | exact hset_s | exact (hset_n (by first | assumption | omega)).trans (by first | assumption | exact isRow.ob (by assumption) | exact isHnd.ob (by assumption) | exact isUnt.ob (by assumption) | exact isSt.ob (by assumption) | exact isHist.ob (by assumption) | exact isTxt.ob (by assumption))))) (by rfl) ?_
      refine J_iconst (v := 1) dX7_add_34 (by decide) ?_
      refine J_iadd dX7_add_35 ?_
      refine J_put fp_X7_15 dX7_add_36 (by first | assumption | exact isRow.ob (by assumption) | exact isHnd.ob (by assumption) | exact isUnt.ob (by assumption) | exact isSt.ob (by assumption) | exact isHist.ob (by assumption) | exact isTxt.ob (by assumption) | exact hset_s | exact (hset_n (by first | assumption | omega)).trans (by first | assumption | exact isRow.ob (by assumption) | exact isHnd.ob (by assumption) | exact isUnt.ob (by assumption) | exact isSt.ob (by assumption) | exact isHist.ob (by assumption) | exact isTxt.ob (by assumption) | exact hset_s | exact (hset_n (by first | assumption | omega)).trans (by first | assumption | exact isRow.ob (by assumption) | exact isHnd.ob (by assumption) | exact isUnt.ob (by assumption) | exact isSt.ob (by assumption) | exact isHist.ob (by assumption) | exact isTxt.ob (by assumption) | exact hset_s | exact (hset_n (by first | assumption | omega)).trans (by first | assumption | exact isRow.ob (by assumption) | exact isHnd.ob (by assumption) | exact isUnt.ob (by assumption) | exact isSt.ob (by assumption) | exact isHist.ob (by assumption) | exact isTxt.ob (by assumption))))) (Nat.le_of_ble_eq_true rfl) (by rfl) (by rfl) ?_
      exact J_return dX7_add_39 rfl (⟨rfl, ⟨upd f cs.length x, hset_s.trans (by rw [List.length_append, nI_1]; rfl), (hset_n (by omega)).trans (hset_s.trans (by rw [nI_clamp (by omega)])), by simp; omega, row_push h5 x⟩, fr_tr (fr_set (by omega) (by omega)) (fr_set (by omega) (by omega))⟩)
set_option maxRecDepth 20000 in
theorem sp_X7_codeAt {G : GG} {h : HP} {a k : Nat} {cs : List Int32} (w : isTxt G h a cs) (hk : k < 2 ^ 31) (n : Nat) : Sp G mm_X7_codeAt 0 0 0 [.ref a, .int (nI k)] h n (fun v h' _ => v = some (.int (cs.getD k 0)) ∧ h' = h) := by
  refine Sp_of (by decide +kernel) (Nat.le_of_ble_eq_true rfl) ?_
  obtain ⟨f, h1, h2, h3, h5⟩ := w
  refine J_iload_n dX7_codeAt_0 (by rfl) ?_
  refine J_if_lt (tgt := 30) dX7_codeAt_1 (by decide) (fun c1 => ?_) (fun c1 => ?_)
  · exact absurd c1 (nI_pos hk)
  · refine J_iload_n dX7_codeAt_4 (by rfl) ?_
    refine J_aload_n dX7_codeAt_5 (by rfl) ?_
    refine J_get fg_X7_15 dX7_codeAt_6 (by first | assumption | exact isRow.ob (by assumption) | exact isHnd.ob (by assumption) | exact isUnt.ob (by assumption) | exact isSt.ob (by assumption) | exact isHist.ob (by assumption) | exact isTxt.ob (by assumption) | exact hset_s | exact (hset_n (by first | assumption | omega)).trans (by first | assumption | exact isRow.ob (by assumption) | exact isHnd.ob (by assumption) | exact isUnt.ob (by assumption) | exact isSt.ob (by assumption) | exact isHist.ob (by assumption) | exact isTxt.ob (by assumption) | exact hset_s | exact (hset_n (by first | assumption | omega)).trans (by first | assumption | exact isRow.ob (by assumption) | exact isHnd.ob (by assumption) | exact isUnt.ob (by assumption) | exact isSt.ob (by assumption) | exact isHist.ob (by assumption) | exact isTxt.ob (by assumption) | exact hset_s | exact (hset_n (by first | assumption | omega)).trans (by first | assumption | exact isRow.ob (by assumption) | exact isHnd.ob (by assumption) | exact isUnt.ob (by assumption) | exact isSt.ob (by assumption) | exact isHist.ob (by assumption) | exact isTxt.ob (by assumption))))) (by rfl) ?_
    refine J_icmp_ge (tgt := 30) dX7_codeAt_9 (by decide) (fun c9 => ?_) (fun c9 => ?_)
    · rw [nI_leI (by omega) (by omega)] at c9
      refine J_iconst (v := 0) dX7_codeAt_30 (by decide) ?_
      exact J_ireturn dX7_codeAt_31 rfl (by rfl) (⟨by first | (rw [nI_clamp (by omega), h5 k (by omega)]) | (rw [getD_ge (by omega)]), rfl⟩)
    · rw [nI_leI (by omega) (by omega)] at c9
      refine J_iload_n dX7_codeAt_12 (by rfl) ?_
      refine J_aload_n dX7_codeAt_13 (by rfl) ?_
      refine J_get fg_X7_9 dX7_codeAt_14 (by first | assumption | exact isRow.ob (by assumption) | exact isHnd.ob (by assumption) | exact isUnt.ob (by assumption) | exact isSt.ob (by assumption) | exact isHist.ob (by assumption) | exact isTxt.ob (by assumption) | exact hset_s | exact (hset_n (by first | assumption | omega)).trans (by first | assumption | exact isRow.ob (by assumption) | exact isHnd.ob (by assumption) | exact isUnt.ob (by assumption) | exact isSt.ob (by assumption) | exact isHist.ob (by assumption) | exact isTxt.ob (by assumption) | exact hset_s | exact (hset_n (by first | assumption | omega)).trans (by first | assumption | exact isRow.ob (by assumption) | exact isHnd.ob (by assumption) | exact isUnt.ob (by assumption) | exact isSt.ob (by assumption) | exact isHist.ob (by assumption) | exact isTxt.ob (by assumption) | exact hset_s | exact (hset_n (by first | assumption | omega)).trans (by first | assumption | exact isRow.ob (by assumption) | exact isHnd.ob (by assumption) | exact isUnt.ob (by assumption) | exact isSt.ob (by assumption) | exact isHist.ob (by assumption) | exact isTxt.ob (by assumption))))) (by rfl) ?_
      refine J_alen (t := 0) (by decide) dX7_codeAt_17 (by first | assumption | exact isRow.ob (by assumption) | exact isHnd.ob (by assumption) | exact isUnt.ob (by assumption) | exact isSt.ob (by assumption) | exact isHist.ob (by assumption) | exact isTxt.ob (by assumption) | exact hset_s | exact (hset_n (by first | assumption | omega)).trans (by first | assumption | exact isRow.ob (by assumption) | exact isHnd.ob (by assumption) | exact isUnt.ob (by assumption) | exact isSt.ob (by assumption) | exact isHist.ob (by assumption) | exact isTxt.ob (by assumption) | exact hset_s | exact (hset_n (by first | assumption | omega)).trans (by first | assumption | exact isRow.ob (by assumption) | exact isHnd.ob (by assumption) | exact isUnt.ob (by assumption) | exact isSt.ob (by assumption) | exact isHist.ob (by assumption) | exact isTxt.ob (by assumption) | exact hset_s | exact (hset_n (by first | assumption | omega)).trans (by first | assumption | exact isRow.ob (by assumption) | exact isHnd.ob (by assumption) | exact isUnt.ob (by assumption) | exact isSt.ob (by assumption) | exact isHist.ob (by assumption) | exact isTxt.ob (by assumption))))) ?_
      refine J_icmp_ge (tgt := 30) dX7_codeAt_18 (by decide) (fun c18 => ?_) (fun c18 => ?_)
      · exact absurd ((nI_leI (a := 60) (by omega) (by omega)).mp c18) (by omega)
      · refine J_aload_n dX7_codeAt_21 (by rfl) ?_
        refine J_get fg_X7_9 dX7_codeAt_22 (by first | assumption | exact isRow.ob (by assumption) | exact isHnd.ob (by assumption) | exact isUnt.ob (by assumption) | exact isSt.ob (by assumption) | exact isHist.ob (by assumption) | exact isTxt.ob (by assumption) | exact hset_s | exact (hset_n (by first | assumption | omega)).trans (by first | assumption | exact isRow.ob (by assumption) | exact isHnd.ob (by assumption) | exact isUnt.ob (by assumption) | exact isSt.ob (by assumption) | exact isHist.ob (by assumption) | exact isTxt.ob (by assumption) | exact hset_s | exact (hset_n (by first | assumption | omega)).trans (by first | assumption | exact isRow.ob (by assumption) | exact isHnd.ob (by assumption) | exact isUnt.ob (by assumption) | exact isSt.ob (by assumption) | exact isHist.ob (by assumption) | exact isTxt.ob (by assumption) | exact hset_s | exact (hset_n (by first | assumption | omega)).trans (by first | assumption | exact isRow.ob (by assumption) | exact isHnd.ob (by assumption) | exact isUnt.ob (by assumption) | exact isSt.ob (by assumption) | exact isHist.ob (by assumption) | exact isTxt.ob (by assumption))))) (by rfl) ?_
        refine J_iload_n dX7_codeAt_25 (by rfl) ?_
        refine J_iald dX7_codeAt_26 (by first | assumption | exact isRow.ob (by assumption) | exact isHnd.ob (by assumption) | exact isUnt.ob (by assumption) | exact isSt.ob (by assumption) | exact isHist.ob (by assumption) | exact isTxt.ob (by assumption) | exact hset_s | exact (hset_n (by first | assumption | omega)).trans (by first | assumption | exact isRow.ob (by assumption) | exact isHnd.ob (by assumption) | exact isUnt.ob (by assumption) | exact isSt.ob (by assumption) | exact isHist.ob (by assumption) | exact isTxt.ob (by assumption) | exact hset_s | exact (hset_n (by first | assumption | omega)).trans (by first | assumption | exact isRow.ob (by assumption) | exact isHnd.ob (by assumption) | exact isUnt.ob (by assumption) | exact isSt.ob (by assumption) | exact isHist.ob (by assumption) | exact isTxt.ob (by assumption) | exact hset_s | exact (hset_n (by first | assumption | omega)).trans (by first | assumption | exact isRow.ob (by assumption) | exact isHnd.ob (by assumption) | exact isUnt.ob (by assumption) | exact isSt.ob (by assumption) | exact isHist.ob (by assumption) | exact isTxt.ob (by assumption))))) (vp_in_nI (by omega) (by omega)) ?_
        refine J_goto (tgt := 31) dX7_codeAt_27 (by decide) ?_
        exact J_ireturn dX7_codeAt_31 rfl (by rfl) (⟨by first | (rw [nI_clamp (by omega), h5 k (by omega)]) | (rw [getD_ge (by omega)]), rfl⟩)
def cro (c : Int32) : Int32 := if 97 ≤ c ∧ c ≤ 99 then c - 97 + 1 else if 65 ≤ c ∧ c ≤ 67 then 64 - c else 0
def fig (c : Int32) : Int32 := if 50 ≤ c ∧ c ≤ 57 then c - 48 else 0
set_option maxRecDepth 20000 in
theorem sp_X7_crossingOf {G : GG} (h : HP) (c : Int32) (n : Nat) : Sp G mm_X7_crossingOf 0 0 0 [.int c] h n (fun v h' _ => v = some (.int (cro c)) ∧ h' = h) := by
  refine Sp_of (by decide +kernel) (Nat.le_of_ble_eq_true rfl) ?_
  refine J_iload_n dX7_crossingOf_0 (by rfl) ?_
  refine J_bipush (v := 97) dX7_crossingOf_1 (by decide) ?_
  refine J_icmp_lt (tgt := 19) dX7_crossingOf_3 (by decide) (fun c3 => ?_) (fun c3 => ?_)
  · have e1 : ¬ (97 ≤ c ∧ c ≤ 99) := by
      intro q
      first | exact Int32.not_lt.mpr q.1 c3 | exact Int32.not_lt.mpr q.2 c9
    refine J_iload_n dX7_crossingOf_19 (by rfl) ?_
    refine J_bipush (v := 65) dX7_crossingOf_20 (by decide) ?_
    refine J_icmp_lt (tgt := 38) dX7_crossingOf_22 (by decide) (fun c22 => ?_) (fun c22 => ?_)
    · have e2 : ¬ (65 ≤ c ∧ c ≤ 67) := by
        intro q
        first | exact Int32.not_lt.mpr q.1 c22 | exact Int32.not_lt.mpr q.2 c28
      refine J_iconst (v := 0) dX7_crossingOf_38 (by decide) ?_
      exact J_ireturn dX7_crossingOf_39 rfl (by rfl) (⟨by rw [cro, if_neg e1]; first | exact congrArg (fun a => some (Value.int a)) (if_pos e2).symm | exact congrArg (fun a => some (Value.int a)) (if_neg e2).symm, rfl⟩)
    · refine J_iload_n dX7_crossingOf_25 (by rfl) ?_
      refine J_bipush (v := 67) dX7_crossingOf_26 (by decide) ?_
      refine J_icmp_gt (tgt := 38) dX7_crossingOf_28 (by decide) (fun c28 => ?_) (fun c28 => ?_)
      · have e2 : ¬ (65 ≤ c ∧ c ≤ 67) := by
          intro q
          first | exact Int32.not_lt.mpr q.1 c22 | exact Int32.not_lt.mpr q.2 c28
        refine J_iconst (v := 0) dX7_crossingOf_38 (by decide) ?_
        exact J_ireturn dX7_crossingOf_39 rfl (by rfl) (⟨by rw [cro, if_neg e1]; first | exact congrArg (fun a => some (Value.int a)) (if_pos e2).symm | exact congrArg (fun a => some (Value.int a)) (if_neg e2).symm, rfl⟩)
      · have e2 : 65 ≤ c ∧ c ≤ 67 := ⟨Int32.not_lt.mp c22, Int32.not_lt.mp c28⟩
        refine J_bipush (v := 64) dX7_crossingOf_31 (by decide) ?_
        refine J_iload_n dX7_crossingOf_33 (by rfl) ?_
        refine J_isub dX7_crossingOf_34 ?_
        refine J_goto (tgt := 39) dX7_crossingOf_35 (by decide) ?_
        exact J_ireturn dX7_crossingOf_39 rfl (by rfl) (⟨by rw [cro, if_neg e1]; first | exact congrArg (fun a => some (Value.int a)) (if_pos e2).symm | exact congrArg (fun a => some (Value.int a)) (if_neg e2).symm, rfl⟩)
  · refine J_iload_n dX7_crossingOf_6 (by rfl) ?_
    refine J_bipush (v := 99) dX7_crossingOf_7 (by decide) ?_
    refine J_icmp_gt (tgt := 19) dX7_crossingOf_9 (by decide) (fun c9 => ?_) (fun c9 => ?_)
    · have e1 : ¬ (97 ≤ c ∧ c ≤ 99) := by
        intro q
        first | exact Int32.not_lt.mpr q.1 c3 | exact Int32.not_lt.mpr q.2 c9
      refine J_iload_n dX7_crossingOf_19 (by rfl) ?_
      refine J_bipush (v := 65) dX7_crossingOf_20 (by decide) ?_
      refine J_icmp_lt (tgt := 38) dX7_crossingOf_22 (by decide) (fun c22 => ?_) (fun c22 => ?_)
      · have e2 : ¬ (65 ≤ c ∧ c ≤ 67) := by
          intro q
          first | exact Int32.not_lt.mpr q.1 c22 | exact Int32.not_lt.mpr q.2 c28
        refine J_iconst (v := 0) dX7_crossingOf_38 (by decide) ?_
        exact J_ireturn dX7_crossingOf_39 rfl (by rfl) (⟨by rw [cro, if_neg e1]; first | exact congrArg (fun a => some (Value.int a)) (if_pos e2).symm | exact congrArg (fun a => some (Value.int a)) (if_neg e2).symm, rfl⟩)
      · refine J_iload_n dX7_crossingOf_25 (by rfl) ?_
        refine J_bipush (v := 67) dX7_crossingOf_26 (by decide) ?_
        refine J_icmp_gt (tgt := 38) dX7_crossingOf_28 (by decide) (fun c28 => ?_) (fun c28 => ?_)
        · have e2 : ¬ (65 ≤ c ∧ c ≤ 67) := by
            intro q
            first | exact Int32.not_lt.mpr q.1 c22 | exact Int32.not_lt.mpr q.2 c28
          refine J_iconst (v := 0) dX7_crossingOf_38 (by decide) ?_
          exact J_ireturn dX7_crossingOf_39 rfl (by rfl) (⟨by rw [cro, if_neg e1]; first | exact congrArg (fun a => some (Value.int a)) (if_pos e2).symm | exact congrArg (fun a => some (Value.int a)) (if_neg e2).symm, rfl⟩)
        · have e2 : 65 ≤ c ∧ c ≤ 67 := ⟨Int32.not_lt.mp c22, Int32.not_lt.mp c28⟩
          refine J_bipush (v := 64) dX7_crossingOf_31 (by decide) ?_
          refine J_iload_n dX7_crossingOf_33 (by rfl) ?_
          refine J_isub dX7_crossingOf_34 ?_
          refine J_goto (tgt := 39) dX7_crossingOf_35 (by decide) ?_
          exact J_ireturn dX7_crossingOf_39 rfl (by rfl) (⟨by rw [cro, if_neg e1]; first | exact congrArg (fun a => some (Value.int a)) (if_pos e2).symm | exact congrArg (fun a => some (Value.int a)) (if_neg e2).symm, rfl⟩)
    · have e1 : 97 ≤ c ∧ c ≤ 99 := ⟨Int32.not_lt.mp c3, Int32.not_lt.mp c9⟩
      refine J_iload_n dX7_crossingOf_12 (by rfl) ?_
      refine J_bipush (v := 97) dX7_crossingOf_13 (by decide) ?_
      refine J_isub dX7_crossingOf_15 ?_
      refine J_iconst (v := 1) dX7_crossingOf_16 (by decide) ?_
      refine J_iadd dX7_crossingOf_17 ?_
      exact J_ireturn dX7_crossingOf_18 rfl (by rfl) (⟨by rw [cro, if_pos e1], rfl⟩)
set_option maxRecDepth 20000 in
theorem sp_X7_figureOf {G : GG} (h : HP) (c : Int32) (n : Nat) : Sp G mm_X7_figureOf 0 0 0 [.int c] h n (fun v h' _ => v = some (.int (fig c)) ∧ h' = h) := by
  refine Sp_of (by decide +kernel) (Nat.le_of_ble_eq_true rfl) ?_
  refine J_iload_n dX7_figureOf_0 (by rfl) ?_
  refine J_bipush (v := 50) dX7_figureOf_1 (by decide) ?_
  refine J_icmp_lt (tgt := 19) dX7_figureOf_3 (by decide) (fun c3 => ?_) (fun c3 => ?_)
  · have e1 : ¬ (50 ≤ c ∧ c ≤ 57) := by
      intro q
      first | exact Int32.not_lt.mpr q.1 c3 | exact Int32.not_lt.mpr q.2 c9
    refine J_iconst (v := 0) dX7_figureOf_19 (by decide) ?_
    exact J_ireturn dX7_figureOf_20 rfl (by rfl) (⟨by rw [fig]; first | exact congrArg (fun a => some (Value.int a)) (if_pos e1).symm | exact congrArg (fun a => some (Value.int a)) (if_neg e1).symm, rfl⟩)
  · refine J_iload_n dX7_figureOf_6 (by rfl) ?_
    refine J_bipush (v := 57) dX7_figureOf_7 (by decide) ?_
    refine J_icmp_gt (tgt := 19) dX7_figureOf_9 (by decide) (fun c9 => ?_) (fun c9 => ?_)
    · have e1 : ¬ (50 ≤ c ∧ c ≤ 57) := by
        intro q
        first | exact Int32.not_lt.mpr q.1 c3 | exact Int32.not_lt.mpr q.2 c9
      refine J_iconst (v := 0) dX7_figureOf_19 (by decide) ?_
      exact J_ireturn dX7_figureOf_20 rfl (by rfl) (⟨by rw [fig]; first | exact congrArg (fun a => some (Value.int a)) (if_pos e1).symm | exact congrArg (fun a => some (Value.int a)) (if_neg e1).symm, rfl⟩)
    · have e1 : 50 ≤ c ∧ c ≤ 57 := ⟨Int32.not_lt.mp c3, Int32.not_lt.mp c9⟩
      refine J_iload_n dX7_figureOf_12 (by rfl) ?_
      refine J_bipush (v := 48) dX7_figureOf_13 (by decide) ?_
      refine J_isub dX7_figureOf_15 ?_
      refine J_goto (tgt := 20) dX7_figureOf_16 (by decide) ?_
      exact J_ireturn dX7_figureOf_20 rfl (by rfl) (⟨by rw [fig]; first | exact congrArg (fun a => some (Value.int a)) (if_pos e1).symm | exact congrArg (fun a => some (Value.int a)) (if_neg e1).symm, rfl⟩)
/-- the first wrong character, from k on, among j; b: whether a letter stands ahead -/
def fwA (cs : List Int32) : Nat → Nat → Bool → Nat
  | 0, k, _ => k
  | j + 1, k, b => if cro (cs.getD k 0) = 0 then (if b = true ∧ ¬ fig (cs.getD k 0) = 0 then fwA cs j (k + 1) false else k) else fwA cs j (k + 1) true
def fw (cs : List Int32) : Nat := fwA cs cs.length 0 false
theorem fwA_le (cs : List Int32) : ∀ j k b, fwA cs j k b ≤ k + j := by
  intro j
  induction j with
  | zero => intro k b; exact Nat.le_refl _
  | succ j ih =>
    intro k b
    unfold fwA
    split
    · split
      · have := ih (k + 1) false; omega
      · omega
    · have := ih (k + 1) true; omega
theorem fw_le (cs : List Int32) : fw cs ≤ cs.length := by have := fwA_le cs cs.length 0 false; rw [fw]; omega
set_option maxRecDepth 20000 in
theorem sp_X7_firstWrong {G : GG} {h : HP} {a : Nat} {cs : List Int32} (w : isTxt G h a cs) (n : Nat) : Sp G mm_X7_firstWrong 1 0 0 [.ref a] h n (fun v h' _ => v = some (.int (nI (fw cs))) ∧ h' = h) := by
  refine Sp_of (by decide +kernel) (Nat.le_of_ble_eq_true rfl) ?_
  have hle := w.le
  have o1 := w.ob
  have loop : ∀ (j k n1 : Nat) (b : Bool), k + j = cs.length → fwA cs j k b = fw cs → J (g0 G) mm_X7_firstWrong 1 4 [(0, .ref a), (1, .int (if b = true then 1 else 0)), (2, .int (nI k))] [] h n1 0 0 (RT mm_X7_firstWrong (fun v h' _ => v = some (.int (nI (fw cs))) ∧ h' = h)) := by
    intro j
    induction j with
    | zero =>
      intro k n1 b hj hfw
      refine J_iload_n dX7_firstWrong_4 (by rfl) ?_
      refine J_aload_n dX7_firstWrong_5 (by rfl) ?_
      refine J_get fg_X7_15 dX7_firstWrong_6 (by first | assumption | exact isRow.ob (by assumption) | exact isHnd.ob (by assumption) | exact isUnt.ob (by assumption) | exact isSt.ob (by assumption) | exact isHist.ob (by assumption) | exact isTxt.ob (by assumption) | exact hset_s | exact (hset_n (by first | assumption | omega)).trans (by first | assumption | exact isRow.ob (by assumption) | exact isHnd.ob (by assumption) | exact isUnt.ob (by assumption) | exact isSt.ob (by assumption) | exact isHist.ob (by assumption) | exact isTxt.ob (by assumption) | exact hset_s | exact (hset_n (by first | assumption | omega)).trans (by first | assumption | exact isRow.ob (by assumption) | exact isHnd.ob (by assumption) | exact isUnt.ob (by assumption) | exact isSt.ob (by assumption) | exact isHist.ob (by assumption) | exact isTxt.ob (by assumption) | exact hset_s | exact (hset_n (by first | assumption | omega)).trans (by first | assumption | exact isRow.ob (by assumption) | exact isHnd.ob (by assumption) | exact isUnt.ob (by assumption) | exact isSt.ob (by assumption) | exact isHist.ob (by assumption) | exact isTxt.ob (by assumption))))) (by rfl) ?_
      refine J_icmp_ge (tgt := 56) dX7_firstWrong_9 (by decide) (fun c9 => ?_) (fun c9 => ?_)
      · rw [nI_leI (by omega) (by omega)] at c9
        refine J_aload_n dX7_firstWrong_56 (by rfl) ?_
        refine J_get fg_X7_15 dX7_firstWrong_57 (by first | assumption | exact isRow.ob (by assumption) | exact isHnd.ob (by assumption) | exact isUnt.ob (by assumption) | exact isSt.ob (by assumption) | exact isHist.ob (by assumption) | exact isTxt.ob (by assumption) | exact hset_s | exact (hset_n (by first | assumption | omega)).trans (by first | assumption | exact isRow.ob (by assumption) | exact isHnd.ob (by assumption) | exact isUnt.ob (by assumption) | exact isSt.ob (by assumption) | exact isHist.ob (by assumption) | exact isTxt.ob (by assumption) | exact hset_s | exact (hset_n (by first | assumption | omega)).trans (by first | assumption | exact isRow.ob (by assumption) | exact isHnd.ob (by assumption) | exact isUnt.ob (by assumption) | exact isSt.ob (by assumption) | exact isHist.ob (by assumption) | exact isTxt.ob (by assumption) | exact hset_s | exact (hset_n (by first | assumption | omega)).trans (by first | assumption | exact isRow.ob (by assumption) | exact isHnd.ob (by assumption) | exact isUnt.ob (by assumption) | exact isSt.ob (by assumption) | exact isHist.ob (by assumption) | exact isTxt.ob (by assumption))))) (by rfl) ?_
        exact J_ireturn dX7_firstWrong_60 rfl (by rfl) (⟨by rw [← hfw]; show _ = some (Value.int (nI k)); rw [show k = cs.length by omega], rfl⟩)
      · rw [nI_leI (by omega) (by omega)] at c9
        exact absurd (by omega) c9
    | succ j ih =>
      intro k n1 b hj hfw
      refine J_iload_n dX7_firstWrong_4 (by rfl) ?_
      refine J_aload_n dX7_firstWrong_5 (by rfl) ?_
      refine J_get fg_X7_15 dX7_firstWrong_6 (by first | assumption | exact isRow.ob (by assumption) | exact isHnd.ob (by assumption) | exact isUnt.ob (by assumption) | exact isSt.ob (by assumption) | exact isHist.ob (by assumption) | exact isTxt.ob (by assumption) | exact hset_s | exact (hset_n (by first | assumption | omega)).trans (by first | assumption | exact isRow.ob (by assumption) | exact isHnd.ob (by assumption) | exact isUnt.ob (by assumption) | exact isSt.ob (by assumption) | exact isHist.ob (by assumption) | exact isTxt.ob (by assumption) | exact hset_s | exact (hset_n (by first | assumption | omega)).trans (by first | assumption | exact isRow.ob (by assumption) | exact isHnd.ob (by assumption) | exact isUnt.ob (by assumption) | exact isSt.ob (by assumption) | exact isHist.ob (by assumption) | exact isTxt.ob (by assumption) | exact hset_s | exact (hset_n (by first | assumption | omega)).trans (by first | assumption | exact isRow.ob (by assumption) | exact isHnd.ob (by assumption) | exact isUnt.ob (by assumption) | exact isSt.ob (by assumption) | exact isHist.ob (by assumption) | exact isTxt.ob (by assumption))))) (by rfl) ?_
      refine J_icmp_ge (tgt := 56) dX7_firstWrong_9 (by decide) (fun c9 => ?_) (fun c9 => ?_)
      · rw [nI_leI (by omega) (by omega)] at c9
        exact absurd c9 (by omega)
      · rw [nI_leI (by omega) (by omega)] at c9
        refine J_aload_n dX7_firstWrong_12 (by rfl) ?_
        refine J_iload_n dX7_firstWrong_13 (by rfl) ?_
        refine J_callV mf_X7_codeAt lk_X7_19 mi_X7_codeAt mv_X7_codeAt (sp_X7_codeAt w (k := k) (by omega) _) dX7_firstWrong_14 (by first | assumption | exact isRow.ob (by assumption) | exact isHnd.ob (by assumption) | exact isUnt.ob (by assumption) | exact isSt.ob (by assumption) | exact isHist.ob (by assumption) | exact isTxt.ob (by assumption) | exact hset_s | exact (hset_n (by first | assumption | omega)).trans (by first | assumption | exact isRow.ob (by assumption) | exact isHnd.ob (by assumption) | exact isUnt.ob (by assumption) | exact isSt.ob (by assumption) | exact isHist.ob (by assumption) | exact isTxt.ob (by assumption) | exact hset_s | exact (hset_n (by first | assumption | omega)).trans (by first | assumption | exact isRow.ob (by assumption) | exact isHnd.ob (by assumption) | exact isUnt.ob (by assumption) | exact isSt.ob (by assumption) | exact isHist.ob (by assumption) | exact isTxt.ob (by assumption) | exact hset_s | exact (hset_n (by first | assumption | omega)).trans (by first | assumption | exact isRow.ob (by assumption) | exact isHnd.ob (by assumption) | exact isUnt.ob (by assumption) | exact isSt.ob (by assumption) | exact isHist.ob (by assumption) | exact isTxt.ob (by assumption))))) rfl rfl (by decide) (by rfl) rfl (Nat.le_of_ble_eq_true rfl) (Nat.zero_add _) (Nat.zero_add _) (fun v14 h14 n14 q14 => ?_)
        obtain ⟨rfl, rfl⟩ := q14
        refine J_callS mf_X7_crossingOf lk_X7_23 ms_X7_crossingOf (sp_X7_crossingOf _ (cs.getD k 0) _) dX7_firstWrong_17 (by decide) (by rfl) rfl (Nat.le_of_ble_eq_true rfl) (Nat.zero_add _) (Nat.zero_add _) (fun v17 h17 n17 q17 => ?_)
        obtain ⟨rfl, rfl⟩ := q17
        refine J_if_eq (tgt := 28) dX7_firstWrong_20 (by decide) (fun c20 => ?_) (fun c20 => ?_)
        · refine J_iload_n dX7_firstWrong_28 (by rfl) ?_
          refine J_if_eq (tgt := 48) dX7_firstWrong_29 (by decide) (fun c29 => ?_) (fun c29 => ?_)
          · have e48 : k = fw cs := by
              rw [← hfw, fwA, if_pos c20, if_neg]
              intro q
              first | exact q.2 c40 | (rw [if_pos q.1] at c29; exact absurd c29 (by decide))
            refine J_iload_n dX7_firstWrong_48 (by rfl) ?_
            exact J_ireturn dX7_firstWrong_49 rfl (by rfl) (⟨by rw [← e48], rfl⟩)
          · refine J_aload_n dX7_firstWrong_32 (by rfl) ?_
            refine J_iload_n dX7_firstWrong_33 (by rfl) ?_
            refine J_callV mf_X7_codeAt lk_X7_19 mi_X7_codeAt mv_X7_codeAt (sp_X7_codeAt w (k := k) (by omega) _) dX7_firstWrong_34 (by first | assumption | exact isRow.ob (by assumption) | exact isHnd.ob (by assumption) | exact isUnt.ob (by assumption) | exact isSt.ob (by assumption) | exact isHist.ob (by assumption) | exact isTxt.ob (by assumption) | exact hset_s | exact (hset_n (by first | assumption | omega)).trans (by first | assumption | exact isRow.ob (by assumption) | exact isHnd.ob (by assumption) | exact isUnt.ob (by assumption) | exact isSt.ob (by assumption) | exact isHist.ob (by assumption) | exact isTxt.ob (by assumption) | exact hset_s | exact (hset_n (by first | assumption | omega)).trans (by first | assumption | exact isRow.ob (by assumption) | exact isHnd.ob (by assumption) | exact isUnt.ob (by assumption) | exact isSt.ob (by assumption) | exact isHist.ob (by assumption) | exact isTxt.ob (by assumption) | exact hset_s | exact (hset_n (by first | assumption | omega)).trans (by first | assumption | exact isRow.ob (by assumption) | exact isHnd.ob (by assumption) | exact isUnt.ob (by assumption) | exact isSt.ob (by assumption) | exact isHist.ob (by assumption) | exact isTxt.ob (by assumption))))) rfl rfl (by decide) (by rfl) rfl (Nat.le_of_ble_eq_true rfl) (Nat.zero_add _) (Nat.zero_add _) (fun v34 h34 n34 q34 => ?_)
            obtain ⟨rfl, rfl⟩ := q34
            refine J_callS mf_X7_figureOf lk_X7_26 ms_X7_figureOf (sp_X7_figureOf _ (cs.getD k 0) _) dX7_firstWrong_37 (by decide) (by rfl) rfl (Nat.le_of_ble_eq_true rfl) (Nat.zero_add _) (Nat.zero_add _) (fun v37 h37 n37 q37 => ?_)
            obtain ⟨rfl, rfl⟩ := q37
            refine J_if_eq (tgt := 48) dX7_firstWrong_40 (by decide) (fun c40 => ?_) (fun c40 => ?_)
            · have e48 : k = fw cs := by
                rw [← hfw, fwA, if_pos c20, if_neg]
                intro q
                first | exact q.2 c40 | (rw [if_pos q.1] at c29; exact absurd c29 (by decide))
              refine J_iload_n dX7_firstWrong_48 (by rfl) ?_
              exact J_ireturn dX7_firstWrong_49 rfl (by rfl) (⟨by rw [← e48], rfl⟩)
            · have e29 : b = true := by
                cases b with
                | true => rfl
                | false => exact absurd rfl c29
              have e23 : fwA cs j (k + 1) false = fw cs := by rw [← hfw, fwA, if_pos c20, if_pos ⟨e29, c40⟩]
              refine J_iconst (v := 0) dX7_firstWrong_43 (by decide) ?_
              refine J_istore_n dX7_firstWrong_44 (by decide) (by rfl) ?_
              refine J_goto (tgt := 50) dX7_firstWrong_45 (by decide) ?_
              refine J_iincN dX7_firstWrong_50 (by rfl) (by decide) (by rfl) ?_
              refine J_goto (tgt := 4) dX7_firstWrong_53 (by decide) ?_
              exact J_sub (by repeat (first | exact subl_nil | refine subl_cons rfl ?_)) (ih (k + 1) _ _ (by omega) e23)
        · have e23 : fwA cs j (k + 1) true = fw cs := by rw [← hfw, fwA, if_neg c20]
          refine J_iconst (v := 1) dX7_firstWrong_23 (by decide) ?_
          refine J_istore_n dX7_firstWrong_24 (by decide) (by rfl) ?_
          refine J_goto (tgt := 50) dX7_firstWrong_25 (by decide) ?_
          refine J_iincN dX7_firstWrong_50 (by rfl) (by decide) (by rfl) ?_
          refine J_goto (tgt := 4) dX7_firstWrong_53 (by decide) ?_
          exact J_sub (by repeat (first | exact subl_nil | refine subl_cons rfl ?_)) (ih (k + 1) _ _ (by omega) e23)
  refine J_iconst (v := 0) dX7_firstWrong_0 (by decide) ?_
  refine J_istore_n dX7_firstWrong_1 (by decide) (by rfl) ?_
  refine J_iconst (v := 0) dX7_firstWrong_2 (by decide) ?_
  refine J_istore_n dX7_firstWrong_3 (by decide) (by rfl) ?_
  exact J_sub (by repeat (first | exact subl_nil | refine subl_cons rfl ?_)) (loop cs.length 0 _ false (by omega) rfl)
set_option maxRecDepth 20000 in
theorem sp_X7_isTangle {G : GG} {h : HP} {a : Nat} {cs : List Int32} (w : isTxt G h a cs) (n : Nat) : Sp G mm_X7_isTangle 2 0 0 [.ref a] h n (fun v h' _ => v = some (.int (if 0 < cs.length ∧ fw cs = cs.length then 1 else 0)) ∧ h' = h) := by
  refine Sp_of (by decide +kernel) (Nat.le_of_ble_eq_true rfl) ?_
  have hle := w.le
  have hfw := fw_le cs
  refine J_aload_n dX7_isTangle_0 (by rfl) ?_
  refine J_get fg_X7_15 dX7_isTangle_1 (by first | assumption | exact isRow.ob (by assumption) | exact isHnd.ob (by assumption) | exact isUnt.ob (by assumption) | exact isSt.ob (by assumption) | exact isHist.ob (by assumption) | exact isTxt.ob (by assumption) | exact hset_s | exact (hset_n (by first | assumption | omega)).trans (by first | assumption | exact isRow.ob (by assumption) | exact isHnd.ob (by assumption) | exact isUnt.ob (by assumption) | exact isSt.ob (by assumption) | exact isHist.ob (by assumption) | exact isTxt.ob (by assumption) | exact hset_s | exact (hset_n (by first | assumption | omega)).trans (by first | assumption | exact isRow.ob (by assumption) | exact isHnd.ob (by assumption) | exact isUnt.ob (by assumption) | exact isSt.ob (by assumption) | exact isHist.ob (by assumption) | exact isTxt.ob (by assumption) | exact hset_s | exact (hset_n (by first | assumption | omega)).trans (by first | assumption | exact isRow.ob (by assumption) | exact isHnd.ob (by assumption) | exact isUnt.ob (by assumption) | exact isSt.ob (by assumption) | exact isHist.ob (by assumption) | exact isTxt.ob (by assumption))))) (by rfl) ?_
  refine J_if_le (tgt := 22) dX7_isTangle_4 (by decide) (fun c4 => ?_) (fun c4 => ?_)
  · have e4 : ¬ 0 < cs.length := fun q => nI_nle q (by omega) c4
    refine J_iconst (v := 0) dX7_isTangle_22 (by decide) ?_
    exact J_ireturn dX7_isTangle_23 rfl (by rfl) (⟨by first | rw [if_neg (by omega)] | rw [if_pos (by omega)], rfl⟩)
  · have e4 : 0 < cs.length := by
      rcases Nat.eq_zero_or_pos cs.length with q | q
      · rw [q] at c4; exact absurd (by decide) c4
      · exact q
    refine J_aload_n dX7_isTangle_7 (by rfl) ?_
    refine J_callV mf_X7_firstWrong lk_X7_29 mi_X7_firstWrong mv_X7_firstWrong (sp_X7_firstWrong w _) dX7_isTangle_8 (by first | assumption | exact isRow.ob (by assumption) | exact isHnd.ob (by assumption) | exact isUnt.ob (by assumption) | exact isSt.ob (by assumption) | exact isHist.ob (by assumption) | exact isTxt.ob (by assumption) | exact hset_s | exact (hset_n (by first | assumption | omega)).trans (by first | assumption | exact isRow.ob (by assumption) | exact isHnd.ob (by assumption) | exact isUnt.ob (by assumption) | exact isSt.ob (by assumption) | exact isHist.ob (by assumption) | exact isTxt.ob (by assumption) | exact hset_s | exact (hset_n (by first | assumption | omega)).trans (by first | assumption | exact isRow.ob (by assumption) | exact isHnd.ob (by assumption) | exact isUnt.ob (by assumption) | exact isSt.ob (by assumption) | exact isHist.ob (by assumption) | exact isTxt.ob (by assumption) | exact hset_s | exact (hset_n (by first | assumption | omega)).trans (by first | assumption | exact isRow.ob (by assumption) | exact isHnd.ob (by assumption) | exact isUnt.ob (by assumption) | exact isSt.ob (by assumption) | exact isHist.ob (by assumption) | exact isTxt.ob (by assumption))))) rfl rfl (by decide) (by rfl) rfl (Nat.le_of_ble_eq_true rfl) (Nat.zero_add _) (Nat.zero_add _) (fun v8 h8 n8 q8 => ?_)
    obtain ⟨rfl, rfl⟩ := q8
    refine J_aload_n dX7_isTangle_11 (by rfl) ?_
    refine J_get fg_X7_15 dX7_isTangle_12 (by first | assumption | exact isRow.ob (by assumption) | exact isHnd.ob (by assumption) | exact isUnt.ob (by assumption) | exact isSt.ob (by assumption) | exact isHist.ob (by assumption) | exact isTxt.ob (by assumption) | exact hset_s | exact (hset_n (by first | assumption | omega)).trans (by first | assumption | exact isRow.ob (by assumption) | exact isHnd.ob (by assumption) | exact isUnt.ob (by assumption) | exact isSt.ob (by assumption) | exact isHist.ob (by assumption) | exact isTxt.ob (by assumption) | exact hset_s | exact (hset_n (by first | assumption | omega)).trans (by first | assumption | exact isRow.ob (by assumption) | exact isHnd.ob (by assumption) | exact isUnt.ob (by assumption) | exact isSt.ob (by assumption) | exact isHist.ob (by assumption) | exact isTxt.ob (by assumption) | exact hset_s | exact (hset_n (by first | assumption | omega)).trans (by first | assumption | exact isRow.ob (by assumption) | exact isHnd.ob (by assumption) | exact isUnt.ob (by assumption) | exact isSt.ob (by assumption) | exact isHist.ob (by assumption) | exact isTxt.ob (by assumption))))) (by rfl) ?_
    refine J_icmp_ne (tgt := 22) dX7_isTangle_15 (by decide) (fun c15 => ?_) (fun c15 => ?_)
    · rw [nI_eq (by omega) (by omega)] at c15
      refine J_iconst (v := 0) dX7_isTangle_22 (by decide) ?_
      exact J_ireturn dX7_isTangle_23 rfl (by rfl) (⟨by first | rw [if_neg (by omega)] | rw [if_pos (by omega)], rfl⟩)
    · rw [nI_eq (by omega) (by omega)] at c15
      refine J_iconst (v := 1) dX7_isTangle_18 (by decide) ?_
      refine J_goto (tgt := 23) dX7_isTangle_19 (by decide) ?_
      exact J_ireturn dX7_isTangle_23 rfl (by rfl) (⟨by first | rw [if_neg (by omega)] | rw [if_pos (by omega)], rfl⟩)
theorem fig_nat (c : Int32) : ∃ j, j < 10 ∧ fig c = nI j := by
  unfold fig
  split
  · rename_i e
    obtain ⟨j, hj, rfl⟩ := nI_of2 (M := 57) (n := 57) (by decide) (fun q => Int32.not_lt.mpr e.1 (Int32.lt_trans q (by decide))) e.2
    have h50 := (nI_leI (a := 50) (by omega) (by omega)).mp e.1
    exact ⟨j - 48, by omega, pk_sub (a := j) (b := 48) (by omega)⟩
  · exact ⟨0, by omega, rfl⟩
/-- how many crossings a letter makes, by the character behind it -/
def tms (c : Int32) : Nat := if fig c = 0 then 1 else (fig c).toNatClampNeg
theorem tms_nat (c : Int32) : nI (tms c) = (if fig c = 0 then 1 else fig c) ∧ tms c < 10 := by
  obtain ⟨j, hj, e⟩ := fig_nat c
  unfold tms
  by_cases e0 : fig c = 0
  · rw [if_pos e0, if_pos e0]; exact ⟨rfl, by omega⟩
  · rw [if_neg e0, if_neg e0, e, nI_clamp (by omega)]; exact ⟨rfl, hj⟩
theorem take_rep {xs : List Int32} {x : Int32} {c t : Nat} : ((xs ++ List.replicate t x).take c ++ [x]).take c = (xs ++ List.replicate (t + 1) x).take c := by
  rw [take_push, List.append_assoc, List.replicate_succ']
set_option maxRecDepth 20000 in
theorem sp_X7_addTimes {G : GG} {h : HP} {r cap t : Nat} {xs : List Int32} (w : isRow G h r cap xs) (ht : t < 10) (x : Int32) (n : Nat) : Sp G mm_X7_addTimes 1 0 0 [.ref r, .int x, .int (nI t)] h n (fun v h' _ => v = none ∧ isRow G h' r cap ((xs ++ List.replicate t x).take cap) ∧ fr r (r + 2) h h') := by
  refine Sp_of (by decide +kernel) (Nat.le_of_ble_eq_true rfl) ?_
  have loop : ∀ (j k : Nat) (hh : HP) (n1 : Nat), k + j = t → isRow G hh r cap ((xs ++ List.replicate k x).take cap) → fr r (r + 2) h hh → J (g0 G) mm_X7_addTimes 1 2 [(0, .ref r), (1, .int x), (2, .int (nI t)), (3, .int (nI k))] [] hh n1 0 0 (RT mm_X7_addTimes (fun v h' _ => v = none ∧ isRow G h' r cap ((xs ++ List.replicate t x).take cap) ∧ fr r (r + 2) h h')) := by
    intro j
    induction j with
    | zero =>
      intro k hh n1 hj ww hf
      refine J_iload_n dX7_addTimes_2 (by rfl) ?_
      refine J_iload_n dX7_addTimes_3 (by rfl) ?_
      refine J_icmp_ge (tgt := 19) dX7_addTimes_4 (by decide) (fun c4 => ?_) (fun c4 => ?_)
      · rw [nI_leI (by omega) (by omega)] at c4
        exact J_return dX7_addTimes_19 rfl (⟨rfl, by rw [show t = k by omega]; exact ww, hf⟩)
      · rw [nI_leI (by omega) (by omega)] at c4
        exact absurd (by omega) c4
    | succ j ih =>
      intro k hh n1 hj ww hf
      refine J_iload_n dX7_addTimes_2 (by rfl) ?_
      refine J_iload_n dX7_addTimes_3 (by rfl) ?_
      refine J_icmp_ge (tgt := 19) dX7_addTimes_4 (by decide) (fun c4 => ?_) (fun c4 => ?_)
      · rw [nI_leI (by omega) (by omega)] at c4
        exact absurd c4 (by omega)
      · rw [nI_leI (by omega) (by omega)] at c4
        refine J_aload_n dX7_addTimes_7 (by rfl) ?_
        refine J_iload_n dX7_addTimes_8 (by rfl) ?_
        refine J_callV mf_X5_add lk_X7_37 mi_X5_add mv_X5_add (sp_X5_add ww x _) dX7_addTimes_9 (by first | assumption | exact isRow.ob (by assumption) | exact isHnd.ob (by assumption) | exact isUnt.ob (by assumption) | exact isSt.ob (by assumption) | exact isHist.ob (by assumption) | exact isTxt.ob (by assumption) | exact hset_s | exact (hset_n (by first | assumption | omega)).trans (by first | assumption | exact isRow.ob (by assumption) | exact isHnd.ob (by assumption) | exact isUnt.ob (by assumption) | exact isSt.ob (by assumption) | exact isHist.ob (by assumption) | exact isTxt.ob (by assumption) | exact hset_s | exact (hset_n (by first | assumption | omega)).trans (by first | assumption | exact isRow.ob (by assumption) | exact isHnd.ob (by assumption) | exact isUnt.ob (by assumption) | exact isSt.ob (by assumption) | exact isHist.ob (by assumption) | exact isTxt.ob (by assumption) | exact hset_s | exact (hset_n (by first | assumption | omega)).trans (by first | assumption | exact isRow.ob (by assumption) | exact isHnd.ob (by assumption) | exact isUnt.ob (by assumption) | exact isSt.ob (by assumption) | exact isHist.ob (by assumption) | exact isTxt.ob (by assumption))))) rfl rfl (by decide) (by rfl) rfl (Nat.le_of_ble_eq_true rfl) (Nat.zero_add _) (Nat.zero_add _) (fun v9 h9 n9 q9 => ?_)
        obtain ⟨rfl, w9, f9⟩ := q9
        rw [take_rep] at w9
        refine J_pop dX7_addTimes_12 rfl ?_
        refine J_iincN dX7_addTimes_13 (by rfl) (by decide) (by rfl) ?_
        refine J_goto (tgt := 2) dX7_addTimes_16 (by decide) ?_
        exact J_sub (by repeat (first | exact subl_nil | refine subl_cons rfl ?_)) (ih (k + 1) _ _ (by omega) w9 (fr_tr hf f9))
  refine J_iconst (v := 0) dX7_addTimes_0 (by decide) ?_
  refine J_istore_n dX7_addTimes_1 (by decide) (by rfl) ?_
  exact J_sub (by repeat (first | exact subl_nil | refine subl_cons rfl ?_)) (loop t 0 _ _ (by omega) (by rw [List.replicate_zero, List.append_nil, List.take_of_length_le w.le.1]; exact w) fr_rf)
/-- the crossings of the first k characters -/
def pbT (cs : List Int32) : Nat → List Int32
  | 0 => []
  | k + 1 => pbT cs k ++ if cro (cs.getD k 0) = 0 then [] else List.replicate (tms (cs.getD (k + 1) 0)) (cro (cs.getD k 0))
def pb (cs : List Int32) : List Int32 := pbT cs cs.length
theorem take_app {xs ys : List Int32} {c : Nat} : (xs.take c ++ ys).take c = (xs ++ ys).take c := by
  rcases Nat.le_total xs.length c with h | h
  · rw [List.take_of_length_le h]
  · rw [List.take_append_of_le_length (by simp; omega), List.take_append_of_le_length h, List.take_take, Nat.min_self]
set_option maxRecDepth 20000 in
theorem sp_X7_putBehind {G : GG} {h : HP} {a r cap : Nat} {cs xs : List Int32} (v : isTxt G h a cs) (w : isRow G h r cap xs) (hd : a + 2 ≤ r ∨ r + 2 ≤ a) (n : Nat) : Sp G mm_X7_putBehind 2 0 0 [.ref a, .ref r] h n (fun v h' _ => v = none ∧ isRow G h' r cap ((xs ++ pb cs).take cap) ∧ fr r (r + 2) h h') := by
  refine Sp_of (by decide +kernel) (Nat.le_of_ble_eq_true rfl) ?_
  have hle := v.le
  have loop : ∀ (j k : Nat) (hh : HP) (n1 : Nat), k + j = cs.length → isRow G hh r cap ((xs ++ pbT cs k).take cap) → fr r (r + 2) h hh → J (g0 G) mm_X7_putBehind 2 2 [(0, .ref a), (1, .ref r), (2, .int (nI k))] [] hh n1 0 0 (RT mm_X7_putBehind (fun v h' _ => v = none ∧ isRow G h' r cap ((xs ++ pb cs).take cap) ∧ fr r (r + 2) h h')) := by
    intro j
    induction j with
    | zero =>
      intro k hh n1 hj ww hf
      have vv := v.fr hf (by omega)
      refine J_iload_n dX7_putBehind_2 (by rfl) ?_
      refine J_aload_n dX7_putBehind_3 (by rfl) ?_
      refine J_get fg_X7_15 dX7_putBehind_4 (by first | assumption | exact isRow.ob (by assumption) | exact isHnd.ob (by assumption) | exact isUnt.ob (by assumption) | exact isSt.ob (by assumption) | exact isHist.ob (by assumption) | exact isTxt.ob (by assumption) | exact hset_s | exact (hset_n (by first | assumption | omega)).trans (by first | assumption | exact isRow.ob (by assumption) | exact isHnd.ob (by assumption) | exact isUnt.ob (by assumption) | exact isSt.ob (by assumption) | exact isHist.ob (by assumption) | exact isTxt.ob (by assumption) | exact hset_s | exact (hset_n (by first | assumption | omega)).trans (by first | assumption | exact isRow.ob (by assumption) | exact isHnd.ob (by assumption) | exact isUnt.ob (by assumption) | exact isSt.ob (by assumption) | exact isHist.ob (by assumption) | exact isTxt.ob (by assumption) | exact hset_s | exact (hset_n (by first | assumption | omega)).trans (by first | assumption | exact isRow.ob (by assumption) | exact isHnd.ob (by assumption) | exact isUnt.ob (by assumption) | exact isSt.ob (by assumption) | exact isHist.ob (by assumption) | exact isTxt.ob (by assumption))))) (by rfl) ?_
      refine J_icmp_ge (tgt := 57) dX7_putBehind_7 (by decide) (fun c7 => ?_) (fun c7 => ?_)
      · rw [nI_leI (by omega) (by omega)] at c7
        exact J_return dX7_putBehind_57 rfl (⟨rfl, by rw [pb, show cs.length = k by omega]; exact ww, hf⟩)
      · rw [nI_leI (by omega) (by omega)] at c7
        exact absurd (by omega) c7
    | succ j ih =>
      intro k hh n1 hj ww hf
      have vv := v.fr hf (by omega)
      have htm := tms_nat (cs.getD (k + 1) 0)
      refine J_iload_n dX7_putBehind_2 (by rfl) ?_
      refine J_aload_n dX7_putBehind_3 (by rfl) ?_
      refine J_get fg_X7_15 dX7_putBehind_4 (by first | assumption | exact isRow.ob (by assumption) | exact isHnd.ob (by assumption) | exact isUnt.ob (by assumption) | exact isSt.ob (by assumption) | exact isHist.ob (by assumption) | exact isTxt.ob (by assumption) | exact hset_s | exact (hset_n (by first | assumption | omega)).trans (by first | assumption | exact isRow.ob (by assumption) | exact isHnd.ob (by assumption) | exact isUnt.ob (by assumption) | exact isSt.ob (by assumption) | exact isHist.ob (by assumption) | exact isTxt.ob (by assumption) | exact hset_s | exact (hset_n (by first | assumption | omega)).trans (by first | assumption | exact isRow.ob (by assumption) | exact isHnd.ob (by assumption) | exact isUnt.ob (by assumption) | exact isSt.ob (by assumption) | exact isHist.ob (by assumption) | exact isTxt.ob (by assumption) | exact hset_s | exact (hset_n (by first | assumption | omega)).trans (by first | assumption | exact isRow.ob (by assumption) | exact isHnd.ob (by assumption) | exact isUnt.ob (by assumption) | exact isSt.ob (by assumption) | exact isHist.ob (by assumption) | exact isTxt.ob (by assumption))))) (by rfl) ?_
      refine J_icmp_ge (tgt := 57) dX7_putBehind_7 (by decide) (fun c7 => ?_) (fun c7 => ?_)
      · rw [nI_leI (by omega) (by omega)] at c7
        exact absurd c7 (by omega)
      · rw [nI_leI (by omega) (by omega)] at c7
        refine J_aload_n dX7_putBehind_10 (by rfl) ?_
        refine J_iload_n dX7_putBehind_11 (by rfl) ?_
        refine J_callV mf_X7_codeAt lk_X7_19 mi_X7_codeAt mv_X7_codeAt (sp_X7_codeAt vv (k := k) (by omega) _) dX7_putBehind_12 (by first | assumption | exact isRow.ob (by assumption) | exact isHnd.ob (by assumption) | exact isUnt.ob (by assumption) | exact isSt.ob (by assumption) | exact isHist.ob (by assumption) | exact isTxt.ob (by assumption) | exact hset_s | exact (hset_n (by first | assumption | omega)).trans (by first | assumption | exact isRow.ob (by assumption) | exact isHnd.ob (by assumption) | exact isUnt.ob (by assumption) | exact isSt.ob (by assumption) | exact isHist.ob (by assumption) | exact isTxt.ob (by assumption) | exact hset_s | exact (hset_n (by first | assumption | omega)).trans (by first | assumption | exact isRow.ob (by assumption) | exact isHnd.ob (by assumption) | exact isUnt.ob (by assumption) | exact isSt.ob (by assumption) | exact isHist.ob (by assumption) | exact isTxt.ob (by assumption) | exact hset_s | exact (hset_n (by first | assumption | omega)).trans (by first | assumption | exact isRow.ob (by assumption) | exact isHnd.ob (by assumption) | exact isUnt.ob (by assumption) | exact isSt.ob (by assumption) | exact isHist.ob (by assumption) | exact isTxt.ob (by assumption))))) rfl rfl (by decide) (by rfl) rfl (Nat.le_of_ble_eq_true rfl) (Nat.zero_add _) (Nat.zero_add _) (fun v12 h12 n12 q12 => ?_)
        obtain ⟨rfl, rfl⟩ := q12
        refine J_callS mf_X7_crossingOf lk_X7_23 ms_X7_crossingOf (sp_X7_crossingOf _ (cs.getD k 0) _) dX7_putBehind_15 (by decide) (by rfl) rfl (Nat.le_of_ble_eq_true rfl) (Nat.zero_add _) (Nat.zero_add _) (fun v15 h15 n15 q15 => ?_)
        obtain ⟨rfl, rfl⟩ := q15
        refine J_istore_n dX7_putBehind_18 (by decide) (by rfl) ?_
        refine J_iload_n dX7_putBehind_19 (by rfl) ?_
        refine J_if_eq (tgt := 51) dX7_putBehind_20 (by decide) (fun c20 => ?_) (fun c20 => ?_)
        · refine J_iincN dX7_putBehind_51 (by rfl) (by decide) (by rfl) ?_
          refine J_goto (tgt := 2) dX7_putBehind_54 (by decide) ?_
          first
            | exact J_sub (by repeat (first | exact subl_nil | refine subl_cons rfl ?_)) (ih (k + 1) _ _ (by omega) (by rw [pbT, if_neg c20]; exact w48) (fr_tr hf f48))
            | exact J_sub (by repeat (first | exact subl_nil | refine subl_cons rfl ?_)) (ih (k + 1) _ _ (by omega) (by rw [pbT, if_pos c20, List.append_nil]; exact ww) hf)
        · refine J_aload_n dX7_putBehind_23 (by rfl) ?_
          refine J_iload_n dX7_putBehind_24 (by rfl) ?_
          refine J_iconst (v := 1) dX7_putBehind_25 (by decide) ?_
          refine J_iadd dX7_putBehind_26 ?_
          rw [nI_1]
          refine J_callV mf_X7_codeAt lk_X7_19 mi_X7_codeAt mv_X7_codeAt (sp_X7_codeAt vv (k := k + 1) (by omega) _) dX7_putBehind_27 (by first | assumption | exact isRow.ob (by assumption) | exact isHnd.ob (by assumption) | exact isUnt.ob (by assumption) | exact isSt.ob (by assumption) | exact isHist.ob (by assumption) | exact isTxt.ob (by assumption) | exact hset_s | exact (hset_n (by first | assumption | omega)).trans (by first | assumption | exact isRow.ob (by assumption) | exact isHnd.ob (by assumption) | exact isUnt.ob (by assumption) | exact isSt.ob (by assumption) | exact isHist.ob (by assumption) | exact isTxt.ob (by assumption) | exact hset_s | exact (hset_n (by first | assumption | omega)).trans (by first | assumption | exact isRow.ob (by assumption) | exact isHnd.ob (by assumption) | exact isUnt.ob (by assumption) | exact isSt.ob (by assumption) | exact isHist.ob (by assumption) | exact isTxt.ob (by assumption) | exact hset_s | exact (hset_n (by first | assumption | omega)).trans (by first | assumption | exact isRow.ob (by assumption) | exact isHnd.ob (by assumption) | exact isUnt.ob (by assumption) | exact isSt.ob (by assumption) | exact isHist.ob (by assumption) | exact isTxt.ob (by assumption))))) rfl rfl (by decide) (by rfl) rfl (Nat.le_of_ble_eq_true rfl) (Nat.zero_add _) (Nat.zero_add _) (fun v27 h27 n27 q27 => ?_)
          obtain ⟨rfl, rfl⟩ := q27
          refine J_callS mf_X7_figureOf lk_X7_26 ms_X7_figureOf (sp_X7_figureOf _ (cs.getD (k + 1) 0) _) dX7_putBehind_30 (by decide) (by rfl) rfl (Nat.le_of_ble_eq_true rfl) (Nat.zero_add _) (Nat.zero_add _) (fun v30 h30 n30 q30 => ?_)
          obtain ⟨rfl, rfl⟩ := q30
          refine J_istore dX7_putBehind_33 (by decide) (by rfl) ?_
          refine J_aload_n dX7_putBehind_35 (by rfl) ?_
          refine J_iload_n dX7_putBehind_36 (by rfl) ?_
          refine J_iload dX7_putBehind_37 (by rfl) ?_
          refine J_if_ne (tgt := 46) dX7_putBehind_39 (by decide) (fun c39 => ?_) (fun c39 => ?_)
          · refine J_iload dX7_putBehind_46 (by rfl) ?_
            refine J_topi (y := nI (tms (cs.getD (k + 1) 0))) (by rw [htm.1]; first | rw [if_pos c39] | rw [if_neg c39]) ?_
            refine J_callS mf_X7_addTimes lk_X7_33 ms_X7_addTimes (sp_X7_addTimes (t := tms (cs.getD (k + 1) 0)) ww htm.2 (cro (cs.getD k 0)) _) dX7_putBehind_48 (by decide) (by rfl) rfl (Nat.le_of_ble_eq_true rfl) (Nat.zero_add _) (Nat.zero_add _) (fun v48 h48 n48 q48 => ?_)
            obtain ⟨rfl, w48, f48⟩ := q48
            rw [take_app, List.append_assoc] at w48
            refine J_iincN dX7_putBehind_51 (by rfl) (by decide) (by rfl) ?_
            refine J_goto (tgt := 2) dX7_putBehind_54 (by decide) ?_
            first
              | exact J_sub (by repeat (first | exact subl_nil | refine subl_cons rfl ?_)) (ih (k + 1) _ _ (by omega) (by rw [pbT, if_neg c20]; exact w48) (fr_tr hf f48))
              | exact J_sub (by repeat (first | exact subl_nil | refine subl_cons rfl ?_)) (ih (k + 1) _ _ (by omega) (by rw [pbT, if_pos c20, List.append_nil]; exact ww) hf)
          · refine J_iconst (v := 1) dX7_putBehind_42 (by decide) ?_
            refine J_goto (tgt := 48) dX7_putBehind_43 (by decide) ?_
            refine J_topi (y := nI (tms (cs.getD (k + 1) 0))) (by rw [htm.1]; first | rw [if_pos c39] | rw [if_neg c39]) ?_
            refine J_callS mf_X7_addTimes lk_X7_33 ms_X7_addTimes (sp_X7_addTimes (t := tms (cs.getD (k + 1) 0)) ww htm.2 (cro (cs.getD k 0)) _) dX7_putBehind_48 (by decide) (by rfl) rfl (Nat.le_of_ble_eq_true rfl) (Nat.zero_add _) (Nat.zero_add _) (fun v48 h48 n48 q48 => ?_)
            obtain ⟨rfl, w48, f48⟩ := q48
            rw [take_app, List.append_assoc] at w48
            refine J_iincN dX7_putBehind_51 (by rfl) (by decide) (by rfl) ?_
            refine J_goto (tgt := 2) dX7_putBehind_54 (by decide) ?_
            first
              | exact J_sub (by repeat (first | exact subl_nil | refine subl_cons rfl ?_)) (ih (k + 1) _ _ (by omega) (by rw [pbT, if_neg c20]; exact w48) (fr_tr hf f48))
              | exact J_sub (by repeat (first | exact subl_nil | refine subl_cons rfl ?_)) (ih (k + 1) _ _ (by omega) (by rw [pbT, if_pos c20, List.append_nil]; exact ww) hf)
  refine J_iconst (v := 0) dX7_putBehind_0 (by decide) ?_
  refine J_istore_n dX7_putBehind_1 (by decide) (by rfl) ?_
  exact J_sub (by repeat (first | exact subl_nil | refine subl_cons rfl ?_)) (loop cs.length 0 _ _ (by omega) (by rw [pbT, List.append_nil, List.take_of_length_le w.le.1]; exact w) fr_rf)
