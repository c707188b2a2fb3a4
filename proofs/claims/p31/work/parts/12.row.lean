/-! Row: the row of crossings xs, in the object at r and its array at r + 1, with room for cap -/
def fr (lo hi : Nat) (h h' : HP) : Prop := ∀ a, a < lo ∨ hi ≤ a → h' a = h a
theorem fr_rf {lo hi : Nat} {h : HP} : fr lo hi h h := fun _ _ => rfl
theorem fr_tr {lo hi : Nat} {h h1 h2 : HP} (a : fr lo hi h h1) (b : fr lo hi h1 h2) : fr lo hi h h2 := fun q hq => (b q hq).trans (a q hq)
theorem fr_mono {lo hi lo2 hi2 : Nat} {h h' : HP} (a : fr lo hi h h') (h1 : lo2 ≤ lo) (h2 : hi ≤ hi2) : fr lo2 hi2 h h' := fun q hq => a q (by omega)
theorem fr_set {lo hi q : Nat} {e : va_E} {h : HP} (h1 : lo ≤ q) (h2 : q < hi) : fr lo hi h (hset h q e) := fun a ha => hset_n (by omega)
theorem nI_zle {k : Nat} (hk : k < 2 ^ 31) : (0 : Int32) ≤ nI k := nI_pos' hk
def isRow (G : GG) (h : HP) (r cap : Nat) (xs : List Int32) : Prop := ∃ f : Nat → Int32, h r = some (.inr (4, [.ref (r + 1), .int (nI xs.length)])) ∧ h (r + 1) = some (.inl (G.2.1 0, cap, .inl f)) ∧ xs.length ≤ cap ∧ cap < 1000 ∧ ∀ k, k < xs.length → f k = xs.getD k 0
theorem isRow.ob {G : GG} {h : HP} {r cap : Nat} {xs : List Int32} (w : isRow G h r cap xs) : h r = some (.inr (4, [.ref (r + 1), .int (nI xs.length)])) := by
  obtain ⟨f, h1, -⟩ := w
  exact h1
theorem isRow.keep {G : GG} {h h' : HP} {r cap : Nat} {xs : List Int32} (w : isRow G h r cap xs) (k0 : h' r = h r) (k1 : h' (r + 1) = h (r + 1)) : isRow G h' r cap xs := by
  obtain ⟨f, h1, h2, h3⟩ := w
  exact ⟨f, k0.trans h1, k1.trans h2, h3⟩
theorem isRow.fr {G : GG} {h h' : HP} {r cap lo hi : Nat} {xs : List Int32} (w : isRow G h r cap xs) (k : fr lo hi h h') (hd : r + 2 ≤ lo ∨ hi ≤ r) : isRow G h' r cap xs := w.keep (k _ (by omega)) (k _ (by omega))
theorem isRow.le {G : GG} {h : HP} {r cap : Nat} {xs : List Int32} (w : isRow G h r cap xs) : xs.length ≤ cap ∧ cap < 1000 := by
  obtain ⟨f, h1, h2, h3, h4, -⟩ := w
  exact ⟨h3, h4⟩
theorem getD_ge {xs : List Int32} {k : Nat} (h : xs.length ≤ k) : xs.getD k 0 = 0 := by simp [List.getD, List.getElem?_eq_none h]
theorem getD_lt {xs : List Int32} {k : Nat} (h : k < xs.length) : xs.getD k 0 = xs[k] := by simp [List.getD, List.getElem?_eq_getElem h]
theorem take_push {l : List Int32} {c : Nat} {y : Int32} : (l.take c ++ [y]).take c = (l ++ [y]).take c := by
  rcases Nat.le_total l.length c with h | h
  · rw [List.take_of_length_le h]
  · rw [List.take_append_of_le_length (by simp; omega), List.take_append_of_le_length h, List.take_take, Nat.min_self]
theorem take_get {ys : List Int32} {k : Nat} (h : k < ys.length) : ys.take (k + 1) = ys.take k ++ [ys.getD k 0] := by
  rw [List.take_succ, List.getElem?_eq_getElem h, getD_lt h]; rfl
theorem row_upd {f : Nat → Int32} {xs : List Int32} (hf : ∀ k, k < xs.length → f k = xs.getD k 0) (k : Nat) (x : Int32) : ∀ j, j < (xs.set k x).length → upd f k x j = (xs.set k x).getD j 0 := by
  intro j hj
  rw [List.length_set] at hj
  by_cases e : j = k
  · subst e
    simp [upd, List.getD, hj]
  · simp only [upd, e, if_false]
    rw [hf j hj]
    simp [List.getD, List.getElem?_set, Ne.symm e]
theorem row_push {f : Nat → Int32} {xs : List Int32} (hf : ∀ k, k < xs.length → f k = xs.getD k 0) (x : Int32) : ∀ j, j < (xs ++ [x]).length → upd f xs.length x j = (xs ++ [x]).getD j 0 := by
  intro j hj
  rw [List.length_append] at hj
  simp only [List.length_cons, List.length_nil] at hj
  by_cases e : j = xs.length
  · subst e
    simp [upd, List.getD]
  · simp only [upd, e, if_false]
    rw [hf j (by omega)]
    simp [List.getD, List.getElem?_append_left (show j < xs.length by omega)]
theorem subl_nil {l : LV} : subl [] l := trivial
theorem subl_cons {q : Nat × Value} {t l : LV} (h1 : lget l q.1 = some q.2) (h2 : subl t l) : subl (q :: t) l := ⟨h1, h2⟩
theorem J_iincN {G : GG} {M : MI} {d pc : Nat} {lv : LV} {st : List Value} {h : HP} {n kc kn : Nat} {Q : Nat → List Value → HP → Nat → Prop} {i a : Nat} {z : Int} (hd : decode M.2.1 pc = .ok (.iinc i z, 3)) (hx : lget lv i = some (.int (nI a))) (hv : Int32.ofInt z = 1) (hk : lok lv i = true) (k : J G M d (pc + 3) ((i, .int (nI (a + 1))) :: lv) st h n kc kn Q) : J G M d pc lv st h n kc kn Q := J_iinc hd hx hv hk (by rw [nI_1]; exact k)
theorem J_iincM {G : GG} {M : MI} {d pc : Nat} {lv : LV} {st : List Value} {h : HP} {n kc kn : Nat} {Q : Nat → List Value → HP → Nat → Prop} {i a : Nat} {z : Int} (hd : decode M.2.1 pc = .ok (.iinc i z, 3)) (hx : lget lv i = some (.int (nI (a + 1)))) (hv : Int32.ofInt z = -1) (hk : lok lv i = true) (k : J G M d (pc + 3) ((i, .int (nI a)) :: lv) st h n kc kn Q) : J G M d pc lv st h n kc kn Q := J_iinc hd hx hv hk (by rw [pk_m1]; exact k)
set_option maxRecDepth 20000 in
theorem sp_X5_at {G : GG} {h : HP} {r cap : Nat} {xs : List Int32} (w : isRow G h r cap xs) {k : Nat} (hk : k < 2 ^ 31) (n : Nat) : Sp G mm_X5_at 0 0 0 [.ref r, .int (nI k)] h n (fun v h' _ => v = some (.int (xs.getD k 0)) ∧ h' = h) := by
  obtain ⟨f, h1, h2, h3, h4, h5⟩ := w
  refine Sp_of (by decide +kernel) (Nat.le_of_ble_eq_true rfl) ?_
  refine J_iload_n dX5_at_0 (by rfl) ?_
  refine J_if_lt (tgt := 30) dX5_at_1 (by decide) (fun c1 => ?_) (fun c1 => ?_)
  · exact absurd c1 (nI_pos hk)
  · refine J_iload_n dX5_at_4 (by rfl) ?_
    refine J_aload_n dX5_at_5 (by rfl) ?_
    refine J_get fg_X5_13 dX5_at_6 (by first | assumption | exact isRow.ob (by assumption) | exact hset_s | exact (hset_n (by first | assumption | omega)).trans (by first | assumption | exact isRow.ob (by assumption) | exact hset_s | exact (hset_n (by first | assumption | omega)).trans (by first | assumption | exact isRow.ob (by assumption) | exact hset_s | exact (hset_n (by first | assumption | omega)).trans (by first | assumption | exact isRow.ob (by assumption))))) (by rfl) ?_
    refine J_icmp_ge (tgt := 30) dX5_at_9 (by decide) (fun c9 => ?_) (fun c9 => ?_)
    · rw [nI_leI (by omega) (by omega)] at c9
      refine J_iconst (v := 0) dX5_at_30 (by decide) ?_
      exact J_ireturn dX5_at_31 rfl (by rfl) (⟨by first | (rw [nI_clamp (by omega), h5 k (by omega)]) | (rw [getD_ge (by omega)]), rfl⟩)
    · rw [nI_leI (by omega) (by omega)] at c9
      refine J_iload_n dX5_at_12 (by rfl) ?_
      refine J_aload_n dX5_at_13 (by rfl) ?_
      refine J_get fg_X5_7 dX5_at_14 (by first | assumption | exact isRow.ob (by assumption) | exact hset_s | exact (hset_n (by first | assumption | omega)).trans (by first | assumption | exact isRow.ob (by assumption) | exact hset_s | exact (hset_n (by first | assumption | omega)).trans (by first | assumption | exact isRow.ob (by assumption) | exact hset_s | exact (hset_n (by first | assumption | omega)).trans (by first | assumption | exact isRow.ob (by assumption))))) (by rfl) ?_
      refine J_alen (t := 0) (by decide) dX5_at_17 (by first | assumption | exact isRow.ob (by assumption) | exact hset_s | exact (hset_n (by first | assumption | omega)).trans (by first | assumption | exact isRow.ob (by assumption) | exact hset_s | exact (hset_n (by first | assumption | omega)).trans (by first | assumption | exact isRow.ob (by assumption) | exact hset_s | exact (hset_n (by first | assumption | omega)).trans (by first | assumption | exact isRow.ob (by assumption))))) ?_
      refine J_icmp_ge (tgt := 30) dX5_at_18 (by decide) (fun c18 => ?_) (fun c18 => ?_)
      · exact absurd ((nI_leI (a := cap) (by omega) (by omega)).mp c18) (by omega)
      · refine J_aload_n dX5_at_21 (by rfl) ?_
        refine J_get fg_X5_7 dX5_at_22 (by first | assumption | exact isRow.ob (by assumption) | exact hset_s | exact (hset_n (by first | assumption | omega)).trans (by first | assumption | exact isRow.ob (by assumption) | exact hset_s | exact (hset_n (by first | assumption | omega)).trans (by first | assumption | exact isRow.ob (by assumption) | exact hset_s | exact (hset_n (by first | assumption | omega)).trans (by first | assumption | exact isRow.ob (by assumption))))) (by rfl) ?_
        refine J_iload_n dX5_at_25 (by rfl) ?_
        refine J_iald dX5_at_26 (by first | assumption | exact isRow.ob (by assumption) | exact hset_s | exact (hset_n (by first | assumption | omega)).trans (by first | assumption | exact isRow.ob (by assumption) | exact hset_s | exact (hset_n (by first | assumption | omega)).trans (by first | assumption | exact isRow.ob (by assumption) | exact hset_s | exact (hset_n (by first | assumption | omega)).trans (by first | assumption | exact isRow.ob (by assumption))))) (vp_in_nI (by omega) (by omega)) ?_
        refine J_goto (tgt := 31) dX5_at_27 (by decide) ?_
        exact J_ireturn dX5_at_31 rfl (by rfl) (⟨by first | (rw [nI_clamp (by omega), h5 k (by omega)]) | (rw [getD_ge (by omega)]), rfl⟩)

set_option maxRecDepth 20000 in
theorem sp_X5_put {G : GG} {h : HP} {r cap : Nat} {xs : List Int32} (w : isRow G h r cap xs) {k : Nat} (hk : k < 2 ^ 31) (x : Int32) (n : Nat) : Sp G mm_X5_put 0 0 0 [.ref r, .int (nI k), .int x] h n (fun v h' _ => v = none ∧ isRow G h' r cap (xs.set k x) ∧ fr r (r + 2) h h') := by
  have w0 := w
  obtain ⟨f, h1, h2, h3, h4, h5⟩ := w
  refine Sp_of (by decide +kernel) (Nat.le_of_ble_eq_true rfl) ?_
  refine J_iload_n dX5_put_0 (by rfl) ?_
  refine J_if_lt (tgt := 28) dX5_put_1 (by decide) (fun c1 => ?_) (fun c1 => ?_)
  · exact absurd c1 (nI_pos hk)
  · refine J_iload_n dX5_put_4 (by rfl) ?_
    refine J_aload_n dX5_put_5 (by rfl) ?_
    refine J_get fg_X5_13 dX5_put_6 (by first | assumption | exact isRow.ob (by assumption) | exact hset_s | exact (hset_n (by first | assumption | omega)).trans (by first | assumption | exact isRow.ob (by assumption) | exact hset_s | exact (hset_n (by first | assumption | omega)).trans (by first | assumption | exact isRow.ob (by assumption) | exact hset_s | exact (hset_n (by first | assumption | omega)).trans (by first | assumption | exact isRow.ob (by assumption))))) (by rfl) ?_
    refine J_icmp_ge (tgt := 28) dX5_put_9 (by decide) (fun c9 => ?_) (fun c9 => ?_)
    · rw [nI_leI (by omega) (by omega)] at c9
      exact J_return dX5_put_28 rfl (⟨rfl, by first | (rw [List.set_eq_of_length_le (by omega)]; exact w0) | (exact ⟨upd f k x, (hset_n (by omega)).trans (by rw [List.length_set]; exact h1), hset_s.trans (by rw [nI_clamp (by omega)]), by rw [List.length_set]; exact h3, h4, row_upd h5 k x⟩), by first | exact fr_rf | exact fr_set (by omega) (by omega)⟩)
    · rw [nI_leI (by omega) (by omega)] at c9
      refine J_iload_n dX5_put_12 (by rfl) ?_
      refine J_aload_n dX5_put_13 (by rfl) ?_
      refine J_get fg_X5_7 dX5_put_14 (by first | assumption | exact isRow.ob (by assumption) | exact hset_s | exact (hset_n (by first | assumption | omega)).trans (by first | assumption | exact isRow.ob (by assumption) | exact hset_s | exact (hset_n (by first | assumption | omega)).trans (by first | assumption | exact isRow.ob (by assumption) | exact hset_s | exact (hset_n (by first | assumption | omega)).trans (by first | assumption | exact isRow.ob (by assumption))))) (by rfl) ?_
      refine J_alen (t := 0) (by decide) dX5_put_17 (by first | assumption | exact isRow.ob (by assumption) | exact hset_s | exact (hset_n (by first | assumption | omega)).trans (by first | assumption | exact isRow.ob (by assumption) | exact hset_s | exact (hset_n (by first | assumption | omega)).trans (by first | assumption | exact isRow.ob (by assumption) | exact hset_s | exact (hset_n (by first | assumption | omega)).trans (by first | assumption | exact isRow.ob (by assumption))))) ?_
      refine J_icmp_ge (tgt := 28) dX5_put_18 (by decide) (fun c18 => ?_) (fun c18 => ?_)
      · exact absurd ((nI_leI (a := cap) (by omega) (by omega)).mp c18) (by omega)
      · refine J_aload_n dX5_put_21 (by rfl) ?_
        refine J_get fg_X5_7 dX5_put_22 (by first | assumption | exact isRow.ob (by assumption) | exact hset_s | exact (hset_n (by first | assumption | omega)).trans (by first | assumption | exact isRow.ob (by assumption) | exact hset_s | exact (hset_n (by first | assumption | omega)).trans (by first | assumption | exact isRow.ob (by assumption) | exact hset_s | exact (hset_n (by first | assumption | omega)).trans (by first | assumption | exact isRow.ob (by assumption))))) (by rfl) ?_
        refine J_iload_n dX5_put_25 (by rfl) ?_
        refine J_iload_n dX5_put_26 (by rfl) ?_
        refine J_iast dX5_put_27 (by first | assumption | exact isRow.ob (by assumption) | exact hset_s | exact (hset_n (by first | assumption | omega)).trans (by first | assumption | exact isRow.ob (by assumption) | exact hset_s | exact (hset_n (by first | assumption | omega)).trans (by first | assumption | exact isRow.ob (by assumption) | exact hset_s | exact (hset_n (by first | assumption | omega)).trans (by first | assumption | exact isRow.ob (by assumption))))) (vp_in_nI (by omega) (by omega)) ?_
        exact J_return dX5_put_28 rfl (⟨rfl, by first | (rw [List.set_eq_of_length_le (by omega)]; exact w0) | (exact ⟨upd f k x, (hset_n (by omega)).trans (by rw [List.length_set]; exact h1), hset_s.trans (by rw [nI_clamp (by omega)]), by rw [List.length_set]; exact h3, h4, row_upd h5 k x⟩), by first | exact fr_rf | exact fr_set (by omega) (by omega)⟩)
set_option maxRecDepth 20000 in
theorem sp_X5_add {G : GG} {h : HP} {r cap : Nat} {xs : List Int32} (w : isRow G h r cap xs) (x : Int32) (n : Nat) : Sp G mm_X5_add 0 0 0 [.ref r, .int x] h n (fun v h' _ => v = some (.int (if xs.length < cap then 1 else 0)) ∧ isRow G h' r cap ((xs ++ [x]).take cap) ∧ fr r (r + 2) h h') := by
  have w0 := w
  obtain ⟨f, h1, h2, h3, h4, h5⟩ := w
  refine Sp_of (by decide +kernel) (Nat.le_of_ble_eq_true rfl) ?_
  refine J_aload_n dX5_add_0 (by rfl) ?_
  refine J_get fg_X5_13 dX5_add_1 (by first | assumption | exact isRow.ob (by assumption) | exact hset_s | exact (hset_n (by first | assumption | omega)).trans (by first | assumption | exact isRow.ob (by assumption) | exact hset_s | exact (hset_n (by first | assumption | omega)).trans (by first | assumption | exact isRow.ob (by assumption) | exact hset_s | exact (hset_n (by first | assumption | omega)).trans (by first | assumption | exact isRow.ob (by assumption))))) (by rfl) ?_
  refine J_if_lt (tgt := 19) dX5_add_4 (by decide) (fun c4 => ?_) (fun c4 => ?_)
  · exact absurd c4 (nI_pos (by omega))
  · refine J_aload_n dX5_add_7 (by rfl) ?_
    refine J_get fg_X5_13 dX5_add_8 (by first | assumption | exact isRow.ob (by assumption) | exact hset_s | exact (hset_n (by first | assumption | omega)).trans (by first | assumption | exact isRow.ob (by assumption) | exact hset_s | exact (hset_n (by first | assumption | omega)).trans (by first | assumption | exact isRow.ob (by assumption) | exact hset_s | exact (hset_n (by first | assumption | omega)).trans (by first | assumption | exact isRow.ob (by assumption))))) (by rfl) ?_
    refine J_aload_n dX5_add_11 (by rfl) ?_
    refine J_get fg_X5_7 dX5_add_12 (by first | assumption | exact isRow.ob (by assumption) | exact hset_s | exact (hset_n (by first | assumption | omega)).trans (by first | assumption | exact isRow.ob (by assumption) | exact hset_s | exact (hset_n (by first | assumption | omega)).trans (by first | assumption | exact isRow.ob (by assumption) | exact hset_s | exact (hset_n (by first | assumption | omega)).trans (by first | assumption | exact isRow.ob (by assumption))))) (by rfl) ?_
    refine J_alen (t := 0) (by decide) dX5_add_15 (by first | assumption | exact isRow.ob (by assumption) | exact hset_s | exact (hset_n (by first | assumption | omega)).trans (by first | assumption | exact isRow.ob (by assumption) | exact hset_s | exact (hset_n (by first | assumption | omega)).trans (by first | assumption | exact isRow.ob (by assumption) | exact hset_s | exact (hset_n (by first | assumption | omega)).trans (by first | assumption | exact isRow.ob (by assumption))))) ?_
    refine J_icmp_lt (tgt := 21) dX5_add_16 (by decide) (fun c16 => ?_) (fun c16 => ?_)
    · have e16 : xs.length < cap := (nI_ltI (by omega) (by omega)).mp c16
      refine J_aload_n dX5_add_21 (by rfl) ?_
      refine J_get fg_X5_7 dX5_add_22 (by first | assumption | exact isRow.ob (by assumption) | exact hset_s | exact (hset_n (by first | assumption | omega)).trans (by first | assumption | exact isRow.ob (by assumption) | exact hset_s | exact (hset_n (by first | assumption | omega)).trans (by first | assumption | exact isRow.ob (by assumption) | exact hset_s | exact (hset_n (by first | assumption | omega)).trans (by first | assumption | exact isRow.ob (by assumption))))) (by rfl) ?_
      refine J_aload_n dX5_add_25 (by rfl) ?_
      refine J_get fg_X5_13 dX5_add_26 (by first | assumption | exact isRow.ob (by assumption) | exact hset_s | exact (hset_n (by first | assumption | omega)).trans (by first | assumption | exact isRow.ob (by assumption) | exact hset_s | exact (hset_n (by first | assumption | omega)).trans (by first | assumption | exact isRow.ob (by assumption) | exact hset_s | exact (hset_n (by first | assumption | omega)).trans (by first | assumption | exact isRow.ob (by assumption))))) (by rfl) ?_
      refine J_iload_n dX5_add_29 (by rfl) ?_
      refine J_iast dX5_add_30 (by first | assumption | exact isRow.ob (by assumption) | exact hset_s | exact (hset_n (by first | assumption | omega)).trans (by first | assumption | exact isRow.ob (by assumption) | exact hset_s | exact (hset_n (by first | assumption | omega)).trans (by first | assumption | exact isRow.ob (by assumption) | exact hset_s | exact (hset_n (by first | assumption | omega)).trans (by first | assumption | exact isRow.ob (by assumption))))) (vp_in_nI e16 (by omega)) ?_
      refine J_aload_n dX5_add_31 (by rfl) ?_
      refine J_dup dX5_add_32 rfl ?_
      refine J_get fg_X5_13 dX5_add_33 (by first | assumption | exact isRow.ob (by assumption) | exact hset_s | exact (hset_n (by first | assumption | omega)).trans (by first | assumption | exact isRow.ob (by assumption) | exact hset_s | exact (hset_n (by first | assumption | omega)).trans (by first | assumption | exact isRow.ob (by assumption) | exact hset_s | exact (hset_n (by first | assumption | omega)).trans (by first | assumption | exact isRow.ob (by assumption))))) (by rfl) ?_
      refine J_iconst (v := 1) dX5_add_36 (by decide) ?_
      refine J_iadd dX5_add_37 ?_
      refine J_put fp_X5_13 dX5_add_38 (by first | assumption | exact isRow.ob (by assumption) | exact hset_s | exact (hset_n (by first | assumption | omega)).trans (by first | assumption | exact isRow.ob (by assumption) | exact hset_s | exact (hset_n (by first | assumption | omega)).trans (by first | assumption | exact isRow.ob (by assumption) | exact hset_s | exact (hset_n (by first | assumption | omega)).trans (by first | assumption | exact isRow.ob (by assumption))))) (Nat.le_of_ble_eq_true rfl) (by rfl) (by rfl) ?_
      refine J_iconst (v := 1) dX5_add_41 (by decide) ?_
      exact J_ireturn dX5_add_42 rfl (by rfl) (⟨by rw [if_pos e16], by rw [List.take_of_length_le (by simp; omega)]; exact ⟨upd f xs.length x, hset_s.trans (by rw [List.length_append, nI_1]; rfl), (hset_n (by omega)).trans (hset_s.trans (by rw [nI_clamp (by omega)])), by simp; omega, h4, row_push h5 x⟩, fr_tr (fr_set (by omega) (by omega)) (fr_set (by omega) (by omega))⟩)
    · have e16 : ¬ xs.length < cap := fun q => c16 ((nI_ltI (b := cap) (by omega) (by omega)).mpr q)
      refine J_iconst (v := 0) dX5_add_19 (by decide) ?_
      exact J_ireturn dX5_add_20 rfl (by rfl) (⟨by rw [if_neg e16], by rw [List.take_append_of_le_length (by omega), List.take_of_length_le h3]; exact w0, fr_rf⟩)
set_option maxRecDepth 20000 in
theorem sp_X5_empty {G : GG} {h : HP} {r cap : Nat} {xs : List Int32} (w : isRow G h r cap xs) (n : Nat) : Sp G mm_X5_empty 0 0 0 [.ref r] h n (fun v h' _ => v = none ∧ isRow G h' r cap [] ∧ fr r (r + 2) h h') := by
  obtain ⟨f, h1, h2, h3, h4, h5⟩ := w
  refine Sp_of (by decide +kernel) (Nat.le_of_ble_eq_true rfl) ?_
  refine J_aload_n dX5_empty_0 (by rfl) ?_
  refine J_iconst (v := 0) dX5_empty_1 (by decide) ?_
  refine J_put fp_X5_13 dX5_empty_2 (by first | assumption | exact isRow.ob (by assumption) | exact hset_s | exact (hset_n (by first | assumption | omega)).trans (by first | assumption | exact isRow.ob (by assumption) | exact hset_s | exact (hset_n (by first | assumption | omega)).trans (by first | assumption | exact isRow.ob (by assumption) | exact hset_s | exact (hset_n (by first | assumption | omega)).trans (by first | assumption | exact isRow.ob (by assumption))))) (Nat.le_of_ble_eq_true rfl) (by rfl) (by rfl) ?_
  exact J_return dX5_empty_5 rfl (⟨rfl, ⟨f, hset_s.trans rfl, (hset_n (by omega)).trans h2, by simp, h4, fun k hk => absurd hk (by simp)⟩, fr_set (by omega) (by omega)⟩)
set_option maxRecDepth 20000 in
theorem sp_X5_addAll {G : GG} {h : HP} {r o cap cap2 : Nat} {xs ys : List Int32} (w : isRow G h r cap xs) (v : isRow G h o cap2 ys) (hd : r + 2 ≤ o ∨ o + 2 ≤ r) (n : Nat) : Sp G mm_X5_addAll 1 0 0 [.ref r, .ref o] h n (fun v h' _ => v = none ∧ isRow G h' r cap ((xs ++ ys).take cap) ∧ fr r (r + 2) h h') := by
  refine Sp_of (by decide +kernel) (Nat.le_of_ble_eq_true rfl) ?_
  have hy := v.le
  have loop : ∀ (j k : Nat) (hh : HP) (n1 : Nat), ys.length - k = j → k ≤ ys.length → isRow G hh r cap ((xs ++ ys.take k).take cap) → fr r (r + 2) h hh → J (G.1, G.2.1, fun _ => none) mm_X5_addAll 1 2 [(0, .ref r), (1, .ref o), (2, .int (nI k))] [] hh n1 0 0 (RT mm_X5_addAll (fun v h' _ => v = none ∧ isRow G h' r cap ((xs ++ ys).take cap) ∧ fr r (r + 2) h h')) := by
    intro j
    induction j using Nat.strongRecOn with
    | _ j ih =>
      intro k hh n1 hj hk wr hf
      have vo := v.fr hf (by omega)
      have vo2 := vo
      obtain ⟨g, o1, o2, o3, o4, o5⟩ := vo2
      have wr2 := wr
      obtain ⟨f, h1, h2, h3, h4, h5⟩ := wr2
      refine J_iload_n dX5_addAll_2 (by rfl) ?_
      refine J_aload_n dX5_addAll_3 (by rfl) ?_
      refine J_get fg_X5_13 dX5_addAll_4 (by first | assumption | exact isRow.ob (by assumption) | exact hset_s | exact (hset_n (by first | assumption | omega)).trans (by first | assumption | exact isRow.ob (by assumption) | exact hset_s | exact (hset_n (by first | assumption | omega)).trans (by first | assumption | exact isRow.ob (by assumption) | exact hset_s | exact (hset_n (by first | assumption | omega)).trans (by first | assumption | exact isRow.ob (by assumption))))) (by rfl) ?_
      refine J_icmp_ge (tgt := 26) dX5_addAll_7 (by decide) (fun c7 => ?_) (fun c7 => ?_)
      · rw [nI_leI (by omega) (by omega)] at c7
        exact J_return dX5_addAll_26 rfl (⟨rfl, by rw [List.take_of_length_le (l := ys) (by omega)] at wr; exact wr, hf⟩)
      · rw [nI_leI (by omega) (by omega)] at c7
        refine J_aload_n dX5_addAll_10 (by rfl) ?_
        refine J_aload_n dX5_addAll_11 (by rfl) ?_
        refine J_iload_n dX5_addAll_12 (by rfl) ?_
        refine J_callV mf_X5_at lk_X5_17 mi_X5_at mv_X5_at (sp_X5_at vo (k := k) (by omega) n1) dX5_addAll_13 (by first | assumption | exact isRow.ob (by assumption) | exact hset_s | exact (hset_n (by first | assumption | omega)).trans (by first | assumption | exact isRow.ob (by assumption) | exact hset_s | exact (hset_n (by first | assumption | omega)).trans (by first | assumption | exact isRow.ob (by assumption) | exact hset_s | exact (hset_n (by first | assumption | omega)).trans (by first | assumption | exact isRow.ob (by assumption))))) rfl rfl (by decide) (by rfl) rfl (Nat.le_of_ble_eq_true rfl) (Nat.zero_add _) (Nat.zero_add _) (fun v13 h13 n13 q13 => ?_)
        obtain ⟨rfl, rfl⟩ := q13
        refine J_callV mf_X5_add lk_X5_21 mi_X5_add mv_X5_add (sp_X5_add wr (ys.getD k 0) _) dX5_addAll_16 (by first | assumption | exact isRow.ob (by assumption) | exact hset_s | exact (hset_n (by first | assumption | omega)).trans (by first | assumption | exact isRow.ob (by assumption) | exact hset_s | exact (hset_n (by first | assumption | omega)).trans (by first | assumption | exact isRow.ob (by assumption) | exact hset_s | exact (hset_n (by first | assumption | omega)).trans (by first | assumption | exact isRow.ob (by assumption))))) rfl rfl (by decide) (by rfl) rfl (Nat.le_of_ble_eq_true rfl) (Nat.zero_add _) (Nat.zero_add _) (fun v16 h16 n16 q16 => ?_)
        obtain ⟨rfl, wr16, hf16⟩ := q16
        refine J_pop dX5_addAll_19 rfl ?_
        refine J_iincN dX5_addAll_20 (by rfl) (by decide) (by rfl) ?_
        refine J_goto (tgt := 2) dX5_addAll_23 (by decide) ?_
        exact J_sub (by repeat (first | exact subl_nil | refine subl_cons rfl ?_)) (ih (ys.length - (k + 1)) (by omega) (k + 1) _ _ rfl (by omega) (by rw [take_push, List.append_assoc, ← take_get (by omega)] at wr16; exact wr16) (fr_tr hf hf16))
  obtain ⟨g, o1, o2, o3, o4, o5⟩ := id v
  refine J_iconst (v := 0) dX5_addAll_0 (by decide) ?_
  refine J_istore_n dX5_addAll_1 (by decide) (by rfl) ?_
  exact J_sub (by repeat (first | exact subl_nil | refine subl_cons rfl ?_)) (loop _ 0 h n rfl (by omega) (by rw [List.take_zero, List.append_nil, List.take_of_length_le w.le.1]; exact w) fr_rf)
