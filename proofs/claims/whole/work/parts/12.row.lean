/-! Row: the row of crossings xs, in the object at r and its array at r + 1, with room for cap -/
def fr (lo hi : Nat) (h h' : HP) : Prop := ∀ a, a < lo ∨ hi ≤ a → h' a = h a
theorem fr_rf {lo hi : Nat} {h : HP} : fr lo hi h h := fun _ _ => rfl
theorem fr_tr {lo hi : Nat} {h h1 h2 : HP} (a : fr lo hi h h1) (b : fr lo hi h1 h2) : fr lo hi h h2 := fun q hq => (b q hq).trans (a q hq)
theorem fr_mono {lo hi lo2 hi2 : Nat} {h h' : HP} (a : fr lo hi h h') (h1 : lo2 ≤ lo) (h2 : hi ≤ hi2) : fr lo2 hi2 h h' := fun q hq => a q (by omega)
theorem fr_set {lo hi q : Nat} {e : va_E} {h : HP} (h1 : lo ≤ q) (h2 : q < hi) : fr lo hi h (hset h q e) := fun a ha => hset_n (by omega)
theorem nI_zle {k : Nat} (hk : k < 2 ^ 31) : (0 : Int32) ≤ nI k := nI_pos' hk
def isRow (G : GG) (h : HP) (r cap : Nat) (xs : List Int32) : Prop := ∃ f : Nat → Int32, h r = some (.inr (4, [.ref (r + 1), .int (nI xs.length)])) ∧ h (r + 1) = some (.inl (G.2.1 0, cap, .inl f)) ∧ xs.length ≤ cap ∧ cap < 1000 ∧ ∀ k, k < xs.length → f k = xs.getD k 0
theorem isRow.keep {G : GG} {h h' : HP} {r cap : Nat} {xs : List Int32} (w : isRow G h r cap xs) (k0 : h' r = h r) (k1 : h' (r + 1) = h (r + 1)) : isRow G h' r cap xs := by
  obtain ⟨f, h1, h2, h3⟩ := w
  exact ⟨f, k0.trans h1, k1.trans h2, h3⟩
theorem isRow.fr {G : GG} {h h' : HP} {r cap lo hi : Nat} {xs : List Int32} (w : isRow G h r cap xs) (k : fr lo hi h h') (hd : r + 2 ≤ lo ∨ hi ≤ r) : isRow G h' r cap xs := w.keep (k _ (by omega)) (k _ (by omega))
theorem isRow.le {G : GG} {h : HP} {r cap : Nat} {xs : List Int32} (w : isRow G h r cap xs) : xs.length ≤ cap ∧ cap < 1000 := by
  obtain ⟨f, h1, h2, h3, h4, -⟩ := w
  exact ⟨h3, h4⟩
set_option maxRecDepth 20000 in
theorem sp_X5_at {G : GG} {h : HP} {r cap : Nat} {xs : List Int32} (w : isRow G h r cap xs) {k : Nat} (hk : k < 2 ^ 31) (n : Nat) : Sp G mm_X5_at 0 0 0 [.ref r, .int (nI k)] h n (fun v h' _ => v = some (.int (xs.getD k 0)) ∧ h' = h) := by
  obtain ⟨f, h1, h2, h3, h4, h5⟩ := w
  refine Sp_of (by decide +kernel) (Nat.le_of_ble_eq_true rfl) ?_
  refine J_iload_n dX5_at_0 (by rfl) ?_
  refine J_if_lt (tgt := 30) dX5_at_1 (by decide) (fun c1 => ?_) (fun c1 => ?_)
  · exact absurd c1 (nI_pos hk)
  · refine J_iload_n dX5_at_4 (by rfl) ?_
    refine J_aload_n dX5_at_5 (by rfl) ?_
    refine J_get fg_X5_13 dX5_at_6 (by first | assumption | exact hset_s | exact (hset_n (by first | assumption | omega)).trans (by first | assumption | exact hset_s | exact (hset_n (by first | assumption | omega)).trans (by first | assumption | exact hset_s | exact (hset_n (by first | assumption | omega)).trans (by assumption)))) (by rfl) ?_
    refine J_icmp_ge (tgt := 30) dX5_at_9 (by decide) (fun c9 => ?_) (fun c9 => ?_)
    · rw [nI_leI (by omega) (by omega)] at c9
      refine J_iconst (v := 0) dX5_at_30 (by decide) ?_
      exact J_ireturn dX5_at_31 rfl (by rfl) (⟨by first | (rw [nI_clamp (by omega), h5 k (by omega)]) | (rw [List.getD_eq_default _ _ (by omega)]), rfl⟩)
    · rw [nI_leI (by omega) (by omega)] at c9
      refine J_iload_n dX5_at_12 (by rfl) ?_
      refine J_aload_n dX5_at_13 (by rfl) ?_
      refine J_get fg_X5_7 dX5_at_14 (by first | assumption | exact hset_s | exact (hset_n (by first | assumption | omega)).trans (by first | assumption | exact hset_s | exact (hset_n (by first | assumption | omega)).trans (by first | assumption | exact hset_s | exact (hset_n (by first | assumption | omega)).trans (by assumption)))) (by rfl) ?_
      refine J_alen (t := 0) (by decide) dX5_at_17 (by first | assumption | exact hset_s | exact (hset_n (by first | assumption | omega)).trans (by first | assumption | exact hset_s | exact (hset_n (by first | assumption | omega)).trans (by first | assumption | exact hset_s | exact (hset_n (by first | assumption | omega)).trans (by assumption)))) ?_
      refine J_icmp_ge (tgt := 30) dX5_at_18 (by decide) (fun c18 => ?_) (fun c18 => ?_)
      · exact absurd ((nI_leI (a := cap) (by omega) (by omega)).mp c18) (by omega)
      · refine J_aload_n dX5_at_21 (by rfl) ?_
        refine J_get fg_X5_7 dX5_at_22 (by first | assumption | exact hset_s | exact (hset_n (by first | assumption | omega)).trans (by first | assumption | exact hset_s | exact (hset_n (by first | assumption | omega)).trans (by first | assumption | exact hset_s | exact (hset_n (by first | assumption | omega)).trans (by assumption)))) (by rfl) ?_
        refine J_iload_n dX5_at_25 (by rfl) ?_
        refine J_iald dX5_at_26 (by first | assumption | exact hset_s | exact (hset_n (by first | assumption | omega)).trans (by first | assumption | exact hset_s | exact (hset_n (by first | assumption | omega)).trans (by first | assumption | exact hset_s | exact (hset_n (by first | assumption | omega)).trans (by assumption)))) (vp_in_nI (by omega) (by omega)) ?_
        refine J_goto (tgt := 31) dX5_at_27 (by decide) ?_
        exact J_ireturn dX5_at_31 rfl (by rfl) (⟨by first | (rw [nI_clamp (by omega), h5 k (by omega)]) | (rw [List.getD_eq_default _ _ (by omega)]), rfl⟩)
