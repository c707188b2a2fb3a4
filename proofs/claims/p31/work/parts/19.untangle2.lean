/-! untangling, and what is told of it -/
def cON (xs : List Int32) (k : Nat) : Int32 := if k < xs.length then xs.getD k 0 + 10 else -1
set_option maxRecDepth 20000 in
theorem sp_X9_crossingOrNone {G : GG} {h : HP} {r cap k : Nat} {xs : List Int32} (w : isRow G h r cap xs) (hk : k < 2 ^ 31) (n : Nat) : Sp G mm_X9_crossingOrNone 1 0 0 [.ref r, .int (nI k)] h n (fun v h' _ => v = some (.int (cON xs k)) ∧ h' = h) := by
  refine Sp_of (by decide +kernel) (Nat.le_of_ble_eq_true rfl) ?_
  have hle := w.le
  refine J_iload_n dX9_crossingOrNone_0 (by rfl) ?_
  refine J_aload_n dX9_crossingOrNone_1 (by rfl) ?_
  refine J_get fg_X9_88 dX9_crossingOrNone_2 (by first | assumption | exact isRow.ob (by assumption) | exact isHnd.ob (by assumption) | exact isUnt.ob (by assumption) | exact hset_s | exact (hset_n (by first | assumption | omega)).trans (by first | assumption | exact isRow.ob (by assumption) | exact isHnd.ob (by assumption) | exact isUnt.ob (by assumption) | exact hset_s | exact (hset_n (by first | assumption | omega)).trans (by first | assumption | exact isRow.ob (by assumption) | exact isHnd.ob (by assumption) | exact isUnt.ob (by assumption) | exact hset_s | exact (hset_n (by first | assumption | omega)).trans (by first | assumption | exact isRow.ob (by assumption) | exact isHnd.ob (by assumption) | exact isUnt.ob (by assumption))))) (by rfl) ?_
  refine J_icmp_ge (tgt := 19) dX9_crossingOrNone_5 (by decide) (fun c5 => ?_) (fun c5 => ?_)
  · rw [nI_leI (by omega) (by omega)] at c5
    refine J_iconst (v := (-1)) dX9_crossingOrNone_19 (by decide) ?_
    exact J_ireturn dX9_crossingOrNone_20 rfl (by rfl) (⟨by rw [cON]; first | rw [if_pos (by omega)] | rw [if_neg (by omega)], rfl⟩)
  · rw [nI_leI (by omega) (by omega)] at c5
    refine J_aload_n dX9_crossingOrNone_8 (by rfl) ?_
    refine J_iload_n dX9_crossingOrNone_9 (by rfl) ?_
    refine J_callV mf_X5_at lk_X9_106 mi_X5_at mv_X5_at (sp_X5_at w (k := k) (by omega) _) dX9_crossingOrNone_10 (by first | assumption | exact isRow.ob (by assumption) | exact isHnd.ob (by assumption) | exact isUnt.ob (by assumption) | exact hset_s | exact (hset_n (by first | assumption | omega)).trans (by first | assumption | exact isRow.ob (by assumption) | exact isHnd.ob (by assumption) | exact isUnt.ob (by assumption) | exact hset_s | exact (hset_n (by first | assumption | omega)).trans (by first | assumption | exact isRow.ob (by assumption) | exact isHnd.ob (by assumption) | exact isUnt.ob (by assumption) | exact hset_s | exact (hset_n (by first | assumption | omega)).trans (by first | assumption | exact isRow.ob (by assumption) | exact isHnd.ob (by assumption) | exact isUnt.ob (by assumption))))) rfl rfl (by decide) (by rfl) rfl (Nat.le_of_ble_eq_true rfl) (Nat.zero_add _) (Nat.zero_add _) (fun v10 h10 n10 q10 => ?_)
    obtain ⟨rfl, rfl⟩ := q10
    refine J_bipush (v := 10) dX9_crossingOrNone_13 (by decide) ?_
    refine J_iadd dX9_crossingOrNone_15 ?_
    refine J_goto (tgt := 20) dX9_crossingOrNone_16 (by decide) ?_
    exact J_ireturn dX9_crossingOrNone_20 rfl (by rfl) (⟨by rw [cON]; first | rw [if_pos (by omega)] | rw [if_neg (by omega)], rfl⟩)
def lean (xs : List Int32) : Int32 := if lowS xs < 0 then 2 else lowS xs
/-- (enough, what is left, handles undone, most) for a row -/
def utg (xs : List Int32) : Bool × List Int32 × Nat × Nat := utl 601 xs 0 xs.length
theorem utl_facts : ∀ (j : Nat) (xs : List Int32) (u m : Nat), allX xs → xs.length ≤ 400 → xs.length ≤ m → m ≤ 400 → u + j ≤ 601 → allX (utl j xs u m).2.1 ∧ (utl j xs u m).2.1.length ≤ 400 ∧ (utl j xs u m).2.2.1 ≤ 601 ∧ (utl j xs u m).2.2.2 ≤ 400 := by
  intro j
  induction j with
  | zero => intro xs u m h1 h2 h3 h4 h5; exact ⟨h1, h2, by show u ≤ 601; omega, h4⟩
  | succ j ih =>
    intro xs u m h1 h2 h3 h4 h5
    unfold utl
    cases e : fh xs with
    | none => exact ⟨h1, h2, by show u ≤ 601; omega, h4⟩
    | some pq =>
      obtain ⟨p, q⟩ := pq
      have hpq := fh_lt e
      show allX (if _ then _ else _ : Bool × List Int32 × Nat × Nat).2.1 ∧ _
      by_cases c : j = 0 ∨ 400 < lwo xs p q
      · simp only [if_pos c]
        exact ⟨h1, h2, by omega, h4⟩
      · simp only [if_neg c]
        have hl := tko_len (xs := xs) hpq.1 hpq.2.1
        exact ih _ _ _ (tko_allX h1 hpq.1 hpq.2.1) (by omega) (Nat.le_max_right _ _) (by omega) (by omega)
/-- what untangled answers -/
def uns (R : Bool × List Int32 × Nat × Nat) (k : Nat) : Int32 := if R.1 then (if k = 0 then nI R.2.1.length else if k = 1 then nI R.2.2.1 else if k = 2 then lean R.2.1 else nI R.2.2.2) else -1
def lfs (R : Bool × List Int32 × Nat × Nat) (k : Nat) : Int32 := if R.1 then cON R.2.1 k else -1