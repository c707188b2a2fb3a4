/-! untangling, and what is told of it -/
def cON (xs : List Int32) (k : Nat) : Int32 := if k < xs.length then xs.getD k 0 + 10 else -1
set_option maxRecDepth 20000 in
theorem sp_X9_crossingOrNone {G : GG} {h : HP} {r cap k : Nat} {xs : List Int32} (w : isRow G h r cap xs) (hk : k < 2 ^ 31) (n : Nat) : Sp G mm_X9_crossingOrNone 1 0 0 [.ref r, .int (nI k)] h n (fun v h' _ => v = some (.int (cON xs k)) ∧ h' = h) := by
  refine Sp_of (by decide +kernel) (Nat.le_of_ble_eq_true rfl) ?_
  have hle := w.le
  refine J_iload_n dX9_crossingOrNone_0 (by rfl) ?_
  refine J_aload_n dX9_crossingOrNone_1 (by rfl) ?_
  refine J_get fg_X9_88 dX9_crossingOrNone_2 (by first | assumption | exact isRow.ob (by assumption) | exact isHnd.ob (by assumption) | exact hset_s | exact (hset_n (by first | assumption | omega)).trans (by first | assumption | exact isRow.ob (by assumption) | exact isHnd.ob (by assumption) | exact hset_s | exact (hset_n (by first | assumption | omega)).trans (by first | assumption | exact isRow.ob (by assumption) | exact isHnd.ob (by assumption) | exact hset_s | exact (hset_n (by first | assumption | omega)).trans (by first | assumption | exact isRow.ob (by assumption) | exact isHnd.ob (by assumption))))) (by rfl) ?_
  refine J_icmp_ge (tgt := 19) dX9_crossingOrNone_5 (by decide) (fun c5 => ?_) (fun c5 => ?_)
  · rw [nI_leI (by omega) (by omega)] at c5
    refine J_iconst (v := (-1)) dX9_crossingOrNone_19 (by decide) ?_
    exact J_ireturn dX9_crossingOrNone_20 rfl (by rfl) (⟨by rw [cON]; first | rw [if_pos (by omega)] | rw [if_neg (by omega)], rfl⟩)
  · rw [nI_leI (by omega) (by omega)] at c5
    refine J_aload_n dX9_crossingOrNone_8 (by rfl) ?_
    refine J_iload_n dX9_crossingOrNone_9 (by rfl) ?_
    refine J_callV mf_X5_at lk_X9_106 mi_X5_at mv_X5_at (sp_X5_at w (k := k) (by omega) _) dX9_crossingOrNone_10 (by first | assumption | exact isRow.ob (by assumption) | exact isHnd.ob (by assumption) | exact hset_s | exact (hset_n (by first | assumption | omega)).trans (by first | assumption | exact isRow.ob (by assumption) | exact isHnd.ob (by assumption) | exact hset_s | exact (hset_n (by first | assumption | omega)).trans (by first | assumption | exact isRow.ob (by assumption) | exact isHnd.ob (by assumption) | exact hset_s | exact (hset_n (by first | assumption | omega)).trans (by first | assumption | exact isRow.ob (by assumption) | exact isHnd.ob (by assumption))))) rfl rfl (by decide) (by rfl) rfl (Nat.le_of_ble_eq_true rfl) (Nat.zero_add _) (Nat.zero_add _) (fun v10 h10 n10 q10 => ?_)
    obtain ⟨rfl, rfl⟩ := q10
    refine J_bipush (v := 10) dX9_crossingOrNone_13 (by decide) ?_
    refine J_iadd dX9_crossingOrNone_15 ?_
    refine J_goto (tgt := 20) dX9_crossingOrNone_16 (by decide) ?_
    exact J_ireturn dX9_crossingOrNone_20 rfl (by rfl) (⟨by rw [cON]; first | rw [if_pos (by omega)] | rw [if_neg (by omega)], rfl⟩)
def lean (xs : List Int32) : Int32 := if lowS xs < 0 then 2 else lowS xs
/-- (enough, what is left, handles undone, most) for a row -/
def utg (xs : List Int32) : Bool × List Int32 × Nat × Nat := utl 601 xs 0 xs.length
theorem utl_facts : ∀ (j : Nat) (xs : List Int32) (u m : Nat), allX xs → xs.length ≤ 400 → xs.length ≤ m → m ≤ 400 → u + j ≤ 601 → allX (utl j xs u m).2.1 ∧ (utl j xs u m).2.1.length ≤ 400 ∧ (utl j xs u m).2.2.1 ≤ 601 ∧ (utl j xs u m).2.2.2 ≤ 400 := by
  intro j
  induction j with
  | zero => intro xs u m h1 h2 h3 h4 h5; exact ⟨h1, h2, by show u ≤ 601; omega, h4⟩
  | succ j ih =>
    intro xs u m h1 h2 h3 h4 h5
    unfold utl
    cases e : fh xs with
    | none => exact ⟨h1, h2, by show u ≤ 601; omega, h4⟩
    | some pq =>
      obtain ⟨p, q⟩ := pq
      have hpq := fh_lt e
      show allX (if _ then _ else _ : Bool × List Int32 × Nat × Nat).2.1 ∧ _
      by_cases c : j = 0 ∨ 400 < lwo xs p q
      · simp only [if_pos c]
        exact ⟨h1, h2, by omega, h4⟩
      · simp only [if_neg c]
        have hl := tko_len (xs := xs) hpq.1 hpq.2.1
        exact ih _ _ _ (tko_allX h1 hpq.1 hpq.2.1) (by omega) (Nat.le_max_right _ _) (by omega) (by omega)
set_option maxRecDepth 20000 in
theorem sp_X8_untangle {G : GG} {h : HP} {a V S : Nat} {xs : List Int32} {m0 b e : Int32} (w : isUnt G h a V S xs 0 m0 0 b e) (hx : allX xs) (hl : xs.length ≤ 400) (n : Nat) : Sp G mm_X8_untangle 3 0 0 [.ref a] h n (fun v h' _ => v = none ∧ (∃ V' S' b' e', isUnt G h' a V' S' (utg xs).2.1 (nI (utg xs).2.2.1) (nI (utg xs).2.2.2) (if (utg xs).1 then 1 else 0) b' e') ∧ fr a (a + 7) h h') := by
  refine Sp_of (by decide +kernel) (Nat.le_of_ble_eq_true rfl) ?_
  have loop : ∀ (j s : Nat) (hh : HP) (n1 V S m : Nat) (ys : List Int32) (b e : Int32), s + j = 601 → isUnt G hh a V S ys (nI s) (nI m) 0 b e → allX ys → ys.length ≤ m → m ≤ 400 → utl j ys s m = utg xs → fr a (a + 7) h hh → J (g0 G) mm_X8_untangle 3 13 [(0, .ref a), (1, .int (nI s))] [] hh n1 0 0 (RT mm_X8_untangle (fun v h' _ => v = none ∧ (∃ V' S' b' e', isUnt G h' a V' S' (utg xs).2.1 (nI (utg xs).2.2.1) (nI (utg xs).2.2.2) (if (utg xs).1 then 1 else 0) b' e') ∧ fr a (a + 7) h h')) := by
    intro j
    induction j with
    | zero =>
      intro s hh n1 V S m ys b e hj ww hy h1 h2 hu hf
      refine J_iload_n dX8_untangle_13 (by rfl) ?_
      refine J_sipush (v := nI 600) dX8_untangle_14 (by decide) ?_
      refine J_icmp_gt (tgt := 75) dX8_untangle_17 (by decide) (fun c17 => ?_) (fun c17 => ?_)
      · rw [nI_ltI (by omega) (by omega)] at c17
        exact J_return dX8_untangle_75 rfl (⟨rfl, ⟨V, S, b, e, by rw [← hu]; exact ww⟩, hf⟩)
      · rw [nI_ltI (by omega) (by omega)] at c17
        exact absurd (by omega) c17
    | succ j ih =>
      intro s hh n1 V S m ys b e hj ww hy h1 h2 hu hf
      obtain ⟨o1, o2, o3, ⟨zs, o4⟩, o5⟩ := id ww
      refine J_iload_n dX8_untangle_13 (by rfl) ?_
      refine J_sipush (v := nI 600) dX8_untangle_14 (by decide) ?_
      refine J_icmp_gt (tgt := 75) dX8_untangle_17 (by decide) (fun c17 => ?_) (fun c17 => ?_)
      · rw [nI_ltI (by omega) (by omega)] at c17
        exact absurd c17 (by omega)
      · rw [nI_ltI (by omega) (by omega)] at c17
        refine J_aload_n dX8_untangle_20 (by rfl) ?_
        refine J_get fg_X8_26 dX8_untangle_21 (by first | assumption | exact isRow.ob (by assumption) | exact isHnd.ob (by assumption) | exact hset_s | exact (hset_n (by first | assumption | omega)).trans (by first | assumption | exact isRow.ob (by assumption) | exact isHnd.ob (by assumption) | exact hset_s | exact (hset_n (by first | assumption | omega)).trans (by first | assumption | exact isRow.ob (by assumption) | exact isHnd.ob (by assumption) | exact hset_s | exact (hset_n (by first | assumption | omega)).trans (by first | assumption | exact isRow.ob (by assumption) | exact isHnd.ob (by assumption))))) (by rfl) ?_
        refine J_aload_n dX8_untangle_24 (by rfl) ?_
        refine J_get fg_X8_14 dX8_untangle_25 (by first | assumption | exact isRow.ob (by assumption) | exact isHnd.ob (by assumption) | exact hset_s | exact (hset_n (by first | assumption | omega)).trans (by first | assumption | exact isRow.ob (by assumption) | exact isHnd.ob (by assumption) | exact hset_s | exact (hset_n (by first | assumption | omega)).trans (by first | assumption | exact isRow.ob (by assumption) | exact isHnd.ob (by assumption) | exact hset_s | exact (hset_n (by first | assumption | omega)).trans (by first | assumption | exact isRow.ob (by assumption) | exact isHnd.ob (by assumption))))) (by rfl) ?_
        refine J_callV mf_X0_findIn lk_X8_47 mi_X0_findIn mv_X0_findIn (sp_X0_findIn o5 o3 (by omega) hy _) dX8_untangle_28 (by first | assumption | exact isRow.ob (by assumption) | exact isHnd.ob (by assumption) | exact hset_s | exact (hset_n (by first | assumption | omega)).trans (by first | assumption | exact isRow.ob (by assumption) | exact isHnd.ob (by assumption) | exact hset_s | exact (hset_n (by first | assumption | omega)).trans (by first | assumption | exact isRow.ob (by assumption) | exact isHnd.ob (by assumption) | exact hset_s | exact (hset_n (by first | assumption | omega)).trans (by first | assumption | exact isRow.ob (by assumption) | exact isHnd.ob (by assumption))))) rfl rfl (by decide) (by rfl) rfl (Nat.le_of_ble_eq_true rfl) (Nat.zero_add _) (Nat.zero_add _) (fun v28 h28 n28 q28 => ?_)
        obtain ⟨rfl, w28, f28⟩ := q28
        obtain ⟨u28, k28⟩ := isUnt_hnd ww w28 f28
        have g28 := u28.ob
        refine J_if_ne (tgt := 40) dX8_untangle_31 (by decide) (fun c31 => ?_) (fun c31 => ?_)
        · obtain ⟨p, q, hfh⟩ : ∃ p q, fh ys = some (p, q) := by
            cases e0 : fh ys with
            | none => rw [e0] at c31; exact absurd rfl c31
            | some x => exact ⟨x.1, x.2, rfl⟩
          have hpq := (fh_lt hfh).1
          have hq := (fh_lt hfh).2.1
          rw [hfh] at u28
          have t28 : isHnd G h28 (a + 5) (nI p) (nI q) := u28.2.2.2.2
          have hl0 : ys.length ≤ 400 := by omega
          have hct := cntT_le ys p (q - (p + 1))
          have hlw : lwo ys p q < 2000 := by unfold lwo; omega
          have hlen := tko_len (xs := ys) hpq hq
          refine J_iload_n dX8_untangle_40 (by rfl) ?_
          refine J_sipush (v := nI 600) dX8_untangle_41 (by decide) ?_
          refine J_icmp_eq (tgt := 64) dX8_untangle_44 (by decide) (fun c44 => ?_) (fun c44 => ?_)
          · rw [nI_eq (by omega) (by omega)] at c44
            have e64 : utl (j + 1) ys s m = (false, ys, s, m) := by
              rw [utl, hfh]
              exact if_pos (by omega)
            exact J_return dX8_untangle_64 rfl (⟨rfl, ⟨V, S, _, _, by rw [← hu, e64]; exact u28⟩, fr_tr hf k28⟩)
          · rw [nI_eq (by omega) (by omega)] at c44
            refine J_aload_n dX8_untangle_47 (by rfl) ?_
            refine J_get fg_X8_26 dX8_untangle_48 (by first | assumption | exact isRow.ob (by assumption) | exact isHnd.ob (by assumption) | exact hset_s | exact (hset_n (by first | assumption | omega)).trans (by first | assumption | exact isRow.ob (by assumption) | exact isHnd.ob (by assumption) | exact hset_s | exact (hset_n (by first | assumption | omega)).trans (by first | assumption | exact isRow.ob (by assumption) | exact isHnd.ob (by assumption) | exact hset_s | exact (hset_n (by first | assumption | omega)).trans (by first | assumption | exact isRow.ob (by assumption) | exact isHnd.ob (by assumption))))) (by rfl) ?_
            refine J_aload_n dX8_untangle_51 (by rfl) ?_
            refine J_get fg_X8_14 dX8_untangle_52 (by first | assumption | exact isRow.ob (by assumption) | exact isHnd.ob (by assumption) | exact hset_s | exact (hset_n (by first | assumption | omega)).trans (by first | assumption | exact isRow.ob (by assumption) | exact isHnd.ob (by assumption) | exact hset_s | exact (hset_n (by first | assumption | omega)).trans (by first | assumption | exact isRow.ob (by assumption) | exact isHnd.ob (by assumption) | exact hset_s | exact (hset_n (by first | assumption | omega)).trans (by first | assumption | exact isRow.ob (by assumption) | exact isHnd.ob (by assumption))))) (by rfl) ?_
            refine J_callV mf_X0_lengthWithout lk_X8_51 mi_X0_lengthWithout mv_X0_lengthWithout (sp_X0_lengthWithout (p := p) (q := q) t28 (u28.2.2.1) hpq hq _) dX8_untangle_55 (by first | assumption | exact isRow.ob (by assumption) | exact isHnd.ob (by assumption) | exact hset_s | exact (hset_n (by first | assumption | omega)).trans (by first | assumption | exact isRow.ob (by assumption) | exact isHnd.ob (by assumption) | exact hset_s | exact (hset_n (by first | assumption | omega)).trans (by first | assumption | exact isRow.ob (by assumption) | exact isHnd.ob (by assumption) | exact hset_s | exact (hset_n (by first | assumption | omega)).trans (by first | assumption | exact isRow.ob (by assumption) | exact isHnd.ob (by assumption))))) rfl rfl (by decide) (by rfl) rfl (Nat.le_of_ble_eq_true rfl) (Nat.zero_add _) (Nat.zero_add _) (fun v55 h55 n55 q55 => ?_)
            obtain ⟨rfl, rfl⟩ := q55
            have g55 := u28.ob
            refine J_sipush (v := nI 400) dX8_untangle_58 (by decide) ?_
            refine J_icmp_le (tgt := 65) dX8_untangle_61 (by decide) (fun c61 => ?_) (fun c61 => ?_)
            · rw [nI_leI (by omega) (by omega)] at c61
              refine J_aload_n dX8_untangle_65 (by rfl) ?_
              refine J_callV mf_X8_undoOne lk_X8_55 mi_X8_undoOne mv_X8_undoOne (sp_X8_undoOne (p := p) (q := q) (u := s) (m := m) u28 hpq hq (by omega) (by omega) _) dX8_untangle_66 (by first | assumption | exact isRow.ob (by assumption) | exact isHnd.ob (by assumption) | exact hset_s | exact (hset_n (by first | assumption | omega)).trans (by first | assumption | exact isRow.ob (by assumption) | exact isHnd.ob (by assumption) | exact hset_s | exact (hset_n (by first | assumption | omega)).trans (by first | assumption | exact isRow.ob (by assumption) | exact isHnd.ob (by assumption) | exact hset_s | exact (hset_n (by first | assumption | omega)).trans (by first | assumption | exact isRow.ob (by assumption) | exact isHnd.ob (by assumption))))) rfl rfl (by decide) (by rfl) rfl (Nat.le_of_ble_eq_true rfl) (Nat.zero_add _) (Nat.zero_add _) (fun v66 h66 n66 q66 => ?_)
              obtain ⟨rfl, u66, f66⟩ := q66
              refine J_iincN dX8_untangle_69 (by rfl) (by decide) (by rfl) ?_
              refine J_goto (tgt := 13) dX8_untangle_72 (by decide) ?_
              exact J_sub (by repeat (first | exact subl_nil | refine subl_cons rfl ?_)) (ih (s + 1) _ _ _ _ _ _ _ _ (by omega) u66 (tko_allX hy hpq hq) (Nat.le_max_right _ _) (by omega) (by rw [← hu, utl, hfh]; show _ = (if _ then _ else _); rw [if_neg (by omega)]) (fr_tr hf (fr_tr k28 f66)))
            · rw [nI_leI (by omega) (by omega)] at c61
              have e64 : utl (j + 1) ys s m = (false, ys, s, m) := by
                rw [utl, hfh]
                exact if_pos (by omega)
              exact J_return dX8_untangle_64 rfl (⟨rfl, ⟨V, S, _, _, by rw [← hu, e64]; exact u28⟩, fr_tr hf k28⟩)
        · have hno : fh ys = none := by
            cases e0 : fh ys with
            | none => rfl
            | some x => rw [e0] at c31; exact absurd c31 (by simp)
          refine J_aload_n dX8_untangle_34 (by rfl) ?_
          refine J_iconst (v := 1) dX8_untangle_35 (by decide) ?_
          refine J_put fp_X8_37 dX8_untangle_36 (by first | assumption | exact isRow.ob (by assumption) | exact isHnd.ob (by assumption) | exact hset_s | exact (hset_n (by first | assumption | omega)).trans (by first | assumption | exact isRow.ob (by assumption) | exact isHnd.ob (by assumption) | exact hset_s | exact (hset_n (by first | assumption | omega)).trans (by first | assumption | exact isRow.ob (by assumption) | exact isHnd.ob (by assumption) | exact hset_s | exact (hset_n (by first | assumption | omega)).trans (by first | assumption | exact isRow.ob (by assumption) | exact isHnd.ob (by assumption))))) (Nat.le_of_ble_eq_true rfl) (by rfl) (by rfl) ?_
          exact J_return dX8_untangle_39 rfl (⟨rfl, ⟨V, S, _, _, by rw [← hu, utl, hno]; exact (isUnt_put u28).1⟩, fr_tr hf (fr_tr k28 (isUnt_put u28).2)⟩)
  obtain ⟨o1, o2, o3, ⟨ys, o4⟩, o5⟩ := id w
  refine J_aload_n dX8_untangle_0 (by rfl) ?_
  refine J_aload_n dX8_untangle_1 (by rfl) ?_
  refine J_get fg_X8_14 dX8_untangle_2 (by first | assumption | exact isRow.ob (by assumption) | exact isHnd.ob (by assumption) | exact hset_s | exact (hset_n (by first | assumption | omega)).trans (by first | assumption | exact isRow.ob (by assumption) | exact isHnd.ob (by assumption) | exact hset_s | exact (hset_n (by first | assumption | omega)).trans (by first | assumption | exact isRow.ob (by assumption) | exact isHnd.ob (by assumption) | exact hset_s | exact (hset_n (by first | assumption | omega)).trans (by first | assumption | exact isRow.ob (by assumption) | exact isHnd.ob (by assumption))))) (by rfl) ?_
  refine J_get fg_X8_44 dX8_untangle_5 (by first | assumption | exact isRow.ob (by assumption) | exact isHnd.ob (by assumption) | exact hset_s | exact (hset_n (by first | assumption | omega)).trans (by first | assumption | exact isRow.ob (by assumption) | exact isHnd.ob (by assumption) | exact hset_s | exact (hset_n (by first | assumption | omega)).trans (by first | assumption | exact isRow.ob (by assumption) | exact isHnd.ob (by assumption) | exact hset_s | exact (hset_n (by first | assumption | omega)).trans (by first | assumption | exact isRow.ob (by assumption) | exact isHnd.ob (by assumption))))) (by rfl) ?_
  refine J_put fp_X8_34 dX8_untangle_8 (by first | assumption | exact isRow.ob (by assumption) | exact isHnd.ob (by assumption) | exact hset_s | exact (hset_n (by first | assumption | omega)).trans (by first | assumption | exact isRow.ob (by assumption) | exact isHnd.ob (by assumption) | exact hset_s | exact (hset_n (by first | assumption | omega)).trans (by first | assumption | exact isRow.ob (by assumption) | exact isHnd.ob (by assumption) | exact hset_s | exact (hset_n (by first | assumption | omega)).trans (by first | assumption | exact isRow.ob (by assumption) | exact isHnd.ob (by assumption))))) (Nat.le_of_ble_eq_true rfl) (by rfl) (by rfl) ?_
  refine J_iconst (v := 0) dX8_untangle_11 (by decide) ?_
  refine J_istore_n dX8_untangle_12 (by decide) (by rfl) ?_
  exact J_sub (by repeat (first | exact subl_nil | refine subl_cons rfl ?_)) (loop 601 0 _ _ V S xs.length xs b e rfl (isUnt_put w).1 hx (Nat.le_refl _) hl rfl (isUnt_put w).2)
set_option maxRecDepth 20000 in
theorem sp_X8_leaning {G : GG} {h : HP} {a V S : Nat} {xs : List Int32} {u m ok b e : Int32} (w : isUnt G h a V S xs u m ok b e) (n : Nat) : Sp G mm_X8_leaning 2 0 0 [.ref a] h n (fun v h' _ => v = some (.int (lean xs)) ∧ h' = h) := by
  refine Sp_of (by decide +kernel) (Nat.le_of_ble_eq_true rfl) ?_
  obtain ⟨o1, o2, o3, ⟨ys, o4⟩, o5⟩ := id w
  refine J_aload_n dX8_leaning_0 (by rfl) ?_
  refine J_get fg_X8_14 dX8_leaning_1 (by first | assumption | exact isRow.ob (by assumption) | exact isHnd.ob (by assumption) | exact hset_s | exact (hset_n (by first | assumption | omega)).trans (by first | assumption | exact isRow.ob (by assumption) | exact isHnd.ob (by assumption) | exact hset_s | exact (hset_n (by first | assumption | omega)).trans (by first | assumption | exact isRow.ob (by assumption) | exact isHnd.ob (by assumption) | exact hset_s | exact (hset_n (by first | assumption | omega)).trans (by first | assumption | exact isRow.ob (by assumption) | exact isHnd.ob (by assumption))))) (by rfl) ?_
  refine J_callV mf_X5_signOfLowestRank lk_X8_72 mi_X5_signOfLowestRank mv_X5_signOfLowestRank (sp_X5_signOfLowestRank o3 _) dX8_leaning_4 (by first | assumption | exact isRow.ob (by assumption) | exact isHnd.ob (by assumption) | exact hset_s | exact (hset_n (by first | assumption | omega)).trans (by first | assumption | exact isRow.ob (by assumption) | exact isHnd.ob (by assumption) | exact hset_s | exact (hset_n (by first | assumption | omega)).trans (by first | assumption | exact isRow.ob (by assumption) | exact isHnd.ob (by assumption) | exact hset_s | exact (hset_n (by first | assumption | omega)).trans (by first | assumption | exact isRow.ob (by assumption) | exact isHnd.ob (by assumption))))) rfl rfl (by decide) (by rfl) rfl (Nat.le_of_ble_eq_true rfl) (Nat.zero_add _) (Nat.zero_add _) (fun v4 h4 n4 q4 => ?_)
  obtain ⟨rfl, rfl⟩ := q4
  refine J_istore_n dX8_leaning_7 (by decide) (by rfl) ?_
  refine J_iload_n dX8_leaning_8 (by rfl) ?_
  refine J_if_ge (tgt := 16) dX8_leaning_9 (by decide) (fun c9 => ?_) (fun c9 => ?_)
  · refine J_iload_n dX8_leaning_16 (by rfl) ?_
    exact J_ireturn dX8_leaning_17 rfl (by rfl) (⟨by rw [lean]; first | rw [if_neg (Int32.not_lt.mpr c9)] | rw [if_pos (Int32.not_le.mp c9)], rfl⟩)
  · refine J_iconst (v := 2) dX8_leaning_12 (by decide) ?_
    refine J_goto (tgt := 17) dX8_leaning_13 (by decide) ?_
    exact J_ireturn dX8_leaning_17 rfl (by rfl) (⟨by rw [lean]; first | rw [if_neg (Int32.not_lt.mpr c9)] | rw [if_pos (Int32.not_le.mp c9)], rfl⟩)
/-- what untangled answers -/
def uns (R : Bool × List Int32 × Nat × Nat) (k : Nat) : Int32 := if R.1 then (if k = 0 then nI R.2.1.length else if k = 1 then nI R.2.2.1 else if k = 2 then lean R.2.1 else nI R.2.2.2) else -1
set_option maxRecDepth 20000 in
theorem sp_X8_answer {G : GG} {h : HP} {a V S k : Nat} {R : Bool × List Int32 × Nat × Nat} {b e : Int32} (w : isUnt G h a V S R.2.1 (nI R.2.2.1) (nI R.2.2.2) (if R.1 then 1 else 0) b e) (hk : k < 4) (n : Nat) : Sp G mm_X8_answer 3 0 0 [.ref a, .int (nI k)] h n (fun v h' _ => v = some (.int (uns R k)) ∧ h' = h) := by
  refine Sp_of (by decide +kernel) (Nat.le_of_ble_eq_true rfl) ?_
  obtain ⟨ok, xs, u, m⟩ := R
  obtain ⟨o1, o2, o3, ⟨ys, o4⟩, o5⟩ := id w
  have o6 := o3.ob
  cases ok with
  | false =>
    refine J_aload_n dX8_answer_0 (by rfl) ?_
    refine J_get fg_X8_37 dX8_answer_1 (by first | assumption | exact isRow.ob (by assumption) | exact isHnd.ob (by assumption) | exact hset_s | exact (hset_n (by first | assumption | omega)).trans (by first | assumption | exact isRow.ob (by assumption) | exact isHnd.ob (by assumption) | exact hset_s | exact (hset_n (by first | assumption | omega)).trans (by first | assumption | exact isRow.ob (by assumption) | exact isHnd.ob (by assumption) | exact hset_s | exact (hset_n (by first | assumption | omega)).trans (by first | assumption | exact isRow.ob (by assumption) | exact isHnd.ob (by assumption))))) (by rfl) ?_
    refine J_if_ne (tgt := 9) dX8_answer_4 (by decide) (fun c4 => ?_) (fun c4 => ?_)
    · exact absurd rfl c4
    · refine J_iconst (v := (-1)) dX8_answer_7 (by decide) ?_
      exact J_ireturn dX8_answer_8 rfl (by rfl) (⟨rfl, rfl⟩)
  | true =>
    rcases (show k = 0 ∨ k = 1 ∨ k = 2 ∨ k = 3 by omega) with rfl | rfl | rfl | rfl
    · refine J_aload_n dX8_answer_0 (by rfl) ?_
      refine J_get fg_X8_37 dX8_answer_1 (by first | assumption | exact isRow.ob (by assumption) | exact isHnd.ob (by assumption) | exact hset_s | exact (hset_n (by first | assumption | omega)).trans (by first | assumption | exact isRow.ob (by assumption) | exact isHnd.ob (by assumption) | exact hset_s | exact (hset_n (by first | assumption | omega)).trans (by first | assumption | exact isRow.ob (by assumption) | exact isHnd.ob (by assumption) | exact hset_s | exact (hset_n (by first | assumption | omega)).trans (by first | assumption | exact isRow.ob (by assumption) | exact isHnd.ob (by assumption))))) (by rfl) ?_
      refine J_if_ne (tgt := 9) dX8_answer_4 (by decide) (fun c4 => ?_) (fun c4 => ?_)
      · refine J_iload_n dX8_answer_9 (by rfl) ?_
        refine J_tableIn (off := 26) (tgt := 36) dX8_answer_10 (by decide) (by decide) (by decide) (by decide) ?_
        refine J_aload_n dX8_answer_36 (by rfl) ?_
        refine J_get fg_X8_14 dX8_answer_37 (by first | assumption | exact isRow.ob (by assumption) | exact isHnd.ob (by assumption) | exact hset_s | exact (hset_n (by first | assumption | omega)).trans (by first | assumption | exact isRow.ob (by assumption) | exact isHnd.ob (by assumption) | exact hset_s | exact (hset_n (by first | assumption | omega)).trans (by first | assumption | exact isRow.ob (by assumption) | exact isHnd.ob (by assumption) | exact hset_s | exact (hset_n (by first | assumption | omega)).trans (by first | assumption | exact isRow.ob (by assumption) | exact isHnd.ob (by assumption))))) (by rfl) ?_
        refine J_get fg_X8_44 dX8_answer_40 (by first | assumption | exact isRow.ob (by assumption) | exact isHnd.ob (by assumption) | exact hset_s | exact (hset_n (by first | assumption | omega)).trans (by first | assumption | exact isRow.ob (by assumption) | exact isHnd.ob (by assumption) | exact hset_s | exact (hset_n (by first | assumption | omega)).trans (by first | assumption | exact isRow.ob (by assumption) | exact isHnd.ob (by assumption) | exact hset_s | exact (hset_n (by first | assumption | omega)).trans (by first | assumption | exact isRow.ob (by assumption) | exact isHnd.ob (by assumption))))) (by rfl) ?_
        exact J_ireturn dX8_answer_43 rfl (by rfl) (⟨rfl, rfl⟩)
      · exact absurd c4 (by simp)
    · refine J_aload_n dX8_answer_0 (by rfl) ?_
      refine J_get fg_X8_37 dX8_answer_1 (by first | assumption | exact isRow.ob (by assumption) | exact isHnd.ob (by assumption) | exact hset_s | exact (hset_n (by first | assumption | omega)).trans (by first | assumption | exact isRow.ob (by assumption) | exact isHnd.ob (by assumption) | exact hset_s | exact (hset_n (by first | assumption | omega)).trans (by first | assumption | exact isRow.ob (by assumption) | exact isHnd.ob (by assumption) | exact hset_s | exact (hset_n (by first | assumption | omega)).trans (by first | assumption | exact isRow.ob (by assumption) | exact isHnd.ob (by assumption))))) (by rfl) ?_
      refine J_if_ne (tgt := 9) dX8_answer_4 (by decide) (fun c4 => ?_) (fun c4 => ?_)
      · refine J_iload_n dX8_answer_9 (by rfl) ?_
        refine J_tableIn (off := 34) (tgt := 44) dX8_answer_10 (by decide) (by decide) (by decide) (by decide) ?_
        refine J_aload_n dX8_answer_44 (by rfl) ?_
        refine J_get fg_X8_30 dX8_answer_45 (by first | assumption | exact isRow.ob (by assumption) | exact isHnd.ob (by assumption) | exact hset_s | exact (hset_n (by first | assumption | omega)).trans (by first | assumption | exact isRow.ob (by assumption) | exact isHnd.ob (by assumption) | exact hset_s | exact (hset_n (by first | assumption | omega)).trans (by first | assumption | exact isRow.ob (by assumption) | exact isHnd.ob (by assumption) | exact hset_s | exact (hset_n (by first | assumption | omega)).trans (by first | assumption | exact isRow.ob (by assumption) | exact isHnd.ob (by assumption))))) (by rfl) ?_
        exact J_ireturn dX8_answer_48 rfl (by rfl) (⟨rfl, rfl⟩)
      · exact absurd c4 (by simp)
    · refine J_aload_n dX8_answer_0 (by rfl) ?_
      refine J_get fg_X8_37 dX8_answer_1 (by first | assumption | exact isRow.ob (by assumption) | exact isHnd.ob (by assumption) | exact hset_s | exact (hset_n (by first | assumption | omega)).trans (by first | assumption | exact isRow.ob (by assumption) | exact isHnd.ob (by assumption) | exact hset_s | exact (hset_n (by first | assumption | omega)).trans (by first | assumption | exact isRow.ob (by assumption) | exact isHnd.ob (by assumption) | exact hset_s | exact (hset_n (by first | assumption | omega)).trans (by first | assumption | exact isRow.ob (by assumption) | exact isHnd.ob (by assumption))))) (by rfl) ?_
      refine J_if_ne (tgt := 9) dX8_answer_4 (by decide) (fun c4 => ?_) (fun c4 => ?_)
      · refine J_iload_n dX8_answer_9 (by rfl) ?_
        refine J_tableIn (off := 39) (tgt := 49) dX8_answer_10 (by decide) (by decide) (by decide) (by decide) ?_
        refine J_aload_n dX8_answer_49 (by rfl) ?_
        refine J_callV mf_X8_leaning lk_X8_68 mi_X8_leaning mv_X8_leaning (sp_X8_leaning w _) dX8_answer_50 (by first | assumption | exact isRow.ob (by assumption) | exact isHnd.ob (by assumption) | exact hset_s | exact (hset_n (by first | assumption | omega)).trans (by first | assumption | exact isRow.ob (by assumption) | exact isHnd.ob (by assumption) | exact hset_s | exact (hset_n (by first | assumption | omega)).trans (by first | assumption | exact isRow.ob (by assumption) | exact isHnd.ob (by assumption) | exact hset_s | exact (hset_n (by first | assumption | omega)).trans (by first | assumption | exact isRow.ob (by assumption) | exact isHnd.ob (by assumption))))) rfl rfl (by decide) (by rfl) rfl (Nat.le_of_ble_eq_true rfl) (Nat.zero_add _) (Nat.zero_add _) (fun v50 h50 n50 q50 => ?_)
        obtain ⟨rfl, rfl⟩ := q50
        exact J_ireturn dX8_answer_53 rfl (by rfl) (⟨rfl, rfl⟩)
      · exact absurd c4 (by simp)
    · refine J_aload_n dX8_answer_0 (by rfl) ?_
      refine J_get fg_X8_37 dX8_answer_1 (by first | assumption | exact isRow.ob (by assumption) | exact isHnd.ob (by assumption) | exact hset_s | exact (hset_n (by first | assumption | omega)).trans (by first | assumption | exact isRow.ob (by assumption) | exact isHnd.ob (by assumption) | exact hset_s | exact (hset_n (by first | assumption | omega)).trans (by first | assumption | exact isRow.ob (by assumption) | exact isHnd.ob (by assumption) | exact hset_s | exact (hset_n (by first | assumption | omega)).trans (by first | assumption | exact isRow.ob (by assumption) | exact isHnd.ob (by assumption))))) (by rfl) ?_
      refine J_if_ne (tgt := 9) dX8_answer_4 (by decide) (fun c4 => ?_) (fun c4 => ?_)
      · refine J_iload_n dX8_answer_9 (by rfl) ?_
        refine J_tableOut (tgt := 54) dX8_answer_10 (by decide) (by decide) ?_
        refine J_aload_n dX8_answer_54 (by rfl) ?_
        refine J_get fg_X8_34 dX8_answer_55 (by first | assumption | exact isRow.ob (by assumption) | exact isHnd.ob (by assumption) | exact hset_s | exact (hset_n (by first | assumption | omega)).trans (by first | assumption | exact isRow.ob (by assumption) | exact isHnd.ob (by assumption) | exact hset_s | exact (hset_n (by first | assumption | omega)).trans (by first | assumption | exact isRow.ob (by assumption) | exact isHnd.ob (by assumption) | exact hset_s | exact (hset_n (by first | assumption | omega)).trans (by first | assumption | exact isRow.ob (by assumption) | exact isHnd.ob (by assumption))))) (by rfl) ?_
        exact J_ireturn dX8_answer_58 rfl (by rfl) (⟨rfl, rfl⟩)
      · exact absurd c4 (by simp)
def lfs (R : Bool × List Int32 × Nat × Nat) (k : Nat) : Int32 := if R.1 then cON R.2.1 k else -1
set_option maxRecDepth 20000 in
theorem sp_X8_leftAt {G : GG} {h : HP} {a V S k : Nat} {R : Bool × List Int32 × Nat × Nat} {b e : Int32} (w : isUnt G h a V S R.2.1 (nI R.2.2.1) (nI R.2.2.2) (if R.1 then 1 else 0) b e) (hk : k < 2 ^ 31) (n : Nat) : Sp G mm_X8_leftAt 2 0 0 [.ref a, .int (nI k)] h n (fun v h' _ => v = some (.int (lfs R k)) ∧ h' = h) := by
  refine Sp_of (by decide +kernel) (Nat.le_of_ble_eq_true rfl) ?_
  obtain ⟨ok, xs, u, m⟩ := R
  obtain ⟨o1, o2, o3, ⟨ys, o4⟩, o5⟩ := id w
  cases ok with
  | false =>
    refine J_aload_n dX8_leftAt_0 (by rfl) ?_
    refine J_get fg_X8_37 dX8_leftAt_1 (by first | assumption | exact isRow.ob (by assumption) | exact isHnd.ob (by assumption) | exact hset_s | exact (hset_n (by first | assumption | omega)).trans (by first | assumption | exact isRow.ob (by assumption) | exact isHnd.ob (by assumption) | exact hset_s | exact (hset_n (by first | assumption | omega)).trans (by first | assumption | exact isRow.ob (by assumption) | exact isHnd.ob (by assumption) | exact hset_s | exact (hset_n (by first | assumption | omega)).trans (by first | assumption | exact isRow.ob (by assumption) | exact isHnd.ob (by assumption))))) (by rfl) ?_
    refine J_if_eq (tgt := 18) dX8_leftAt_4 (by decide) (fun c4 => ?_) (fun c4 => ?_)
    · refine J_iconst (v := (-1)) dX8_leftAt_18 (by decide) ?_
      exact J_ireturn dX8_leftAt_19 rfl (by rfl) (⟨rfl, rfl⟩)
    · exact absurd rfl c4
  | true =>
    refine J_aload_n dX8_leftAt_0 (by rfl) ?_
    refine J_get fg_X8_37 dX8_leftAt_1 (by first | assumption | exact isRow.ob (by assumption) | exact isHnd.ob (by assumption) | exact hset_s | exact (hset_n (by first | assumption | omega)).trans (by first | assumption | exact isRow.ob (by assumption) | exact isHnd.ob (by assumption) | exact hset_s | exact (hset_n (by first | assumption | omega)).trans (by first | assumption | exact isRow.ob (by assumption) | exact isHnd.ob (by assumption) | exact hset_s | exact (hset_n (by first | assumption | omega)).trans (by first | assumption | exact isRow.ob (by assumption) | exact isHnd.ob (by assumption))))) (by rfl) ?_
    refine J_if_eq (tgt := 18) dX8_leftAt_4 (by decide) (fun c4 => ?_) (fun c4 => ?_)
    · exact absurd c4 (by simp)
    · refine J_aload_n dX8_leftAt_7 (by rfl) ?_
      refine J_get fg_X8_14 dX8_leftAt_8 (by first | assumption | exact isRow.ob (by assumption) | exact isHnd.ob (by assumption) | exact hset_s | exact (hset_n (by first | assumption | omega)).trans (by first | assumption | exact isRow.ob (by assumption) | exact isHnd.ob (by assumption) | exact hset_s | exact (hset_n (by first | assumption | omega)).trans (by first | assumption | exact isRow.ob (by assumption) | exact isHnd.ob (by assumption) | exact hset_s | exact (hset_n (by first | assumption | omega)).trans (by first | assumption | exact isRow.ob (by assumption) | exact isHnd.ob (by assumption))))) (by rfl) ?_
      refine J_iload_n dX8_leftAt_11 (by rfl) ?_
      refine J_callS mf_X9_crossingOrNone lk_X8_75 ms_X9_crossingOrNone (sp_X9_crossingOrNone o3 hk _) dX8_leftAt_12 (by decide) (by rfl) rfl (Nat.le_of_ble_eq_true rfl) (Nat.zero_add _) (Nat.zero_add _) (fun v12 h12 n12 q12 => ?_)
      obtain ⟨rfl, rfl⟩ := q12
      refine J_goto (tgt := 19) dX8_leftAt_15 (by decide) ?_
      exact J_ireturn dX8_leftAt_19 rfl (by rfl) (⟨rfl, rfl⟩)
