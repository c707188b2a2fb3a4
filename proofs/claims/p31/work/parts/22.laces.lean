/-! what lies where; small tests -/
def bI (p : Prop) [Decidable p] : Int32 := if p then 1 else 0
set_option maxRecDepth 20000 in
theorem sp_X9_isLace {G : GG} (h : HP) (x : Int32) (n : Nat) : Sp G mm_X9_isLace 0 0 0 [.int x] h n (fun v h' _ => v = some (.int (if 0 ≤ x ∧ x < 4 then 1 else 0)) ∧ h' = h) := by
  refine Sp_of (by decide +kernel) (Nat.le_of_ble_eq_true rfl) ?_
  refine J_iload_n dX9_isLace_0 (by rfl) ?_
  refine J_if_lt (tgt := 13) dX9_isLace_1 (by decide) (fun c1 => ?_) (fun c1 => ?_)
  · have e1 : ¬ (0 ≤ x ∧ x < 4) := by
      intro q
      first | exact Int32.not_lt.mpr q.1 c1 | exact Int32.not_lt.mpr c6 q.2
    refine J_iconst (v := 0) dX9_isLace_13 (by decide) ?_
    exact J_ireturn dX9_isLace_14 rfl (by rfl) (⟨by first | rw [if_pos e1] | rw [if_neg e1], rfl⟩)
  · refine J_iload_n dX9_isLace_4 (by rfl) ?_
    refine J_iconst (v := 4) dX9_isLace_5 (by decide) ?_
    refine J_icmp_ge (tgt := 13) dX9_isLace_6 (by decide) (fun c6 => ?_) (fun c6 => ?_)
    · have e1 : ¬ (0 ≤ x ∧ x < 4) := by
        intro q
        first | exact Int32.not_lt.mpr q.1 c1 | exact Int32.not_lt.mpr c6 q.2
      refine J_iconst (v := 0) dX9_isLace_13 (by decide) ?_
      exact J_ireturn dX9_isLace_14 rfl (by rfl) (⟨by first | rw [if_pos e1] | rw [if_neg e1], rfl⟩)
    · have e1 : 0 ≤ x ∧ x < 4 := ⟨Int32.not_lt.mp c1, Int32.not_le.mp c6⟩
      refine J_iconst (v := 1) dX9_isLace_9 (by decide) ?_
      refine J_goto (tgt := 14) dX9_isLace_10 (by decide) ?_
      exact J_ireturn dX9_isLace_14 rfl (by rfl) (⟨by first | rw [if_pos e1] | rw [if_neg e1], rfl⟩)
set_option maxRecDepth 20000 in
theorem sp_X9_isMove {G : GG} (h : HP) (x : Int32) (n : Nat) : Sp G mm_X9_isMove 0 0 0 [.int x] h n (fun v h' _ => v = some (.int (if 0 ≤ x ∧ x ≤ 2 then 1 else 0)) ∧ h' = h) := by
  refine Sp_of (by decide +kernel) (Nat.le_of_ble_eq_true rfl) ?_
  refine J_iload_n dX9_isMove_0 (by rfl) ?_
  refine J_if_lt (tgt := 13) dX9_isMove_1 (by decide) (fun c1 => ?_) (fun c1 => ?_)
  · have e1 : ¬ (0 ≤ x ∧ x ≤ 2) := by
      intro q
      first | exact Int32.not_lt.mpr q.1 c1 | exact Int32.not_lt.mpr q.2 c6
    refine J_iconst (v := 0) dX9_isMove_13 (by decide) ?_
    exact J_ireturn dX9_isMove_14 rfl (by rfl) (⟨by first | rw [if_pos e1] | rw [if_neg e1], rfl⟩)
  · refine J_iload_n dX9_isMove_4 (by rfl) ?_
    refine J_iconst (v := 2) dX9_isMove_5 (by decide) ?_
    refine J_icmp_gt (tgt := 13) dX9_isMove_6 (by decide) (fun c6 => ?_) (fun c6 => ?_)
    · have e1 : ¬ (0 ≤ x ∧ x ≤ 2) := by
        intro q
        first | exact Int32.not_lt.mpr q.1 c1 | exact Int32.not_lt.mpr q.2 c6
      refine J_iconst (v := 0) dX9_isMove_13 (by decide) ?_
      exact J_ireturn dX9_isMove_14 rfl (by rfl) (⟨by first | rw [if_pos e1] | rw [if_neg e1], rfl⟩)
    · have e1 : 0 ≤ x ∧ x ≤ 2 := ⟨Int32.not_lt.mp c1, Int32.not_lt.mp c6⟩
      refine J_iconst (v := 1) dX9_isMove_9 (by decide) ?_
      refine J_goto (tgt := 14) dX9_isMove_10 (by decide) ?_
      exact J_ireturn dX9_isMove_14 rfl (by rfl) (⟨by first | rw [if_pos e1] | rw [if_neg e1], rfl⟩)
set_option maxRecDepth 20000 in
theorem sp_X9_isCrossing {G : GG} (h : HP) (x : Int32) (n : Nat) : Sp G mm_X9_isCrossing 0 0 0 [.int x] h n (fun v h' _ => v = some (.int (if -3 ≤ x ∧ x ≤ 3 ∧ ¬ x = 0 then 1 else 0)) ∧ h' = h) := by
  refine Sp_of (by decide +kernel) (Nat.le_of_ble_eq_true rfl) ?_
  refine J_iload_n dX9_isCrossing_0 (by rfl) ?_
  refine J_bipush (v := (-3)) dX9_isCrossing_1 (by decide) ?_
  refine J_icmp_lt (tgt := 19) dX9_isCrossing_3 (by decide) (fun c3 => ?_) (fun c3 => ?_)
  · have e1 : ¬ (-3 ≤ x ∧ x ≤ 3 ∧ ¬ x = 0) := by
      intro q
      first | exact Int32.not_lt.mpr q.1 c3 | exact Int32.not_lt.mpr q.2.1 c8 | exact q.2.2 c12
    refine J_iconst (v := 0) dX9_isCrossing_19 (by decide) ?_
    exact J_ireturn dX9_isCrossing_20 rfl (by rfl) (⟨by first | rw [if_pos e1] | rw [if_neg e1], rfl⟩)
  · refine J_iload_n dX9_isCrossing_6 (by rfl) ?_
    refine J_iconst (v := 3) dX9_isCrossing_7 (by decide) ?_
    refine J_icmp_gt (tgt := 19) dX9_isCrossing_8 (by decide) (fun c8 => ?_) (fun c8 => ?_)
    · have e1 : ¬ (-3 ≤ x ∧ x ≤ 3 ∧ ¬ x = 0) := by
        intro q
        first | exact Int32.not_lt.mpr q.1 c3 | exact Int32.not_lt.mpr q.2.1 c8 | exact q.2.2 c12
      refine J_iconst (v := 0) dX9_isCrossing_19 (by decide) ?_
      exact J_ireturn dX9_isCrossing_20 rfl (by rfl) (⟨by first | rw [if_pos e1] | rw [if_neg e1], rfl⟩)
    · refine J_iload_n dX9_isCrossing_11 (by rfl) ?_
      refine J_if_eq (tgt := 19) dX9_isCrossing_12 (by decide) (fun c12 => ?_) (fun c12 => ?_)
      · have e1 : ¬ (-3 ≤ x ∧ x ≤ 3 ∧ ¬ x = 0) := by
          intro q
          first | exact Int32.not_lt.mpr q.1 c3 | exact Int32.not_lt.mpr q.2.1 c8 | exact q.2.2 c12
        refine J_iconst (v := 0) dX9_isCrossing_19 (by decide) ?_
        exact J_ireturn dX9_isCrossing_20 rfl (by rfl) (⟨by first | rw [if_pos e1] | rw [if_neg e1], rfl⟩)
      · have e1 : -3 ≤ x ∧ x ≤ 3 ∧ ¬ x = 0 := ⟨Int32.not_lt.mp c3, Int32.not_lt.mp c8, c12⟩
        refine J_iconst (v := 1) dX9_isCrossing_15 (by decide) ?_
        refine J_goto (tgt := 20) dX9_isCrossing_16 (by decide) ?_
        exact J_ireturn dX9_isCrossing_20 rfl (by rfl) (⟨by first | rw [if_pos e1] | rw [if_neg e1], rfl⟩)
theorem isL_nI {p : Nat} (hp : p < 4) : (if (0 : Int32) ≤ nI p ∧ nI p < 4 then (1 : Int32) else 0) = 1 := if_pos ⟨nI_pos' (by omega), (nI_ltI (b := 4) (by omega) (by omega)).mpr hp⟩
/-- the lacing: which lace lies where, the sums of signs (a cell for each two laces) -/
def lacA (l : Nat → Nat) (R : Nat) : Nat → Nat := fun j => if j = R then l (R - 1) else if j = R - 1 then l R else l j
def lacB (s : Nat → Int32) (c : Nat) (x : Int32) : Nat → Int32 := fun j => if j = c then s c + x else s j
def lac (xs : List Int32) : Nat → (Nat → Nat) × (Nat → Int32)
  | 0 => (fun j => j, fun _ => 0)
  | k + 1 => (lacA (lac xs k).1 (rk (xs.getD k 0)).toNatClampNeg,
      lacB (lacB (lac xs k).2 ((lac xs k).1 ((rk (xs.getD k 0)).toNatClampNeg - 1) * 4 + (lac xs k).1 (rk (xs.getD k 0)).toNatClampNeg) (sg (xs.getD k 0)))
        ((lac xs k).1 (rk (xs.getD k 0)).toNatClampNeg * 4 + (lac xs k).1 ((rk (xs.getD k 0)).toNatClampNeg - 1)) (sg (xs.getD k 0)))
theorem lac_lt {xs : List Int32} (hx : allX xs) : ∀ k, k ≤ xs.length → ∀ j, j < 4 → (lac xs k).1 j < 4 := by
  intro k
  induction k with
  | zero => intro _ j hj; exact hj
  | succ k ih =>
    intro hk j hj
    have h := ih (by omega)
    have hR : (rk (xs.getD k 0)).toNatClampNeg < 4 := by rcases (hx k (by omega)).rk with e | e | e <;> rw [e] <;> decide
    show lacA _ _ j < 4
    unfold lacA
    split
    · exact h _ (by omega)
    · split
      · exact h _ hR
      · exact h _ hj
def isLac (G : GG) (h : HP) (a : Nat) (l : Nat → Nat) (s : Nat → Int32) : Prop := h a = some (.inr (2, [.ref (a + 1), .ref (a + 2)])) ∧ (∃ f : Nat → Int32, h (a + 1) = some (.inl (G.2.1 0, 4, .inl f)) ∧ ∀ j, j < 4 → f j = nI (l j)) ∧ ∃ g : Nat → Int32, h (a + 2) = some (.inl (G.2.1 0, 16, .inl g)) ∧ ∀ j, j < 16 → g j = s j
theorem isLac.ob {G : GG} {h : HP} {a : Nat} {l : Nat → Nat} {s : Nat → Int32} (w : isLac G h a l s) : h a = some (.inr (2, [.ref (a + 1), .ref (a + 2)])) := w.1
theorem isLac.fr {G : GG} {h h' : HP} {a lo hi : Nat} {l : Nat → Nat} {s : Nat → Int32} (w : isLac G h a l s) (k : fr lo hi h h') (hd : a + 3 ≤ lo ∨ hi ≤ a) : isLac G h' a l s := by
  obtain ⟨h1, ⟨f, h2, h3⟩, g, h4, h5⟩ := w
  exact ⟨(k _ (by omega)).trans h1, ⟨f, (k _ (by omega)).trans h2, h3⟩, g, (k _ (by omega)).trans h4, h5⟩
set_option maxRecDepth 20000 in
theorem sp_X2_addTo {G : GG} {h : HP} {a p q : Nat} {l : Nat → Nat} {s : Nat → Int32} (w : isLac G h a l s) (hp : p < 4) (hq : q < 4) (x : Int32) (n : Nat) : Sp G mm_X2_addTo 1 0 0 [.ref a, .int (nI p), .int (nI q), .int x] h n (fun v h' _ => v = none ∧ isLac G h' a l (lacB s (p * 4 + q) x) ∧ fr a (a + 3) h h') := by
  refine Sp_of (by decide +kernel) (Nat.le_of_ble_eq_true rfl) ?_
  obtain ⟨h1, ⟨f, h2, h3⟩, g, h4, h5⟩ := id w
  refine J_iload_n dX2_addTo_0 (by rfl) ?_
  refine J_callS mf_X9_isLace lk_X2_42 ms_X9_isLace (sp_X9_isLace _ (nI p) _) dX2_addTo_1 (by decide) (by rfl) rfl (Nat.le_of_ble_eq_true rfl) (Nat.zero_add _) (Nat.zero_add _) (fun v1 h1 n1 q1 => ?_)
  obtain ⟨rfl, rfl⟩ := q1
  rw [isL_nI hp]
  refine J_if_eq (tgt := 28) dX2_addTo_4 (by decide) (fun c4 => ?_) (fun c4 => ?_)
  · exact absurd c4 (by decide)
  · refine J_iload_n dX2_addTo_7 (by rfl) ?_
    refine J_callS mf_X9_isLace lk_X2_42 ms_X9_isLace (sp_X9_isLace _ (nI q) _) dX2_addTo_8 (by decide) (by rfl) rfl (Nat.le_of_ble_eq_true rfl) (Nat.zero_add _) (Nat.zero_add _) (fun v8 h8 n8 q8 => ?_)
    obtain ⟨rfl, rfl⟩ := q8
    rw [isL_nI hq]
    refine J_if_eq (tgt := 28) dX2_addTo_11 (by decide) (fun c11 => ?_) (fun c11 => ?_)
    · exact absurd c11 (by decide)
    · refine J_aload_n dX2_addTo_14 (by rfl) ?_
      refine J_get fg_X2_15 dX2_addTo_15 (by first | assumption | exact isRow.ob (by assumption) | exact isHnd.ob (by assumption) | exact isUnt.ob (by assumption) | exact isSt.ob (by assumption) | exact isHist.ob (by assumption) | exact isTxt.ob (by assumption) | exact isLac.ob (by assumption) | exact hset_s | exact (hset_n (by first | assumption | omega)).trans (by first | assumption | exact isRow.ob (by assumption) | exact isHnd.ob (by assumption) | exact isUnt.ob (by assumption) | exact isSt.ob (by assumption) | exact isHist.ob (by assumption) | exact isTxt.ob (by assumption) | exact isLac.ob (by assumption) | exact hset_s | exact (hset_n (by first | assumption | omega)).trans (by first | assumption | exact isRow.ob (by assumption) | exact isHnd.ob (by assumption) | exact isUnt.ob (by assumption) | exact isSt.ob (by assumption) | exact isHist.ob (by assumption) | exact isTxt.ob (by assumption) | exact isLac.ob (by assumption) | exact hset_s | exact (hset_n (by first | assumption | omega)).trans (by first | assumption | exact isRow.ob (by assumption) | exact isHnd.ob (by assumption) | exact isUnt.ob (by assumption) | exact isSt.ob (by assumption) | exact isHist.ob (by assumption) | exact isTxt.ob (by assumption) | exact isLac.ob (by assumption))))) (by rfl) ?_
      refine J_iload_n dX2_addTo_18 (by rfl) ?_
      refine J_iconst (v := nI 4) dX2_addTo_19 (by decide) ?_
      refine J_imul dX2_addTo_20 ?_
      rw [pk_mul]
      refine J_iload_n dX2_addTo_21 (by rfl) ?_
      refine J_iadd dX2_addTo_22 ?_
      rw [nI_add]
      refine J_dup2 dX2_addTo_23 rfl rfl ?_
      refine J_iald dX2_addTo_24 (by first | assumption | exact isRow.ob (by assumption) | exact isHnd.ob (by assumption) | exact isUnt.ob (by assumption) | exact isSt.ob (by assumption) | exact isHist.ob (by assumption) | exact isTxt.ob (by assumption) | exact isLac.ob (by assumption) | exact hset_s | exact (hset_n (by first | assumption | omega)).trans (by first | assumption | exact isRow.ob (by assumption) | exact isHnd.ob (by assumption) | exact isUnt.ob (by assumption) | exact isSt.ob (by assumption) | exact isHist.ob (by assumption) | exact isTxt.ob (by assumption) | exact isLac.ob (by assumption) | exact hset_s | exact (hset_n (by first | assumption | omega)).trans (by first | assumption | exact isRow.ob (by assumption) | exact isHnd.ob (by assumption) | exact isUnt.ob (by assumption) | exact isSt.ob (by assumption) | exact isHist.ob (by assumption) | exact isTxt.ob (by assumption) | exact isLac.ob (by assumption) | exact hset_s | exact (hset_n (by first | assumption | omega)).trans (by first | assumption | exact isRow.ob (by assumption) | exact isHnd.ob (by assumption) | exact isUnt.ob (by assumption) | exact isSt.ob (by assumption) | exact isHist.ob (by assumption) | exact isTxt.ob (by assumption) | exact isLac.ob (by assumption))))) (vp_in_nI (by omega) (by omega)) ?_
      rw [nI_clamp (by omega), h5 _ (by omega)]
      refine J_iload_n dX2_addTo_25 (by rfl) ?_
      refine J_iadd dX2_addTo_26 ?_
      refine J_iast dX2_addTo_27 (by first | assumption | exact isRow.ob (by assumption) | exact isHnd.ob (by assumption) | exact isUnt.ob (by assumption) | exact isSt.ob (by assumption) | exact isHist.ob (by assumption) | exact isTxt.ob (by assumption) | exact isLac.ob (by assumption) | exact hset_s | exact (hset_n (by first | assumption | omega)).trans (by first | assumption | exact isRow.ob (by assumption) | exact isHnd.ob (by assumption) | exact isUnt.ob (by assumption) | exact isSt.ob (by assumption) | exact isHist.ob (by assumption) | exact isTxt.ob (by assumption) | exact isLac.ob (by assumption) | exact hset_s | exact (hset_n (by first | assumption | omega)).trans (by first | assumption | exact isRow.ob (by assumption) | exact isHnd.ob (by assumption) | exact isUnt.ob (by assumption) | exact isSt.ob (by assumption) | exact isHist.ob (by assumption) | exact isTxt.ob (by assumption) | exact isLac.ob (by assumption) | exact hset_s | exact (hset_n (by first | assumption | omega)).trans (by first | assumption | exact isRow.ob (by assumption) | exact isHnd.ob (by assumption) | exact isUnt.ob (by assumption) | exact isSt.ob (by assumption) | exact isHist.ob (by assumption) | exact isTxt.ob (by assumption) | exact isLac.ob (by assumption))))) (vp_in_nI (by omega) (by omega)) ?_
      exact J_return dX2_addTo_28 rfl (⟨rfl, ⟨(hset_n (by omega)).trans h1, ⟨f, (hset_n (by omega)).trans h2, h3⟩, _, hset_s, fun j hj => by
        rw [nI_clamp (by omega)]
        unfold upd lacB
        by_cases e : j = p * 4 + q
        · rw [if_pos e, if_pos e]
        · rw [if_neg e, if_neg e, h5 j hj]⟩, fr_set (by omega) (by omega)⟩)
set_option maxRecDepth 20000 in
theorem sp_X2_change {G : GG} {h : HP} {a : Nat} {l : Nat → Nat} {s : Nat → Int32} (w : isLac G h a l s) (hl : ∀ j, j < 4 → l j < 4) {x : Int32} (hx : isX x) (n : Nat) : Sp G mm_X2_change 2 0 0 [.ref a, .int x] h n (fun v h' _ => v = none ∧ isLac G h' a (lacA l (rk x).toNatClampNeg) (lacB (lacB s (l ((rk x).toNatClampNeg - 1) * 4 + l (rk x).toNatClampNeg) (sg x)) (l (rk x).toNatClampNeg * 4 + l ((rk x).toNatClampNeg - 1)) (sg x)) ∧ fr a (a + 3) h h') := by
  refine Sp_of (by decide +kernel) (Nat.le_of_ble_eq_true rfl) ?_
  obtain ⟨h1, ⟨f, h2, h3⟩, g, h4, h5⟩ := id w
  obtain ⟨R, hR1, hR2, hR3⟩ : ∃ R : Nat, 1 ≤ R ∧ R ≤ 3 ∧ rk x = nI R := by
    rcases hx.rk with e | e | e
    · exact ⟨1, by omega, by omega, e⟩
    · exact ⟨2, by omega, by omega, e⟩
    · exact ⟨3, by omega, by omega, e⟩
  have hcl : (rk x).toNatClampNeg = R := by rw [hR3, nI_clamp (by omega)]
  rw [hcl]
  have hl1 := hl (R - 1) (by omega)
  have hl2 := hl R (by omega)
  refine J_iload_n dX2_change_0 (by rfl) ?_
  refine J_callS mf_X9_rankOf lk_X2_32 ms_X9_rankOf (sp_X9_rankOf _ x _) dX2_change_1 (by decide) (by rfl) rfl (Nat.le_of_ble_eq_true rfl) (Nat.zero_add _) (Nat.zero_add _) (fun v1 h1 n1 q1 => ?_)
  obtain ⟨rfl, rfl⟩ := q1
  rw [hR3]
  refine J_istore_n dX2_change_4 (by decide) (by rfl) ?_
  refine J_iload_n dX2_change_5 (by rfl) ?_
  refine J_iconst (v := 1) dX2_change_6 (by decide) ?_
  refine J_icmp_lt (tgt := 15) dX2_change_7 (by decide) (fun c7 => ?_) (fun c7 => ?_)
  · exact absurd ((nI_ltI (b := 1) (by omega) (by omega)).mp c7) (by omega)
  · refine J_iload_n dX2_change_10 (by rfl) ?_
    refine J_iconst (v := 3) dX2_change_11 (by decide) ?_
    refine J_icmp_le (tgt := 16) dX2_change_12 (by decide) (fun c12 => ?_) (fun c12 => ?_)
    · refine J_aload_n dX2_change_16 (by rfl) ?_
      refine J_get fg_X2_9 dX2_change_17 (by first | assumption | exact isRow.ob (by assumption) | exact isHnd.ob (by assumption) | exact isUnt.ob (by assumption) | exact isSt.ob (by assumption) | exact isHist.ob (by assumption) | exact isTxt.ob (by assumption) | exact isLac.ob (by assumption) | exact hset_s | exact (hset_n (by first | assumption | omega)).trans (by first | assumption | exact isRow.ob (by assumption) | exact isHnd.ob (by assumption) | exact isUnt.ob (by assumption) | exact isSt.ob (by assumption) | exact isHist.ob (by assumption) | exact isTxt.ob (by assumption) | exact isLac.ob (by assumption) | exact hset_s | exact (hset_n (by first | assumption | omega)).trans (by first | assumption | exact isRow.ob (by assumption) | exact isHnd.ob (by assumption) | exact isUnt.ob (by assumption) | exact isSt.ob (by assumption) | exact isHist.ob (by assumption) | exact isTxt.ob (by assumption) | exact isLac.ob (by assumption) | exact hset_s | exact (hset_n (by first | assumption | omega)).trans (by first | assumption | exact isRow.ob (by assumption) | exact isHnd.ob (by assumption) | exact isUnt.ob (by assumption) | exact isSt.ob (by assumption) | exact isHist.ob (by assumption) | exact isTxt.ob (by assumption) | exact isLac.ob (by assumption))))) (by rfl) ?_
      refine J_iload_n dX2_change_20 (by rfl) ?_
      refine J_iconst (v := 1) dX2_change_21 (by decide) ?_
      refine J_isub dX2_change_22 ?_
      rw [show nI R - 1 = nI (R - 1) from pk_sub (a := R) (b := 1) (by omega)]
      refine J_iald dX2_change_23 (by first | assumption | exact isRow.ob (by assumption) | exact isHnd.ob (by assumption) | exact isUnt.ob (by assumption) | exact isSt.ob (by assumption) | exact isHist.ob (by assumption) | exact isTxt.ob (by assumption) | exact isLac.ob (by assumption) | exact hset_s | exact (hset_n (by first | assumption | omega)).trans (by first | assumption | exact isRow.ob (by assumption) | exact isHnd.ob (by assumption) | exact isUnt.ob (by assumption) | exact isSt.ob (by assumption) | exact isHist.ob (by assumption) | exact isTxt.ob (by assumption) | exact isLac.ob (by assumption) | exact hset_s | exact (hset_n (by first | assumption | omega)).trans (by first | assumption | exact isRow.ob (by assumption) | exact isHnd.ob (by assumption) | exact isUnt.ob (by assumption) | exact isSt.ob (by assumption) | exact isHist.ob (by assumption) | exact isTxt.ob (by assumption) | exact isLac.ob (by assumption) | exact hset_s | exact (hset_n (by first | assumption | omega)).trans (by first | assumption | exact isRow.ob (by assumption) | exact isHnd.ob (by assumption) | exact isUnt.ob (by assumption) | exact isSt.ob (by assumption) | exact isHist.ob (by assumption) | exact isTxt.ob (by assumption) | exact isLac.ob (by assumption))))) (vp_in_nI (by omega) (by omega)) ?_
      rw [nI_clamp (by omega), h3 _ (by omega)]
      refine J_istore_n dX2_change_24 (by decide) (by rfl) ?_
      refine J_aload_n dX2_change_25 (by rfl) ?_
      refine J_get fg_X2_9 dX2_change_26 (by first | assumption | exact isRow.ob (by assumption) | exact isHnd.ob (by assumption) | exact isUnt.ob (by assumption) | exact isSt.ob (by assumption) | exact isHist.ob (by assumption) | exact isTxt.ob (by assumption) | exact isLac.ob (by assumption) | exact hset_s | exact (hset_n (by first | assumption | omega)).trans (by first | assumption | exact isRow.ob (by assumption) | exact isHnd.ob (by assumption) | exact isUnt.ob (by assumption) | exact isSt.ob (by assumption) | exact isHist.ob (by assumption) | exact isTxt.ob (by assumption) | exact isLac.ob (by assumption) | exact hset_s | exact (hset_n (by first | assumption | omega)).trans (by first | assumption | exact isRow.ob (by assumption) | exact isHnd.ob (by assumption) | exact isUnt.ob (by assumption) | exact isSt.ob (by assumption) | exact isHist.ob (by assumption) | exact isTxt.ob (by assumption) | exact isLac.ob (by assumption) | exact hset_s | exact (hset_n (by first | assumption | omega)).trans (by first | assumption | exact isRow.ob (by assumption) | exact isHnd.ob (by assumption) | exact isUnt.ob (by assumption) | exact isSt.ob (by assumption) | exact isHist.ob (by assumption) | exact isTxt.ob (by assumption) | exact isLac.ob (by assumption))))) (by rfl) ?_
      refine J_iload_n dX2_change_29 (by rfl) ?_
      refine J_iald dX2_change_30 (by first | assumption | exact isRow.ob (by assumption) | exact isHnd.ob (by assumption) | exact isUnt.ob (by assumption) | exact isSt.ob (by assumption) | exact isHist.ob (by assumption) | exact isTxt.ob (by assumption) | exact isLac.ob (by assumption) | exact hset_s | exact (hset_n (by first | assumption | omega)).trans (by first | assumption | exact isRow.ob (by assumption) | exact isHnd.ob (by assumption) | exact isUnt.ob (by assumption) | exact isSt.ob (by assumption) | exact isHist.ob (by assumption) | exact isTxt.ob (by assumption) | exact isLac.ob (by assumption) | exact hset_s | exact (hset_n (by first | assumption | omega)).trans (by first | assumption | exact isRow.ob (by assumption) | exact isHnd.ob (by assumption) | exact isUnt.ob (by assumption) | exact isSt.ob (by assumption) | exact isHist.ob (by assumption) | exact isTxt.ob (by assumption) | exact isLac.ob (by assumption) | exact hset_s | exact (hset_n (by first | assumption | omega)).trans (by first | assumption | exact isRow.ob (by assumption) | exact isHnd.ob (by assumption) | exact isUnt.ob (by assumption) | exact isSt.ob (by assumption) | exact isHist.ob (by assumption) | exact isTxt.ob (by assumption) | exact isLac.ob (by assumption))))) (vp_in_nI (by omega) (by omega)) ?_
      rw [nI_clamp (by omega), h3 _ (by omega)]
      refine J_istore dX2_change_31 (by decide) (by rfl) ?_
      refine J_aload_n dX2_change_33 (by rfl) ?_
      refine J_get fg_X2_9 dX2_change_34 (by first | assumption | exact isRow.ob (by assumption) | exact isHnd.ob (by assumption) | exact isUnt.ob (by assumption) | exact isSt.ob (by assumption) | exact isHist.ob (by assumption) | exact isTxt.ob (by assumption) | exact isLac.ob (by assumption) | exact hset_s | exact (hset_n (by first | assumption | omega)).trans (by first | assumption | exact isRow.ob (by assumption) | exact isHnd.ob (by assumption) | exact isUnt.ob (by assumption) | exact isSt.ob (by assumption) | exact isHist.ob (by assumption) | exact isTxt.ob (by assumption) | exact isLac.ob (by assumption) | exact hset_s | exact (hset_n (by first | assumption | omega)).trans (by first | assumption | exact isRow.ob (by assumption) | exact isHnd.ob (by assumption) | exact isUnt.ob (by assumption) | exact isSt.ob (by assumption) | exact isHist.ob (by assumption) | exact isTxt.ob (by assumption) | exact isLac.ob (by assumption) | exact hset_s | exact (hset_n (by first | assumption | omega)).trans (by first | assumption | exact isRow.ob (by assumption) | exact isHnd.ob (by assumption) | exact isUnt.ob (by assumption) | exact isSt.ob (by assumption) | exact isHist.ob (by assumption) | exact isTxt.ob (by assumption) | exact isLac.ob (by assumption))))) (by rfl) ?_
      refine J_iload_n dX2_change_37 (by rfl) ?_
      refine J_iconst (v := 1) dX2_change_38 (by decide) ?_
      refine J_isub dX2_change_39 ?_
      rw [show nI R - 1 = nI (R - 1) from pk_sub (a := R) (b := 1) (by omega)]
      refine J_iload dX2_change_40 (by rfl) ?_
      refine J_iast dX2_change_42 (by first | assumption | exact isRow.ob (by assumption) | exact isHnd.ob (by assumption) | exact isUnt.ob (by assumption) | exact isSt.ob (by assumption) | exact isHist.ob (by assumption) | exact isTxt.ob (by assumption) | exact isLac.ob (by assumption) | exact hset_s | exact (hset_n (by first | assumption | omega)).trans (by first | assumption | exact isRow.ob (by assumption) | exact isHnd.ob (by assumption) | exact isUnt.ob (by assumption) | exact isSt.ob (by assumption) | exact isHist.ob (by assumption) | exact isTxt.ob (by assumption) | exact isLac.ob (by assumption) | exact hset_s | exact (hset_n (by first | assumption | omega)).trans (by first | assumption | exact isRow.ob (by assumption) | exact isHnd.ob (by assumption) | exact isUnt.ob (by assumption) | exact isSt.ob (by assumption) | exact isHist.ob (by assumption) | exact isTxt.ob (by assumption) | exact isLac.ob (by assumption) | exact hset_s | exact (hset_n (by first | assumption | omega)).trans (by first | assumption | exact isRow.ob (by assumption) | exact isHnd.ob (by assumption) | exact isUnt.ob (by assumption) | exact isSt.ob (by assumption) | exact isHist.ob (by assumption) | exact isTxt.ob (by assumption) | exact isLac.ob (by assumption))))) (vp_in_nI (by omega) (by omega)) ?_
      refine J_aload_n dX2_change_43 (by rfl) ?_
      refine J_get fg_X2_9 dX2_change_44 (by first | assumption | exact isRow.ob (by assumption) | exact isHnd.ob (by assumption) | exact isUnt.ob (by assumption) | exact isSt.ob (by assumption) | exact isHist.ob (by assumption) | exact isTxt.ob (by assumption) | exact isLac.ob (by assumption) | exact hset_s | exact (hset_n (by first | assumption | omega)).trans (by first | assumption | exact isRow.ob (by assumption) | exact isHnd.ob (by assumption) | exact isUnt.ob (by assumption) | exact isSt.ob (by assumption) | exact isHist.ob (by assumption) | exact isTxt.ob (by assumption) | exact isLac.ob (by assumption) | exact hset_s | exact (hset_n (by first | assumption | omega)).trans (by first | assumption | exact isRow.ob (by assumption) | exact isHnd.ob (by assumption) | exact isUnt.ob (by assumption) | exact isSt.ob (by assumption) | exact isHist.ob (by assumption) | exact isTxt.ob (by assumption) | exact isLac.ob (by assumption) | exact hset_s | exact (hset_n (by first | assumption | omega)).trans (by first | assumption | exact isRow.ob (by assumption) | exact isHnd.ob (by assumption) | exact isUnt.ob (by assumption) | exact isSt.ob (by assumption) | exact isHist.ob (by assumption) | exact isTxt.ob (by assumption) | exact isLac.ob (by assumption))))) (by rfl) ?_
      refine J_iload_n dX2_change_47 (by rfl) ?_
      refine J_iload_n dX2_change_48 (by rfl) ?_
      refine J_iast dX2_change_49 (by first | assumption | exact isRow.ob (by assumption) | exact isHnd.ob (by assumption) | exact isUnt.ob (by assumption) | exact isSt.ob (by assumption) | exact isHist.ob (by assumption) | exact isTxt.ob (by assumption) | exact isLac.ob (by assumption) | exact hset_s | exact (hset_n (by first | assumption | omega)).trans (by first | assumption | exact isRow.ob (by assumption) | exact isHnd.ob (by assumption) | exact isUnt.ob (by assumption) | exact isSt.ob (by assumption) | exact isHist.ob (by assumption) | exact isTxt.ob (by assumption) | exact isLac.ob (by assumption) | exact hset_s | exact (hset_n (by first | assumption | omega)).trans (by first | assumption | exact isRow.ob (by assumption) | exact isHnd.ob (by assumption) | exact isUnt.ob (by assumption) | exact isSt.ob (by assumption) | exact isHist.ob (by assumption) | exact isTxt.ob (by assumption) | exact isLac.ob (by assumption) | exact hset_s | exact (hset_n (by first | assumption | omega)).trans (by first | assumption | exact isRow.ob (by assumption) | exact isHnd.ob (by assumption) | exact isUnt.ob (by assumption) | exact isSt.ob (by assumption) | exact isHist.ob (by assumption) | exact isTxt.ob (by assumption) | exact isLac.ob (by assumption))))) (vp_in_nI (by omega) (by omega)) ?_
      rw [nI_clamp (by omega), nI_clamp (by omega), hset_hset]
      have w50 : isLac G (hset _ (a + 1) (.inl (G.2.1 0, 4, .inl (upd (upd f (R - 1) (nI (l R))) R (nI (l (R - 1))))))) a (lacA l R) s := ⟨(hset_n (by omega)).trans h1, ⟨_, hset_s, fun j hj => by
        unfold upd lacA
        by_cases e : j = R
        · rw [if_pos e, if_pos e]
        · rw [if_neg e, if_neg e]
          by_cases e2 : j = R - 1
          · rw [if_pos e2, if_pos e2]
          · rw [if_neg e2, if_neg e2, h3 j hj]⟩, g, (hset_n (by omega)).trans h4, h5⟩
      refine J_aload_n dX2_change_50 (by rfl) ?_
      refine J_iload_n dX2_change_51 (by rfl) ?_
      refine J_iload dX2_change_52 (by rfl) ?_
      refine J_iload_n dX2_change_54 (by rfl) ?_
      refine J_callS mf_X9_signOf lk_X2_35 ms_X9_signOf (sp_X9_signOf _ x _) dX2_change_55 (by decide) (by rfl) rfl (Nat.le_of_ble_eq_true rfl) (Nat.zero_add _) (Nat.zero_add _) (fun v55 h55 n55 q55 => ?_)
      obtain ⟨rfl, rfl⟩ := q55
      refine J_callV mf_X2_addTo lk_X2_38 mi_X2_addTo mv_X2_addTo (sp_X2_addTo w50 hl1 hl2 (sg x) _) dX2_change_58 (by first | assumption | exact isRow.ob (by assumption) | exact isHnd.ob (by assumption) | exact isUnt.ob (by assumption) | exact isSt.ob (by assumption) | exact isHist.ob (by assumption) | exact isTxt.ob (by assumption) | exact isLac.ob (by assumption) | exact hset_s | exact (hset_n (by first | assumption | omega)).trans (by first | assumption | exact isRow.ob (by assumption) | exact isHnd.ob (by assumption) | exact isUnt.ob (by assumption) | exact isSt.ob (by assumption) | exact isHist.ob (by assumption) | exact isTxt.ob (by assumption) | exact isLac.ob (by assumption) | exact hset_s | exact (hset_n (by first | assumption | omega)).trans (by first | assumption | exact isRow.ob (by assumption) | exact isHnd.ob (by assumption) | exact isUnt.ob (by assumption) | exact isSt.ob (by assumption) | exact isHist.ob (by assumption) | exact isTxt.ob (by assumption) | exact isLac.ob (by assumption) | exact hset_s | exact (hset_n (by first | assumption | omega)).trans (by first | assumption | exact isRow.ob (by assumption) | exact isHnd.ob (by assumption) | exact isUnt.ob (by assumption) | exact isSt.ob (by assumption) | exact isHist.ob (by assumption) | exact isTxt.ob (by assumption) | exact isLac.ob (by assumption))))) rfl rfl (by decide) (by rfl) rfl (Nat.le_of_ble_eq_true rfl) (Nat.zero_add _) (Nat.zero_add _) (fun v58 h58 n58 q58 => ?_)
      obtain ⟨rfl, w58, f58⟩ := q58
      refine J_aload_n dX2_change_61 (by rfl) ?_
      refine J_iload dX2_change_62 (by rfl) ?_
      refine J_iload_n dX2_change_64 (by rfl) ?_
      refine J_iload_n dX2_change_65 (by rfl) ?_
      refine J_callS mf_X9_signOf lk_X2_35 ms_X9_signOf (sp_X9_signOf _ x _) dX2_change_66 (by decide) (by rfl) rfl (Nat.le_of_ble_eq_true rfl) (Nat.zero_add _) (Nat.zero_add _) (fun v66 h66 n66 q66 => ?_)
      obtain ⟨rfl, rfl⟩ := q66
      refine J_callV mf_X2_addTo lk_X2_38 mi_X2_addTo mv_X2_addTo (sp_X2_addTo w58 hl2 hl1 (sg x) _) dX2_change_69 (by first | assumption | exact isRow.ob (by assumption) | exact isHnd.ob (by assumption) | exact isUnt.ob (by assumption) | exact isSt.ob (by assumption) | exact isHist.ob (by assumption) | exact isTxt.ob (by assumption) | exact isLac.ob (by assumption) | exact hset_s | exact (hset_n (by first | assumption | omega)).trans (by first | assumption | exact isRow.ob (by assumption) | exact isHnd.ob (by assumption) | exact isUnt.ob (by assumption) | exact isSt.ob (by assumption) | exact isHist.ob (by assumption) | exact isTxt.ob (by assumption) | exact isLac.ob (by assumption) | exact hset_s | exact (hset_n (by first | assumption | omega)).trans (by first | assumption | exact isRow.ob (by assumption) | exact isHnd.ob (by assumption) | exact isUnt.ob (by assumption) | exact isSt.ob (by assumption) | exact isHist.ob (by assumption) | exact isTxt.ob (by assumption) | exact isLac.ob (by assumption) | exact hset_s | exact (hset_n (by first | assumption | omega)).trans (by first | assumption | exact isRow.ob (by assumption) | exact isHnd.ob (by assumption) | exact isUnt.ob (by assumption) | exact isSt.ob (by assumption) | exact isHist.ob (by assumption) | exact isTxt.ob (by assumption) | exact isLac.ob (by assumption))))) rfl rfl (by decide) (by rfl) rfl (Nat.le_of_ble_eq_true rfl) (Nat.zero_add _) (Nat.zero_add _) (fun v69 h69 n69 q69 => ?_)
      obtain ⟨rfl, w69, f69⟩ := q69
      exact J_return dX2_change_72 rfl (⟨rfl, w69, fr_tr (fr_set (by omega) (by omega)) (fr_tr f58 f69)⟩)
    · exact absurd ((nI_leI (b := 3) (by omega) (by omega)).mpr (by omega)) c12
set_option maxRecDepth 20000 in
theorem sp_X2_laceAt {G : GG} {h : HP} {a p : Nat} {l : Nat → Nat} {s : Nat → Int32} (w : isLac G h a l s) (hp : p < 4) (n : Nat) : Sp G mm_X2_laceAt 1 0 0 [.ref a, .int (nI p)] h n (fun v h' _ => v = some (.int (nI (l p))) ∧ h' = h) := by
  refine Sp_of (by decide +kernel) (Nat.le_of_ble_eq_true rfl) ?_
  obtain ⟨h1, ⟨f, h2, h3⟩, g, h4, h5⟩ := id w
  refine J_iload_n dX2_laceAt_0 (by rfl) ?_
  refine J_callS mf_X9_isLace lk_X2_42 ms_X9_isLace (sp_X9_isLace _ (nI p) _) dX2_laceAt_1 (by decide) (by rfl) rfl (Nat.le_of_ble_eq_true rfl) (Nat.zero_add _) (Nat.zero_add _) (fun v1 h1 n1 q1 => ?_)
  obtain ⟨rfl, rfl⟩ := q1
  rw [isL_nI hp]
  refine J_if_eq (tgt := 16) dX2_laceAt_4 (by decide) (fun c4 => ?_) (fun c4 => ?_)
  · exact absurd c4 (by decide)
  · refine J_aload_n dX2_laceAt_7 (by rfl) ?_
    refine J_get fg_X2_9 dX2_laceAt_8 (by first | assumption | exact isRow.ob (by assumption) | exact isHnd.ob (by assumption) | exact isUnt.ob (by assumption) | exact isSt.ob (by assumption) | exact isHist.ob (by assumption) | exact isTxt.ob (by assumption) | exact isLac.ob (by assumption) | exact hset_s | exact (hset_n (by first | assumption | omega)).trans (by first | assumption | exact isRow.ob (by assumption) | exact isHnd.ob (by assumption) | exact isUnt.ob (by assumption) | exact isSt.ob (by assumption) | exact isHist.ob (by assumption) | exact isTxt.ob (by assumption) | exact isLac.ob (by assumption) | exact hset_s | exact (hset_n (by first | assumption | omega)).trans (by first | assumption | exact isRow.ob (by assumption) | exact isHnd.ob (by assumption) | exact isUnt.ob (by assumption) | exact isSt.ob (by assumption) | exact isHist.ob (by assumption) | exact isTxt.ob (by assumption) | exact isLac.ob (by assumption) | exact hset_s | exact (hset_n (by first | assumption | omega)).trans (by first | assumption | exact isRow.ob (by assumption) | exact isHnd.ob (by assumption) | exact isUnt.ob (by assumption) | exact isSt.ob (by assumption) | exact isHist.ob (by assumption) | exact isTxt.ob (by assumption) | exact isLac.ob (by assumption))))) (by rfl) ?_
    refine J_iload_n dX2_laceAt_11 (by rfl) ?_
    refine J_iald dX2_laceAt_12 (by first | assumption | exact isRow.ob (by assumption) | exact isHnd.ob (by assumption) | exact isUnt.ob (by assumption) | exact isSt.ob (by assumption) | exact isHist.ob (by assumption) | exact isTxt.ob (by assumption) | exact isLac.ob (by assumption) | exact hset_s | exact (hset_n (by first | assumption | omega)).trans (by first | assumption | exact isRow.ob (by assumption) | exact isHnd.ob (by assumption) | exact isUnt.ob (by assumption) | exact isSt.ob (by assumption) | exact isHist.ob (by assumption) | exact isTxt.ob (by assumption) | exact isLac.ob (by assumption) | exact hset_s | exact (hset_n (by first | assumption | omega)).trans (by first | assumption | exact isRow.ob (by assumption) | exact isHnd.ob (by assumption) | exact isUnt.ob (by assumption) | exact isSt.ob (by assumption) | exact isHist.ob (by assumption) | exact isTxt.ob (by assumption) | exact isLac.ob (by assumption) | exact hset_s | exact (hset_n (by first | assumption | omega)).trans (by first | assumption | exact isRow.ob (by assumption) | exact isHnd.ob (by assumption) | exact isUnt.ob (by assumption) | exact isSt.ob (by assumption) | exact isHist.ob (by assumption) | exact isTxt.ob (by assumption) | exact isLac.ob (by assumption))))) (vp_in_nI (by omega) (by omega)) ?_
    rw [nI_clamp (by omega), h3 _ (by omega)]
    refine J_goto (tgt := 17) dX2_laceAt_13 (by decide) ?_
    exact J_ireturn dX2_laceAt_17 rfl (by rfl) (⟨rfl, rfl⟩)
set_option maxRecDepth 20000 in
theorem sp_X2_sumOf {G : GG} {h : HP} {a p q : Nat} {l : Nat → Nat} {s : Nat → Int32} (w : isLac G h a l s) (hp : p < 4) (hq : q < 4) (n : Nat) : Sp G mm_X2_sumOf 1 0 0 [.ref a, .int (nI p), .int (nI q)] h n (fun v h' _ => v = some (.int (s (p * 4 + q))) ∧ h' = h) := by
  refine Sp_of (by decide +kernel) (Nat.le_of_ble_eq_true rfl) ?_
  obtain ⟨h1, ⟨f, h2, h3⟩, g, h4, h5⟩ := id w
  refine J_iload_n dX2_sumOf_0 (by rfl) ?_
  refine J_callS mf_X9_isLace lk_X2_42 ms_X9_isLace (sp_X9_isLace _ (nI p) _) dX2_sumOf_1 (by decide) (by rfl) rfl (Nat.le_of_ble_eq_true rfl) (Nat.zero_add _) (Nat.zero_add _) (fun v1 h1 n1 q1 => ?_)
  obtain ⟨rfl, rfl⟩ := q1
  rw [isL_nI hp]
  refine J_if_eq (tgt := 27) dX2_sumOf_4 (by decide) (fun c4 => ?_) (fun c4 => ?_)
  · exact absurd c4 (by decide)
  · refine J_iload_n dX2_sumOf_7 (by rfl) ?_
    refine J_callS mf_X9_isLace lk_X2_42 ms_X9_isLace (sp_X9_isLace _ (nI q) _) dX2_sumOf_8 (by decide) (by rfl) rfl (Nat.le_of_ble_eq_true rfl) (Nat.zero_add _) (Nat.zero_add _) (fun v8 h8 n8 q8 => ?_)
    obtain ⟨rfl, rfl⟩ := q8
    rw [isL_nI hq]
    refine J_if_eq (tgt := 27) dX2_sumOf_11 (by decide) (fun c11 => ?_) (fun c11 => ?_)
    · exact absurd c11 (by decide)
    · refine J_aload_n dX2_sumOf_14 (by rfl) ?_
      refine J_get fg_X2_15 dX2_sumOf_15 (by first | assumption | exact isRow.ob (by assumption) | exact isHnd.ob (by assumption) | exact isUnt.ob (by assumption) | exact isSt.ob (by assumption) | exact isHist.ob (by assumption) | exact isTxt.ob (by assumption) | exact isLac.ob (by assumption) | exact hset_s | exact (hset_n (by first | assumption | omega)).trans (by first | assumption | exact isRow.ob (by assumption) | exact isHnd.ob (by assumption) | exact isUnt.ob (by assumption) | exact isSt.ob (by assumption) | exact isHist.ob (by assumption) | exact isTxt.ob (by assumption) | exact isLac.ob (by assumption) | exact hset_s | exact (hset_n (by first | assumption | omega)).trans (by first | assumption | exact isRow.ob (by assumption) | exact isHnd.ob (by assumption) | exact isUnt.ob (by assumption) | exact isSt.ob (by assumption) | exact isHist.ob (by assumption) | exact isTxt.ob (by assumption) | exact isLac.ob (by assumption) | exact hset_s | exact (hset_n (by first | assumption | omega)).trans (by first | assumption | exact isRow.ob (by assumption) | exact isHnd.ob (by assumption) | exact isUnt.ob (by assumption) | exact isSt.ob (by assumption) | exact isHist.ob (by assumption) | exact isTxt.ob (by assumption) | exact isLac.ob (by assumption))))) (by rfl) ?_
      refine J_iload_n dX2_sumOf_18 (by rfl) ?_
      refine J_iconst (v := nI 4) dX2_sumOf_19 (by decide) ?_
      refine J_imul dX2_sumOf_20 ?_
      rw [pk_mul]
      refine J_iload_n dX2_sumOf_21 (by rfl) ?_
      refine J_iadd dX2_sumOf_22 ?_
      rw [nI_add]
      refine J_iald dX2_sumOf_23 (by first | assumption | exact isRow.ob (by assumption) | exact isHnd.ob (by assumption) | exact isUnt.ob (by assumption) | exact isSt.ob (by assumption) | exact isHist.ob (by assumption) | exact isTxt.ob (by assumption) | exact isLac.ob (by assumption) | exact hset_s | exact (hset_n (by first | assumption | omega)).trans (by first | assumption | exact isRow.ob (by assumption) | exact isHnd.ob (by assumption) | exact isUnt.ob (by assumption) | exact isSt.ob (by assumption) | exact isHist.ob (by assumption) | exact isTxt.ob (by assumption) | exact isLac.ob (by assumption) | exact hset_s | exact (hset_n (by first | assumption | omega)).trans (by first | assumption | exact isRow.ob (by assumption) | exact isHnd.ob (by assumption) | exact isUnt.ob (by assumption) | exact isSt.ob (by assumption) | exact isHist.ob (by assumption) | exact isTxt.ob (by assumption) | exact isLac.ob (by assumption) | exact hset_s | exact (hset_n (by first | assumption | omega)).trans (by first | assumption | exact isRow.ob (by assumption) | exact isHnd.ob (by assumption) | exact isUnt.ob (by assumption) | exact isSt.ob (by assumption) | exact isHist.ob (by assumption) | exact isTxt.ob (by assumption) | exact isLac.ob (by assumption))))) (vp_in_nI (by omega) (by omega)) ?_
      rw [nI_clamp (by omega), h5 _ (by omega)]
      refine J_goto (tgt := 28) dX2_sumOf_24 (by decide) ?_
      exact J_ireturn dX2_sumOf_28 rfl (by rfl) (⟨rfl, rfl⟩)
set_option maxRecDepth 20000 in
theorem sp_X2_follow {G : GG} {h : HP} {a r cap m : Nat} {l : Nat → Nat} {s : Nat → Int32} {xs : List Int32} (v : isLac G h a l s) (w : isRow G h r cap xs) (hd : a + 3 ≤ r ∨ r + 2 ≤ a) (hx : allX xs) (hm : m ≤ xs.length) (n : Nat) : Sp G mm_X2_follow 3 0 0 [.ref a, .ref r, .int (nI m)] h n (fun v h' _ => v = none ∧ isLac G h' a (lac xs m).1 (lac xs m).2 ∧ fr a (a + 3) h h') := by
  refine Sp_of (by decide +kernel) (Nat.le_of_ble_eq_true rfl) ?_
  have hle := w.le
  have loop3 : ∀ (j k : Nat) (hh : HP) (n1 : Nat), k + j = m → isLac G hh a (lac xs k).1 (lac xs k).2 → fr a (a + 3) h hh → J (g0 G) mm_X2_follow 3 43 [(0, .ref a), (1, .ref r), (2, .int (nI m)), (3, .int (nI k))] [] hh n1 0 0 (RT mm_X2_follow (fun v h' _ => v = none ∧ isLac G h' a (lac xs m).1 (lac xs m).2 ∧ fr a (a + 3) h h')) := by
    intro j
    induction j with
    | zero =>
      intro k hh n1 hj ww hf
      refine J_iload_n dX2_follow_43 (by rfl) ?_
      refine J_iload_n dX2_follow_44 (by rfl) ?_
      refine J_icmp_ge (tgt := 71) dX2_follow_45 (by decide) (fun c45 => ?_) (fun c45 => ?_)
      · rw [nI_leI (by omega) (by omega)] at c45
        exact J_return dX2_follow_71 rfl (⟨rfl, by rw [show m = k by omega]; exact ww, hf⟩)
      · rw [nI_leI (by omega) (by omega)] at c45
        exact absurd (by omega) c45
    | succ j ih =>
      intro k hh n1 hj ww hf
      have wr := w.fr hf (by omega)
      refine J_iload_n dX2_follow_43 (by rfl) ?_
      refine J_iload_n dX2_follow_44 (by rfl) ?_
      refine J_icmp_ge (tgt := 71) dX2_follow_45 (by decide) (fun c45 => ?_) (fun c45 => ?_)
      · rw [nI_leI (by omega) (by omega)] at c45
        exact absurd c45 (by omega)
      · rw [nI_leI (by omega) (by omega)] at c45
        refine J_iload_n dX2_follow_48 (by rfl) ?_
        refine J_aload_n dX2_follow_49 (by rfl) ?_
        refine J_get fg_X2_18 dX2_follow_50 (by first | assumption | exact isRow.ob (by assumption) | exact isHnd.ob (by assumption) | exact isUnt.ob (by assumption) | exact isSt.ob (by assumption) | exact isHist.ob (by assumption) | exact isTxt.ob (by assumption) | exact isLac.ob (by assumption) | exact hset_s | exact (hset_n (by first | assumption | omega)).trans (by first | assumption | exact isRow.ob (by assumption) | exact isHnd.ob (by assumption) | exact isUnt.ob (by assumption) | exact isSt.ob (by assumption) | exact isHist.ob (by assumption) | exact isTxt.ob (by assumption) | exact isLac.ob (by assumption) | exact hset_s | exact (hset_n (by first | assumption | omega)).trans (by first | assumption | exact isRow.ob (by assumption) | exact isHnd.ob (by assumption) | exact isUnt.ob (by assumption) | exact isSt.ob (by assumption) | exact isHist.ob (by assumption) | exact isTxt.ob (by assumption) | exact isLac.ob (by assumption) | exact hset_s | exact (hset_n (by first | assumption | omega)).trans (by first | assumption | exact isRow.ob (by assumption) | exact isHnd.ob (by assumption) | exact isUnt.ob (by assumption) | exact isSt.ob (by assumption) | exact isHist.ob (by assumption) | exact isTxt.ob (by assumption) | exact isLac.ob (by assumption))))) (by rfl) ?_
        refine J_icmp_ge (tgt := 71) dX2_follow_53 (by decide) (fun c53 => ?_) (fun c53 => ?_)
        · rw [nI_leI (by omega) (by omega)] at c53
          exact absurd c53 (by omega)
        · rw [nI_leI (by omega) (by omega)] at c53
          refine J_aload_n dX2_follow_56 (by rfl) ?_
          refine J_aload_n dX2_follow_57 (by rfl) ?_
          refine J_iload_n dX2_follow_58 (by rfl) ?_
          refine J_callV mf_X5_at lk_X2_24 mi_X5_at mv_X5_at (sp_X5_at wr (k := k) (by omega) _) dX2_follow_59 (by first | assumption | exact isRow.ob (by assumption) | exact isHnd.ob (by assumption) | exact isUnt.ob (by assumption) | exact isSt.ob (by assumption) | exact isHist.ob (by assumption) | exact isTxt.ob (by assumption) | exact isLac.ob (by assumption) | exact hset_s | exact (hset_n (by first | assumption | omega)).trans (by first | assumption | exact isRow.ob (by assumption) | exact isHnd.ob (by assumption) | exact isUnt.ob (by assumption) | exact isSt.ob (by assumption) | exact isHist.ob (by assumption) | exact isTxt.ob (by assumption) | exact isLac.ob (by assumption) | exact hset_s | exact (hset_n (by first | assumption | omega)).trans (by first | assumption | exact isRow.ob (by assumption) | exact isHnd.ob (by assumption) | exact isUnt.ob (by assumption) | exact isSt.ob (by assumption) | exact isHist.ob (by assumption) | exact isTxt.ob (by assumption) | exact isLac.ob (by assumption) | exact hset_s | exact (hset_n (by first | assumption | omega)).trans (by first | assumption | exact isRow.ob (by assumption) | exact isHnd.ob (by assumption) | exact isUnt.ob (by assumption) | exact isSt.ob (by assumption) | exact isHist.ob (by assumption) | exact isTxt.ob (by assumption) | exact isLac.ob (by assumption))))) rfl rfl (by decide) (by rfl) rfl (Nat.le_of_ble_eq_true rfl) (Nat.zero_add _) (Nat.zero_add _) (fun v59 h59 n59 q59 => ?_)
          obtain ⟨rfl, rfl⟩ := q59
          refine J_callV mf_X2_change lk_X2_28 mi_X2_change mv_X2_change (sp_X2_change ww (lac_lt hx k (by omega)) (hx k (by omega)) _) dX2_follow_62 (by first | assumption | exact isRow.ob (by assumption) | exact isHnd.ob (by assumption) | exact isUnt.ob (by assumption) | exact isSt.ob (by assumption) | exact isHist.ob (by assumption) | exact isTxt.ob (by assumption) | exact isLac.ob (by assumption) | exact hset_s | exact (hset_n (by first | assumption | omega)).trans (by first | assumption | exact isRow.ob (by assumption) | exact isHnd.ob (by assumption) | exact isUnt.ob (by assumption) | exact isSt.ob (by assumption) | exact isHist.ob (by assumption) | exact isTxt.ob (by assumption) | exact isLac.ob (by assumption) | exact hset_s | exact (hset_n (by first | assumption | omega)).trans (by first | assumption | exact isRow.ob (by assumption) | exact isHnd.ob (by assumption) | exact isUnt.ob (by assumption) | exact isSt.ob (by assumption) | exact isHist.ob (by assumption) | exact isTxt.ob (by assumption) | exact isLac.ob (by assumption) | exact hset_s | exact (hset_n (by first | assumption | omega)).trans (by first | assumption | exact isRow.ob (by assumption) | exact isHnd.ob (by assumption) | exact isUnt.ob (by assumption) | exact isSt.ob (by assumption) | exact isHist.ob (by assumption) | exact isTxt.ob (by assumption) | exact isLac.ob (by assumption))))) rfl rfl (by decide) (by rfl) rfl (Nat.le_of_ble_eq_true rfl) (Nat.zero_add _) (Nat.zero_add _) (fun v62 h62 n62 q62 => ?_)
          obtain ⟨rfl, w62, f62⟩ := q62
          refine J_iincN dX2_follow_65 (by rfl) (by decide) (by rfl) ?_
          refine J_goto (tgt := 43) dX2_follow_68 (by decide) ?_
          exact J_sub (by repeat (first | exact subl_nil | refine subl_cons rfl ?_)) (ih (k + 1) _ _ (by omega) w62 (fr_tr hf f62))
  have loop2 : ∀ (j k : Nat) (hh : HP) (n1 : Nat) (f g : Nat → Int32), k + j = 16 → hh a = some (.inr (2, [.ref (a + 1), .ref (a + 2)])) → hh (a + 1) = some (.inl (G.2.1 0, 4, .inl f)) → (∀ i, i < 4 → f i = nI i) → hh (a + 2) = some (.inl (G.2.1 0, 16, .inl g)) → (∀ i, i < k → g i = 0) → fr a (a + 3) h hh → J (g0 G) mm_X2_follow 3 22 [(0, .ref a), (1, .ref r), (2, .int (nI m)), (3, .int (nI k))] [] hh n1 0 0 (RT mm_X2_follow (fun v h' _ => v = none ∧ isLac G h' a (lac xs m).1 (lac xs m).2 ∧ fr a (a + 3) h h')) := by
    intro j
    induction j with
    | zero =>
      intro k hh n1 f g hj g1 g2 g3 g4 g5 hf
      refine J_iload_n dX2_follow_22 (by rfl) ?_
      refine J_bipush (v := nI 16) dX2_follow_23 (by decide) ?_
      refine J_icmp_ge (tgt := 41) dX2_follow_25 (by decide) (fun c25 => ?_) (fun c25 => ?_)
      · rw [nI_leI (by omega) (by omega)] at c25
        refine J_iconst (v := 0) dX2_follow_41 (by decide) ?_
        refine J_istore_n dX2_follow_42 (by decide) (by rfl) ?_
        exact J_sub (by repeat (first | exact subl_nil | refine subl_cons rfl ?_)) (loop3 m 0 _ _ (by omega) ⟨g1, ⟨f, g2, g3⟩, g, g4, fun i hi => g5 i (by omega)⟩ hf)
      · rw [nI_leI (by omega) (by omega)] at c25
        exact absurd (by omega) c25
    | succ j ih =>
      intro k hh n1 f g hj g1 g2 g3 g4 g5 hf
      refine J_iload_n dX2_follow_22 (by rfl) ?_
      refine J_bipush (v := nI 16) dX2_follow_23 (by decide) ?_
      refine J_icmp_ge (tgt := 41) dX2_follow_25 (by decide) (fun c25 => ?_) (fun c25 => ?_)
      · rw [nI_leI (by omega) (by omega)] at c25
        exact absurd c25 (by omega)
      · rw [nI_leI (by omega) (by omega)] at c25
        refine J_aload_n dX2_follow_28 (by rfl) ?_
        refine J_get fg_X2_15 dX2_follow_29 (by first | assumption | exact isRow.ob (by assumption) | exact isHnd.ob (by assumption) | exact isUnt.ob (by assumption) | exact isSt.ob (by assumption) | exact isHist.ob (by assumption) | exact isTxt.ob (by assumption) | exact isLac.ob (by assumption) | exact hset_s | exact (hset_n (by first | assumption | omega)).trans (by first | assumption | exact isRow.ob (by assumption) | exact isHnd.ob (by assumption) | exact isUnt.ob (by assumption) | exact isSt.ob (by assumption) | exact isHist.ob (by assumption) | exact isTxt.ob (by assumption) | exact isLac.ob (by assumption) | exact hset_s | exact (hset_n (by first | assumption | omega)).trans (by first | assumption | exact isRow.ob (by assumption) | exact isHnd.ob (by assumption) | exact isUnt.ob (by assumption) | exact isSt.ob (by assumption) | exact isHist.ob (by assumption) | exact isTxt.ob (by assumption) | exact isLac.ob (by assumption) | exact hset_s | exact (hset_n (by first | assumption | omega)).trans (by first | assumption | exact isRow.ob (by assumption) | exact isHnd.ob (by assumption) | exact isUnt.ob (by assumption) | exact isSt.ob (by assumption) | exact isHist.ob (by assumption) | exact isTxt.ob (by assumption) | exact isLac.ob (by assumption))))) (by rfl) ?_
        refine J_iload_n dX2_follow_32 (by rfl) ?_
        refine J_iconst (v := 0) dX2_follow_33 (by decide) ?_
        refine J_iast dX2_follow_34 (by first | assumption | exact isRow.ob (by assumption) | exact isHnd.ob (by assumption) | exact isUnt.ob (by assumption) | exact isSt.ob (by assumption) | exact isHist.ob (by assumption) | exact isTxt.ob (by assumption) | exact isLac.ob (by assumption) | exact hset_s | exact (hset_n (by first | assumption | omega)).trans (by first | assumption | exact isRow.ob (by assumption) | exact isHnd.ob (by assumption) | exact isUnt.ob (by assumption) | exact isSt.ob (by assumption) | exact isHist.ob (by assumption) | exact isTxt.ob (by assumption) | exact isLac.ob (by assumption) | exact hset_s | exact (hset_n (by first | assumption | omega)).trans (by first | assumption | exact isRow.ob (by assumption) | exact isHnd.ob (by assumption) | exact isUnt.ob (by assumption) | exact isSt.ob (by assumption) | exact isHist.ob (by assumption) | exact isTxt.ob (by assumption) | exact isLac.ob (by assumption) | exact hset_s | exact (hset_n (by first | assumption | omega)).trans (by first | assumption | exact isRow.ob (by assumption) | exact isHnd.ob (by assumption) | exact isUnt.ob (by assumption) | exact isSt.ob (by assumption) | exact isHist.ob (by assumption) | exact isTxt.ob (by assumption) | exact isLac.ob (by assumption))))) (vp_in_nI (by omega) (by omega)) ?_
        refine J_iincN dX2_follow_35 (by rfl) (by decide) (by rfl) ?_
        refine J_goto (tgt := 22) dX2_follow_38 (by decide) ?_
        exact J_sub (by repeat (first | exact subl_nil | refine subl_cons rfl ?_)) (ih (k + 1) _ _ f _ (by omega) ((hset_n (by omega)).trans g1) ((hset_n (by omega)).trans g2) g3 hset_s (fun i hi => by
          rw [nI_clamp (by omega)]
          unfold upd
          by_cases e : i = k
          · rw [if_pos e]
          · rw [if_neg e]; exact g5 i (by omega)) (fr_tr hf (fr_set (by omega) (by omega))))
  have loop1 : ∀ (j k : Nat) (hh : HP) (n1 : Nat) (f g : Nat → Int32), k + j = 4 → hh a = some (.inr (2, [.ref (a + 1), .ref (a + 2)])) → hh (a + 1) = some (.inl (G.2.1 0, 4, .inl f)) → (∀ i, i < k → f i = nI i) → hh (a + 2) = some (.inl (G.2.1 0, 16, .inl g)) → fr a (a + 3) h hh → J (g0 G) mm_X2_follow 3 2 [(0, .ref a), (1, .ref r), (2, .int (nI m)), (3, .int (nI k))] [] hh n1 0 0 (RT mm_X2_follow (fun v h' _ => v = none ∧ isLac G h' a (lac xs m).1 (lac xs m).2 ∧ fr a (a + 3) h h')) := by
    intro j
    induction j with
    | zero =>
      intro k hh n1 f g hj g1 g2 g3 g4 hf
      refine J_iload_n dX2_follow_2 (by rfl) ?_
      refine J_iconst (v := nI 4) dX2_follow_3 (by decide) ?_
      refine J_icmp_ge (tgt := 20) dX2_follow_4 (by decide) (fun c4 => ?_) (fun c4 => ?_)
      · rw [nI_leI (by omega) (by omega)] at c4
        refine J_iconst (v := 0) dX2_follow_20 (by decide) ?_
        refine J_istore_n dX2_follow_21 (by decide) (by rfl) ?_
        exact J_sub (by repeat (first | exact subl_nil | refine subl_cons rfl ?_)) (loop2 16 0 _ _ f g (by omega) g1 g2 (fun i hi => g3 i (by omega)) g4 (fun i hi => absurd hi (by omega)) hf)
      · rw [nI_leI (by omega) (by omega)] at c4
        exact absurd (by omega) c4
    | succ j ih =>
      intro k hh n1 f g hj g1 g2 g3 g4 hf
      refine J_iload_n dX2_follow_2 (by rfl) ?_
      refine J_iconst (v := nI 4) dX2_follow_3 (by decide) ?_
      refine J_icmp_ge (tgt := 20) dX2_follow_4 (by decide) (fun c4 => ?_) (fun c4 => ?_)
      · rw [nI_leI (by omega) (by omega)] at c4
        exact absurd c4 (by omega)
      · rw [nI_leI (by omega) (by omega)] at c4
        refine J_aload_n dX2_follow_7 (by rfl) ?_
        refine J_get fg_X2_9 dX2_follow_8 (by first | assumption | exact isRow.ob (by assumption) | exact isHnd.ob (by assumption) | exact isUnt.ob (by assumption) | exact isSt.ob (by assumption) | exact isHist.ob (by assumption) | exact isTxt.ob (by assumption) | exact isLac.ob (by assumption) | exact hset_s | exact (hset_n (by first | assumption | omega)).trans (by first | assumption | exact isRow.ob (by assumption) | exact isHnd.ob (by assumption) | exact isUnt.ob (by assumption) | exact isSt.ob (by assumption) | exact isHist.ob (by assumption) | exact isTxt.ob (by assumption) | exact isLac.ob (by assumption) | exact hset_s | exact (hset_n (by first | assumption | omega)).trans (by first | assumption | exact isRow.ob (by assumption) | exact isHnd.ob (by assumption) | exact isUnt.ob (by assumption) | exact isSt.ob (by assumption) | exact isHist.ob (by assumption) | exact isTxt.ob (by assumption) | exact isLac.ob (by assumption) | exact hset_s | exact (hset_n (by first | assumption | omega)).trans (by first | assumption | exact isRow.ob (by assumption) | exact isHnd.ob (by assumption) | exact isUnt.ob (by assumption) | exact isSt.ob (by assumption) | exact isHist.ob (by assumption) | exact isTxt.ob (by assumption) | exact isLac.ob (by assumption))))) (by rfl) ?_
        refine J_iload_n dX2_follow_11 (by rfl) ?_
        refine J_iload_n dX2_follow_12 (by rfl) ?_
        refine J_iast dX2_follow_13 (by first | assumption | exact isRow.ob (by assumption) | exact isHnd.ob (by assumption) | exact isUnt.ob (by assumption) | exact isSt.ob (by assumption) | exact isHist.ob (by assumption) | exact isTxt.ob (by assumption) | exact isLac.ob (by assumption) | exact hset_s | exact (hset_n (by first | assumption | omega)).trans (by first | assumption | exact isRow.ob (by assumption) | exact isHnd.ob (by assumption) | exact isUnt.ob (by assumption) | exact isSt.ob (by assumption) | exact isHist.ob (by assumption) | exact isTxt.ob (by assumption) | exact isLac.ob (by assumption) | exact hset_s | exact (hset_n (by first | assumption | omega)).trans (by first | assumption | exact isRow.ob (by assumption) | exact isHnd.ob (by assumption) | exact isUnt.ob (by assumption) | exact isSt.ob (by assumption) | exact isHist.ob (by assumption) | exact isTxt.ob (by assumption) | exact isLac.ob (by assumption) | exact hset_s | exact (hset_n (by first | assumption | omega)).trans (by first | assumption | exact isRow.ob (by assumption) | exact isHnd.ob (by assumption) | exact isUnt.ob (by assumption) | exact isSt.ob (by assumption) | exact isHist.ob (by assumption) | exact isTxt.ob (by assumption) | exact isLac.ob (by assumption))))) (vp_in_nI (by omega) (by omega)) ?_
        refine J_iincN dX2_follow_14 (by rfl) (by decide) (by rfl) ?_
        refine J_goto (tgt := 2) dX2_follow_17 (by decide) ?_
        exact J_sub (by repeat (first | exact subl_nil | refine subl_cons rfl ?_)) (ih (k + 1) _ _ _ g (by omega) ((hset_n (by omega)).trans g1) hset_s (fun i hi => by
          rw [nI_clamp (by omega)]
          unfold upd
          by_cases e : i = k
          · rw [if_pos e, e]
          · rw [if_neg e]; exact g3 i (by omega)) ((hset_n (by omega)).trans g4) (fr_tr hf (fr_set (by omega) (by omega))))
  obtain ⟨h1, ⟨f, h2, h3⟩, g, h4, h5⟩ := id v
  refine J_iconst (v := 0) dX2_follow_0 (by decide) ?_
  refine J_istore_n dX2_follow_1 (by decide) (by rfl) ?_
  exact J_sub (by repeat (first | exact subl_nil | refine subl_cons rfl ?_)) (loop1 4 0 _ _ f g (by omega) h1 h2 (fun i hi => absurd hi (by omega)) h4 fr_rf)
