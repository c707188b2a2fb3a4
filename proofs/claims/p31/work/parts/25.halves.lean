/-! the measure by halves; its cells -/
set_option maxRecDepth 20000 in
theorem sp_X3_halve {G : GG} {r cap tb : Nat} {xs : List Int32} (hd : tb + 17 ≤ r ∨ r + 2 ≤ tb) (hx : allX xs) : ∀ (k : Nat) {h : HP} {f m t L s : Nat} (_ : isRow G h r cap xs) (_ : isTab G h tb) (_ : t = f + m) (_ : t ≤ xs.length) (_ : m ≤ 2 ^ k) (_ : L + k ≤ 5) (_ : s < 2 * (L + 1)) (n : Nat), Sp G mm_X3_halve (2 + k) 0 0 [.ref r, .int (nI f), .int (nI t), .int (nI L), .int (nI s), .ref tb] h n (fun v h' _ => v = none ∧ isMat G h' (tb + 1 + s) (mS xs f m) ∧ isTab G h' tb ∧ ∀ a, a ≠ tb + 1 + s → (a < tb + 1 + 2 * (L + 1) ∨ tb + 17 ≤ a) → h' a = h a) := by
  intro k
  induction k with
  | zero =>
    intro h f m t L s w v ht htl hm hL hs n
    refine Sp_of (by decide +kernel) (Nat.le_of_ble_eq_true rfl) ?_
    have hle := w.le
    obtain ⟨⟨g, o1, o2⟩, o3⟩ := id v
    obtain ⟨gs, o4⟩ := o3 s (by omega)
    have tabk : ∀ {h' : HP} {A : Nat → Nat}, isMat G h' (tb + 1 + s) A → fr (tb + 1 + s) (tb + 1 + s + 1) h h' → isTab G h' tb := fun {h' A} q1 q2 => ⟨⟨g, (q2 _ (by omega)).trans o1, o2⟩, fun i hi => by
      by_cases e : i = s
      · subst e; obtain ⟨f9, q3, -⟩ := q1; exact ⟨f9, q3⟩
      · obtain ⟨f9, q3⟩ := o3 i hi; exact ⟨f9, (q2 _ (by omega)).trans q3⟩⟩
    refine J_iload_n dX3_halve_0 (by rfl) ?_
    refine J_bipush (v := 8) dX3_halve_1 (by decide) ?_
    refine J_icmp_ge (tgt := 19) dX3_halve_3 (by decide) (fun c3 => ?_) (fun c3 => ?_)
    · exact absurd ((nI_leI (a := 8) (by omega) (by omega)).mp c3) (by omega)
    · refine J_iload dX3_halve_6 (by rfl) ?_
      refine J_if_lt (tgt := 19) dX3_halve_8 (by decide) (fun c8 => ?_) (fun c8 => ?_)
      · exact absurd c8 (nI_pos (by omega))
      · refine J_iload dX3_halve_11 (by rfl) ?_
        refine J_aload dX3_halve_13 (by rfl) ?_
        refine J_alen (t := 3) (by decide) dX3_halve_15 (by first | assumption | exact isRow.ob (by assumption) | exact isHnd.ob (by assumption) | exact isUnt.ob (by assumption) | exact isSt.ob (by assumption) | exact isHist.ob (by assumption) | exact isTxt.ob (by assumption) | exact isLac.ob (by assumption) | exact isMea.ob (by assumption) | exact hset_s | exact (hset_n (by first | assumption | omega)).trans (by first | assumption | exact isRow.ob (by assumption) | exact isHnd.ob (by assumption) | exact isUnt.ob (by assumption) | exact isSt.ob (by assumption) | exact isHist.ob (by assumption) | exact isTxt.ob (by assumption) | exact isLac.ob (by assumption) | exact isMea.ob (by assumption) | exact hset_s | exact (hset_n (by first | assumption | omega)).trans (by first | assumption | exact isRow.ob (by assumption) | exact isHnd.ob (by assumption) | exact isUnt.ob (by assumption) | exact isSt.ob (by assumption) | exact isHist.ob (by assumption) | exact isTxt.ob (by assumption) | exact isLac.ob (by assumption) | exact isMea.ob (by assumption) | exact hset_s | exact (hset_n (by first | assumption | omega)).trans (by first | assumption | exact isRow.ob (by assumption) | exact isHnd.ob (by assumption) | exact isUnt.ob (by assumption) | exact isSt.ob (by assumption) | exact isHist.ob (by assumption) | exact isTxt.ob (by assumption) | exact isLac.ob (by assumption) | exact isMea.ob (by assumption))))) ?_
        refine J_icmp_lt (tgt := 20) dX3_halve_16 (by decide) (fun c16 => ?_) (fun c16 => ?_)
        · refine J_iload_n dX3_halve_20 (by rfl) ?_
          refine J_iload_n dX3_halve_21 (by rfl) ?_
          refine J_isub dX3_halve_22 ?_
          rw [pk_sub (a := t) (b := f) (by omega), show t - f = m by omega]
          refine J_if_gt (tgt := 35) dX3_halve_23 (by decide) (fun c23 => ?_) (fun c23 => ?_)
          · have e23 : 0 < m := (nI_ltI (a := 0) (by omega) (by omega)).mp c23
            refine J_iload_n dX3_halve_35 (by rfl) ?_
            refine J_iload_n dX3_halve_36 (by rfl) ?_
            refine J_isub dX3_halve_37 ?_
            refine J_iconst (v := 1) dX3_halve_38 (by decide) ?_
            rw [pk_sub (a := t) (b := f) (by omega), show t - f = m by omega]
            refine J_icmp_ne (tgt := 56) dX3_halve_39 (by decide) (fun c39 => ?_) (fun c39 => ?_)
            · exact absurd ((nI_eq (b := 1) (by omega) (by omega)).mpr (by omega)) c39
            · refine J_aload_n dX3_halve_42 (by rfl) ?_
              refine J_iload_n dX3_halve_43 (by rfl) ?_
              refine J_callV mf_X5_at lk_X3_36 mi_X5_at mv_X5_at (sp_X5_at w (k := f) (by omega) _) dX3_halve_44 (by first | assumption | exact isRow.ob (by assumption) | exact isHnd.ob (by assumption) | exact isUnt.ob (by assumption) | exact isSt.ob (by assumption) | exact isHist.ob (by assumption) | exact isTxt.ob (by assumption) | exact isLac.ob (by assumption) | exact isMea.ob (by assumption) | exact hset_s | exact (hset_n (by first | assumption | omega)).trans (by first | assumption | exact isRow.ob (by assumption) | exact isHnd.ob (by assumption) | exact isUnt.ob (by assumption) | exact isSt.ob (by assumption) | exact isHist.ob (by assumption) | exact isTxt.ob (by assumption) | exact isLac.ob (by assumption) | exact isMea.ob (by assumption) | exact hset_s | exact (hset_n (by first | assumption | omega)).trans (by first | assumption | exact isRow.ob (by assumption) | exact isHnd.ob (by assumption) | exact isUnt.ob (by assumption) | exact isSt.ob (by assumption) | exact isHist.ob (by assumption) | exact isTxt.ob (by assumption) | exact isLac.ob (by assumption) | exact isMea.ob (by assumption) | exact hset_s | exact (hset_n (by first | assumption | omega)).trans (by first | assumption | exact isRow.ob (by assumption) | exact isHnd.ob (by assumption) | exact isUnt.ob (by assumption) | exact isSt.ob (by assumption) | exact isHist.ob (by assumption) | exact isTxt.ob (by assumption) | exact isLac.ob (by assumption) | exact isMea.ob (by assumption))))) rfl rfl (by omega) (by rfl) rfl (Nat.le_of_ble_eq_true rfl) (Nat.zero_add _) (Nat.zero_add _) (fun v44 h44 n44 q44 => ?_)
              obtain ⟨rfl, rfl⟩ := q44
              refine J_aload dX3_halve_47 (by rfl) ?_
              refine J_iload dX3_halve_49 (by rfl) ?_
              refine J_aald (t := 3) (Or.inr rfl) dX3_halve_51 (by first | assumption | exact isRow.ob (by assumption) | exact isHnd.ob (by assumption) | exact isUnt.ob (by assumption) | exact isSt.ob (by assumption) | exact isHist.ob (by assumption) | exact isTxt.ob (by assumption) | exact isLac.ob (by assumption) | exact isMea.ob (by assumption) | exact hset_s | exact (hset_n (by first | assumption | omega)).trans (by first | assumption | exact isRow.ob (by assumption) | exact isHnd.ob (by assumption) | exact isUnt.ob (by assumption) | exact isSt.ob (by assumption) | exact isHist.ob (by assumption) | exact isTxt.ob (by assumption) | exact isLac.ob (by assumption) | exact isMea.ob (by assumption) | exact hset_s | exact (hset_n (by first | assumption | omega)).trans (by first | assumption | exact isRow.ob (by assumption) | exact isHnd.ob (by assumption) | exact isUnt.ob (by assumption) | exact isSt.ob (by assumption) | exact isHist.ob (by assumption) | exact isTxt.ob (by assumption) | exact isLac.ob (by assumption) | exact isMea.ob (by assumption) | exact hset_s | exact (hset_n (by first | assumption | omega)).trans (by first | assumption | exact isRow.ob (by assumption) | exact isHnd.ob (by assumption) | exact isUnt.ob (by assumption) | exact isSt.ob (by assumption) | exact isHist.ob (by assumption) | exact isTxt.ob (by assumption) | exact isLac.ob (by assumption) | exact isMea.ob (by assumption))))) (vp_in_nI (by omega) (by omega)) ?_
              rw [nI_clamp (by omega), o2 s (by omega), va_rf]
              refine J_callS mf_X3_fillWithOne lk_X3_40 ms_X3_fillWithOne (sp_X3_fillWithOne o4 (hx f (by omega)) _) dX3_halve_52 (by omega) (by rfl) rfl (Nat.le_of_ble_eq_true rfl) (Nat.zero_add _) (Nat.zero_add _) (fun v52 h52 n52 q52 => ?_)
              obtain ⟨rfl, w52, f52⟩ := q52
              exact J_return dX3_halve_55 rfl (⟨rfl, by rw [show m = 1 by omega]; exact w52.to (fun c hc => ((mid_l (ok_one _) hc).symm)), tabk w52 f52, fun q h1 h2 => f52 q (by omega)⟩)
          · have e23 : ¬ 0 < m := fun q => c23 ((nI_ltI (a := 0) (by omega) (by omega)).mpr q)
            refine J_aload dX3_halve_26 (by rfl) ?_
            refine J_iload dX3_halve_28 (by rfl) ?_
            refine J_aald (t := 3) (Or.inr rfl) dX3_halve_30 (by first | assumption | exact isRow.ob (by assumption) | exact isHnd.ob (by assumption) | exact isUnt.ob (by assumption) | exact isSt.ob (by assumption) | exact isHist.ob (by assumption) | exact isTxt.ob (by assumption) | exact isLac.ob (by assumption) | exact isMea.ob (by assumption) | exact hset_s | exact (hset_n (by first | assumption | omega)).trans (by first | assumption | exact isRow.ob (by assumption) | exact isHnd.ob (by assumption) | exact isUnt.ob (by assumption) | exact isSt.ob (by assumption) | exact isHist.ob (by assumption) | exact isTxt.ob (by assumption) | exact isLac.ob (by assumption) | exact isMea.ob (by assumption) | exact hset_s | exact (hset_n (by first | assumption | omega)).trans (by first | assumption | exact isRow.ob (by assumption) | exact isHnd.ob (by assumption) | exact isUnt.ob (by assumption) | exact isSt.ob (by assumption) | exact isHist.ob (by assumption) | exact isTxt.ob (by assumption) | exact isLac.ob (by assumption) | exact isMea.ob (by assumption) | exact hset_s | exact (hset_n (by first | assumption | omega)).trans (by first | assumption | exact isRow.ob (by assumption) | exact isHnd.ob (by assumption) | exact isUnt.ob (by assumption) | exact isSt.ob (by assumption) | exact isHist.ob (by assumption) | exact isTxt.ob (by assumption) | exact isLac.ob (by assumption) | exact isMea.ob (by assumption))))) (vp_in_nI (by omega) (by omega)) ?_
            rw [nI_clamp (by omega), o2 s (by omega), va_rf]
            refine J_callS mf_X3_fillWithNone lk_X3_26 ms_X3_fillWithNone (sp_X3_fillWithNone o4 _) dX3_halve_31 (by omega) (by rfl) rfl (Nat.le_of_ble_eq_true rfl) (Nat.zero_add _) (Nat.zero_add _) (fun v31 h31 n31 q31 => ?_)
            obtain ⟨rfl, w31, f31⟩ := q31
            exact J_return dX3_halve_34 rfl (⟨rfl, by rw [show m = 0 by omega]; exact w31, tabk w31 f31, fun q h1 h2 => f31 q (by omega)⟩)
        · exact absurd ((nI_ltI (b := 16) (by omega) (by omega)).mpr (by omega)) c16
  | succ k ih =>
    intro h f m t L s w v ht htl hm hL hs n
    refine Sp_of (by decide +kernel) (Nat.le_of_ble_eq_true rfl) ?_
    have hle := w.le
    have hpow : 2 ^ (k + 1) = 2 * 2 ^ k := by rw [Nat.pow_succ]; omega
    obtain ⟨⟨g, o1, o2⟩, o3⟩ := id v
    obtain ⟨gs, o4⟩ := o3 s (by omega)
    have tabk : ∀ {h' : HP} {A : Nat → Nat}, isMat G h' (tb + 1 + s) A → fr (tb + 1 + s) (tb + 1 + s + 1) h h' → isTab G h' tb := fun {h' A} q1 q2 => ⟨⟨g, (q2 _ (by omega)).trans o1, o2⟩, fun i hi => by
      by_cases e : i = s
      · subst e; obtain ⟨f9, q3, -⟩ := q1; exact ⟨f9, q3⟩
      · obtain ⟨f9, q3⟩ := o3 i hi; exact ⟨f9, (q2 _ (by omega)).trans q3⟩⟩
    refine J_iload_n dX3_halve_0 (by rfl) ?_
    refine J_bipush (v := 8) dX3_halve_1 (by decide) ?_
    refine J_icmp_ge (tgt := 19) dX3_halve_3 (by decide) (fun c3 => ?_) (fun c3 => ?_)
    · exact absurd ((nI_leI (a := 8) (by omega) (by omega)).mp c3) (by omega)
    · refine J_iload dX3_halve_6 (by rfl) ?_
      refine J_if_lt (tgt := 19) dX3_halve_8 (by decide) (fun c8 => ?_) (fun c8 => ?_)
      · exact absurd c8 (nI_pos (by omega))
      · refine J_iload dX3_halve_11 (by rfl) ?_
        refine J_aload dX3_halve_13 (by rfl) ?_
        refine J_alen (t := 3) (by decide) dX3_halve_15 (by first | assumption | exact isRow.ob (by assumption) | exact isHnd.ob (by assumption) | exact isUnt.ob (by assumption) | exact isSt.ob (by assumption) | exact isHist.ob (by assumption) | exact isTxt.ob (by assumption) | exact isLac.ob (by assumption) | exact isMea.ob (by assumption) | exact hset_s | exact (hset_n (by first | assumption | omega)).trans (by first | assumption | exact isRow.ob (by assumption) | exact isHnd.ob (by assumption) | exact isUnt.ob (by assumption) | exact isSt.ob (by assumption) | exact isHist.ob (by assumption) | exact isTxt.ob (by assumption) | exact isLac.ob (by assumption) | exact isMea.ob (by assumption) | exact hset_s | exact (hset_n (by first | assumption | omega)).trans (by first | assumption | exact isRow.ob (by assumption) | exact isHnd.ob (by assumption) | exact isUnt.ob (by assumption) | exact isSt.ob (by assumption) | exact isHist.ob (by assumption) | exact isTxt.ob (by assumption) | exact isLac.ob (by assumption) | exact isMea.ob (by assumption) | exact hset_s | exact (hset_n (by first | assumption | omega)).trans (by first | assumption | exact isRow.ob (by assumption) | exact isHnd.ob (by assumption) | exact isUnt.ob (by assumption) | exact isSt.ob (by assumption) | exact isHist.ob (by assumption) | exact isTxt.ob (by assumption) | exact isLac.ob (by assumption) | exact isMea.ob (by assumption))))) ?_
        refine J_icmp_lt (tgt := 20) dX3_halve_16 (by decide) (fun c16 => ?_) (fun c16 => ?_)
        · refine J_iload_n dX3_halve_20 (by rfl) ?_
          refine J_iload_n dX3_halve_21 (by rfl) ?_
          refine J_isub dX3_halve_22 ?_
          rw [pk_sub (a := t) (b := f) (by omega), show t - f = m by omega]
          refine J_if_gt (tgt := 35) dX3_halve_23 (by decide) (fun c23 => ?_) (fun c23 => ?_)
          · have e23 : 0 < m := (nI_ltI (a := 0) (by omega) (by omega)).mp c23
            refine J_iload_n dX3_halve_35 (by rfl) ?_
            refine J_iload_n dX3_halve_36 (by rfl) ?_
            refine J_isub dX3_halve_37 ?_
            refine J_iconst (v := 1) dX3_halve_38 (by decide) ?_
            rw [pk_sub (a := t) (b := f) (by omega), show t - f = m by omega]
            refine J_icmp_ne (tgt := 56) dX3_halve_39 (by decide) (fun c39 => ?_) (fun c39 => ?_)
            · have e39 : ¬ m = 1 := fun q => c39 ((nI_eq (b := 1) (by omega) (by omega)).mpr q)
              refine J_iload_n dX3_halve_56 (by rfl) ?_
              refine J_iload_n dX3_halve_57 (by rfl) ?_
              refine J_iload_n dX3_halve_58 (by rfl) ?_
              refine J_isub dX3_halve_59 ?_
              rw [pk_sub (a := t) (b := f) (by omega), show t - f = m by omega]
              refine J_iconst (v := nI 2) dX3_halve_60 (by decide) ?_
              refine J_idiv dX3_halve_61 (by decide) ?_
              rw [pk_div (by omega) (by omega) (by omega)]
              refine J_iadd dX3_halve_62 ?_
              rw [nI_add]
              refine J_istore dX3_halve_63 (by decide) (by rfl) ?_
              refine J_iconst (v := nI 2) dX3_halve_65 (by decide) ?_
              refine J_iload_n dX3_halve_66 (by rfl) ?_
              refine J_iconst (v := 1) dX3_halve_67 (by decide) ?_
              refine J_iadd dX3_halve_68 ?_
              rw [nI_1]
              refine J_imul dX3_halve_69 ?_
              rw [pk_mul]
              refine J_istore dX3_halve_70 (by decide) (by rfl) ?_
              refine J_iload dX3_halve_72 (by rfl) ?_
              refine J_iconst (v := 1) dX3_halve_74 (by decide) ?_
              refine J_iadd dX3_halve_75 ?_
              rw [nI_1]
              refine J_aload dX3_halve_76 (by rfl) ?_
              refine J_alen (t := 3) (by decide) dX3_halve_78 (by first | assumption | exact isRow.ob (by assumption) | exact isHnd.ob (by assumption) | exact isUnt.ob (by assumption) | exact isSt.ob (by assumption) | exact isHist.ob (by assumption) | exact isTxt.ob (by assumption) | exact isLac.ob (by assumption) | exact isMea.ob (by assumption) | exact hset_s | exact (hset_n (by first | assumption | omega)).trans (by first | assumption | exact isRow.ob (by assumption) | exact isHnd.ob (by assumption) | exact isUnt.ob (by assumption) | exact isSt.ob (by assumption) | exact isHist.ob (by assumption) | exact isTxt.ob (by assumption) | exact isLac.ob (by assumption) | exact isMea.ob (by assumption) | exact hset_s | exact (hset_n (by first | assumption | omega)).trans (by first | assumption | exact isRow.ob (by assumption) | exact isHnd.ob (by assumption) | exact isUnt.ob (by assumption) | exact isSt.ob (by assumption) | exact isHist.ob (by assumption) | exact isTxt.ob (by assumption) | exact isLac.ob (by assumption) | exact isMea.ob (by assumption) | exact hset_s | exact (hset_n (by first | assumption | omega)).trans (by first | assumption | exact isRow.ob (by assumption) | exact isHnd.ob (by assumption) | exact isUnt.ob (by assumption) | exact isSt.ob (by assumption) | exact isHist.ob (by assumption) | exact isTxt.ob (by assumption) | exact isLac.ob (by assumption) | exact isMea.ob (by assumption))))) ?_
              refine J_icmp_lt (tgt := 83) dX3_halve_79 (by decide) (fun c79 => ?_) (fun c79 => ?_)
              · refine J_aload_n dX3_halve_83 (by rfl) ?_
                refine J_iload_n dX3_halve_84 (by rfl) ?_
                refine J_iload dX3_halve_85 (by rfl) ?_
                refine J_iload_n dX3_halve_87 (by rfl) ?_
                refine J_iconst (v := 1) dX3_halve_88 (by decide) ?_
                refine J_iadd dX3_halve_89 ?_
                rw [nI_1]
                refine J_iload dX3_halve_90 (by rfl) ?_
                refine J_aload dX3_halve_92 (by rfl) ?_
                refine J_callS mf_X3_halve lk_X3_48 ms_X3_halve (ih (f := f) (m := m / 2) (t := f + m / 2) (L := L + 1) (s := 2 * (L + 1)) w v rfl (by omega) (by omega) (by omega) (by omega) _) dX3_halve_94 (by omega) (by rfl) rfl (Nat.le_of_ble_eq_true rfl) (Nat.zero_add _) (Nat.zero_add _) (fun v94 h94 n94 q94 => ?_)
                obtain ⟨rfl, w94, v94, f94⟩ := q94
                have r94 : isRow G h94 r cap xs := w.keep (f94 _ (by omega) (by omega)) (f94 _ (by omega) (by omega))
                refine J_aload_n dX3_halve_97 (by rfl) ?_
                refine J_iload dX3_halve_98 (by rfl) ?_
                refine J_iload_n dX3_halve_100 (by rfl) ?_
                refine J_iload_n dX3_halve_101 (by rfl) ?_
                refine J_iconst (v := 1) dX3_halve_102 (by decide) ?_
                refine J_iadd dX3_halve_103 ?_
                rw [nI_1]
                refine J_iload dX3_halve_104 (by rfl) ?_
                refine J_iconst (v := 1) dX3_halve_106 (by decide) ?_
                refine J_iadd dX3_halve_107 ?_
                rw [nI_1]
                refine J_aload dX3_halve_108 (by rfl) ?_
                refine J_callS mf_X3_halve lk_X3_48 ms_X3_halve (ih (f := f + m / 2) (m := m - m / 2) (t := t) (L := L + 1) (s := 2 * (L + 1) + 1) r94 v94 (by omega) (by omega) (by omega) (by omega) (by omega) _) dX3_halve_110 (by omega) (by rfl) rfl (Nat.le_of_ble_eq_true rfl) (Nat.zero_add _) (Nat.zero_add _) (fun v110 h110 n110 q110 => ?_)
                obtain ⟨rfl, w110, v110, f110⟩ := q110
                have o110 := (f110 tb (by omega) (by omega)).trans ((f94 tb (by omega) (by omega)).trans o1)
                obtain ⟨gt, ot⟩ := v110.2 s (by omega)
                refine J_aload dX3_halve_113 (by rfl) ?_
                refine J_iload dX3_halve_115 (by rfl) ?_
                refine J_aald (t := 3) (Or.inr rfl) dX3_halve_117 (by first | assumption | exact isRow.ob (by assumption) | exact isHnd.ob (by assumption) | exact isUnt.ob (by assumption) | exact isSt.ob (by assumption) | exact isHist.ob (by assumption) | exact isTxt.ob (by assumption) | exact isLac.ob (by assumption) | exact isMea.ob (by assumption) | exact hset_s | exact (hset_n (by first | assumption | omega)).trans (by first | assumption | exact isRow.ob (by assumption) | exact isHnd.ob (by assumption) | exact isUnt.ob (by assumption) | exact isSt.ob (by assumption) | exact isHist.ob (by assumption) | exact isTxt.ob (by assumption) | exact isLac.ob (by assumption) | exact isMea.ob (by assumption) | exact hset_s | exact (hset_n (by first | assumption | omega)).trans (by first | assumption | exact isRow.ob (by assumption) | exact isHnd.ob (by assumption) | exact isUnt.ob (by assumption) | exact isSt.ob (by assumption) | exact isHist.ob (by assumption) | exact isTxt.ob (by assumption) | exact isLac.ob (by assumption) | exact isMea.ob (by assumption) | exact hset_s | exact (hset_n (by first | assumption | omega)).trans (by first | assumption | exact isRow.ob (by assumption) | exact isHnd.ob (by assumption) | exact isUnt.ob (by assumption) | exact isSt.ob (by assumption) | exact isHist.ob (by assumption) | exact isTxt.ob (by assumption) | exact isLac.ob (by assumption) | exact isMea.ob (by assumption))))) (vp_in_nI (by omega) (by omega)) ?_
                rw [nI_clamp (by omega), o2 _ (by omega), va_rf]
                refine J_aload dX3_halve_118 (by rfl) ?_
                refine J_iload dX3_halve_120 (by rfl) ?_
                refine J_iconst (v := 1) dX3_halve_122 (by decide) ?_
                refine J_iadd dX3_halve_123 ?_
                rw [nI_1]
                refine J_aald (t := 3) (Or.inr rfl) dX3_halve_124 (by first | assumption | exact isRow.ob (by assumption) | exact isHnd.ob (by assumption) | exact isUnt.ob (by assumption) | exact isSt.ob (by assumption) | exact isHist.ob (by assumption) | exact isTxt.ob (by assumption) | exact isLac.ob (by assumption) | exact isMea.ob (by assumption) | exact hset_s | exact (hset_n (by first | assumption | omega)).trans (by first | assumption | exact isRow.ob (by assumption) | exact isHnd.ob (by assumption) | exact isUnt.ob (by assumption) | exact isSt.ob (by assumption) | exact isHist.ob (by assumption) | exact isTxt.ob (by assumption) | exact isLac.ob (by assumption) | exact isMea.ob (by assumption) | exact hset_s | exact (hset_n (by first | assumption | omega)).trans (by first | assumption | exact isRow.ob (by assumption) | exact isHnd.ob (by assumption) | exact isUnt.ob (by assumption) | exact isSt.ob (by assumption) | exact isHist.ob (by assumption) | exact isTxt.ob (by assumption) | exact isLac.ob (by assumption) | exact isMea.ob (by assumption) | exact hset_s | exact (hset_n (by first | assumption | omega)).trans (by first | assumption | exact isRow.ob (by assumption) | exact isHnd.ob (by assumption) | exact isUnt.ob (by assumption) | exact isSt.ob (by assumption) | exact isHist.ob (by assumption) | exact isTxt.ob (by assumption) | exact isLac.ob (by assumption) | exact isMea.ob (by assumption))))) (vp_in_nI (by omega) (by omega)) ?_
                rw [nI_clamp (by omega), o2 _ (by omega), va_rf]
                refine J_aload dX3_halve_125 (by rfl) ?_
                refine J_iload dX3_halve_127 (by rfl) ?_
                refine J_aald (t := 3) (Or.inr rfl) dX3_halve_129 (by first | assumption | exact isRow.ob (by assumption) | exact isHnd.ob (by assumption) | exact isUnt.ob (by assumption) | exact isSt.ob (by assumption) | exact isHist.ob (by assumption) | exact isTxt.ob (by assumption) | exact isLac.ob (by assumption) | exact isMea.ob (by assumption) | exact hset_s | exact (hset_n (by first | assumption | omega)).trans (by first | assumption | exact isRow.ob (by assumption) | exact isHnd.ob (by assumption) | exact isUnt.ob (by assumption) | exact isSt.ob (by assumption) | exact isHist.ob (by assumption) | exact isTxt.ob (by assumption) | exact isLac.ob (by assumption) | exact isMea.ob (by assumption) | exact hset_s | exact (hset_n (by first | assumption | omega)).trans (by first | assumption | exact isRow.ob (by assumption) | exact isHnd.ob (by assumption) | exact isUnt.ob (by assumption) | exact isSt.ob (by assumption) | exact isHist.ob (by assumption) | exact isTxt.ob (by assumption) | exact isLac.ob (by assumption) | exact isMea.ob (by assumption) | exact hset_s | exact (hset_n (by first | assumption | omega)).trans (by first | assumption | exact isRow.ob (by assumption) | exact isHnd.ob (by assumption) | exact isUnt.ob (by assumption) | exact isSt.ob (by assumption) | exact isHist.ob (by assumption) | exact isTxt.ob (by assumption) | exact isLac.ob (by assumption) | exact isMea.ob (by assumption))))) (vp_in_nI (by omega) (by omega)) ?_
                rw [nI_clamp (by omega), o2 s (by omega), va_rf]
                refine J_callS mf_X3_multiply lk_X3_44 ms_X3_multiply (sp_X3_multiply (w94.keep (f110 _ (by omega) (by omega))) w110 ot (ok_S _ _ _) (ok_S _ _ _) (by omega) (by omega) _) dX3_halve_130 (by omega) (by rfl) rfl (Nat.le_of_ble_eq_true rfl) (Nat.zero_add _) (Nat.zero_add _) (fun v130 h130 n130 q130 => ?_)
                obtain ⟨rfl, w130, f130⟩ := q130
                exact J_return dX3_halve_133 rfl (⟨rfl, w130.to (fun c hc => by rw [mS_app xs f _ _ c hc, show m / 2 + (m - m / 2) = m by omega]), ⟨⟨g, (f130 _ (by omega)).trans o110, o2⟩, fun i hi => by
                  by_cases e : i = s
                  · subst e; obtain ⟨f9, q3, -⟩ := w130; exact ⟨f9, q3⟩
                  · obtain ⟨f9, q3⟩ := v110.2 i hi; exact ⟨f9, (f130 _ (by omega)).trans q3⟩⟩, fun q h1 h2 => (f130 q (by omega)).trans ((f110 q (by omega) (by omega)).trans (f94 q (by omega) (by omega)))⟩)
              · exact absurd ((nI_ltI (b := 16) (by omega) (by omega)).mpr (by omega)) c79
            · have e39 : m = 1 := (nI_eq (b := 1) (by omega) (by omega)).mp c39
              refine J_aload_n dX3_halve_42 (by rfl) ?_
              refine J_iload_n dX3_halve_43 (by rfl) ?_
              refine J_callV mf_X5_at lk_X3_36 mi_X5_at mv_X5_at (sp_X5_at w (k := f) (by omega) _) dX3_halve_44 (by first | assumption | exact isRow.ob (by assumption) | exact isHnd.ob (by assumption) | exact isUnt.ob (by assumption) | exact isSt.ob (by assumption) | exact isHist.ob (by assumption) | exact isTxt.ob (by assumption) | exact isLac.ob (by assumption) | exact isMea.ob (by assumption) | exact hset_s | exact (hset_n (by first | assumption | omega)).trans (by first | assumption | exact isRow.ob (by assumption) | exact isHnd.ob (by assumption) | exact isUnt.ob (by assumption) | exact isSt.ob (by assumption) | exact isHist.ob (by assumption) | exact isTxt.ob (by assumption) | exact isLac.ob (by assumption) | exact isMea.ob (by assumption) | exact hset_s | exact (hset_n (by first | assumption | omega)).trans (by first | assumption | exact isRow.ob (by assumption) | exact isHnd.ob (by assumption) | exact isUnt.ob (by assumption) | exact isSt.ob (by assumption) | exact isHist.ob (by assumption) | exact isTxt.ob (by assumption) | exact isLac.ob (by assumption) | exact isMea.ob (by assumption) | exact hset_s | exact (hset_n (by first | assumption | omega)).trans (by first | assumption | exact isRow.ob (by assumption) | exact isHnd.ob (by assumption) | exact isUnt.ob (by assumption) | exact isSt.ob (by assumption) | exact isHist.ob (by assumption) | exact isTxt.ob (by assumption) | exact isLac.ob (by assumption) | exact isMea.ob (by assumption))))) rfl rfl (by omega) (by rfl) rfl (Nat.le_of_ble_eq_true rfl) (Nat.zero_add _) (Nat.zero_add _) (fun v44 h44 n44 q44 => ?_)
              obtain ⟨rfl, rfl⟩ := q44
              refine J_aload dX3_halve_47 (by rfl) ?_
              refine J_iload dX3_halve_49 (by rfl) ?_
              refine J_aald (t := 3) (Or.inr rfl) dX3_halve_51 (by first | assumption | exact isRow.ob (by assumption) | exact isHnd.ob (by assumption) | exact isUnt.ob (by assumption) | exact isSt.ob (by assumption) | exact isHist.ob (by assumption) | exact isTxt.ob (by assumption) | exact isLac.ob (by assumption) | exact isMea.ob (by assumption) | exact hset_s | exact (hset_n (by first | assumption | omega)).trans (by first | assumption | exact isRow.ob (by assumption) | exact isHnd.ob (by assumption) | exact isUnt.ob (by assumption) | exact isSt.ob (by assumption) | exact isHist.ob (by assumption) | exact isTxt.ob (by assumption) | exact isLac.ob (by assumption) | exact isMea.ob (by assumption) | exact hset_s | exact (hset_n (by first | assumption | omega)).trans (by first | assumption | exact isRow.ob (by assumption) | exact isHnd.ob (by assumption) | exact isUnt.ob (by assumption) | exact isSt.ob (by assumption) | exact isHist.ob (by assumption) | exact isTxt.ob (by assumption) | exact isLac.ob (by assumption) | exact isMea.ob (by assumption) | exact hset_s | exact (hset_n (by first | assumption | omega)).trans (by first | assumption | exact isRow.ob (by assumption) | exact isHnd.ob (by assumption) | exact isUnt.ob (by assumption) | exact isSt.ob (by assumption) | exact isHist.ob (by assumption) | exact isTxt.ob (by assumption) | exact isLac.ob (by assumption) | exact isMea.ob (by assumption))))) (vp_in_nI (by omega) (by omega)) ?_
              rw [nI_clamp (by omega), o2 s (by omega), va_rf]
              refine J_callS mf_X3_fillWithOne lk_X3_40 ms_X3_fillWithOne (sp_X3_fillWithOne o4 (hx f (by omega)) _) dX3_halve_52 (by omega) (by rfl) rfl (Nat.le_of_ble_eq_true rfl) (Nat.zero_add _) (Nat.zero_add _) (fun v52 h52 n52 q52 => ?_)
              obtain ⟨rfl, w52, f52⟩ := q52
              exact J_return dX3_halve_55 rfl (⟨rfl, by rw [show m = 1 by omega]; exact w52.to (fun c hc => ((mid_l (ok_one _) hc).symm)), tabk w52 f52, fun q h1 h2 => f52 q (by omega)⟩)
          · have e23 : ¬ 0 < m := fun q => c23 ((nI_ltI (a := 0) (by omega) (by omega)).mpr q)
            refine J_aload dX3_halve_26 (by rfl) ?_
            refine J_iload dX3_halve_28 (by rfl) ?_
            refine J_aald (t := 3) (Or.inr rfl) dX3_halve_30 (by first | assumption | exact isRow.ob (by assumption) | exact isHnd.ob (by assumption) | exact isUnt.ob (by assumption) | exact isSt.ob (by assumption) | exact isHist.ob (by assumption) | exact isTxt.ob (by assumption) | exact isLac.ob (by assumption) | exact isMea.ob (by assumption) | exact hset_s | exact (hset_n (by first | assumption | omega)).trans (by first | assumption | exact isRow.ob (by assumption) | exact isHnd.ob (by assumption) | exact isUnt.ob (by assumption) | exact isSt.ob (by assumption) | exact isHist.ob (by assumption) | exact isTxt.ob (by assumption) | exact isLac.ob (by assumption) | exact isMea.ob (by assumption) | exact hset_s | exact (hset_n (by first | assumption | omega)).trans (by first | assumption | exact isRow.ob (by assumption) | exact isHnd.ob (by assumption) | exact isUnt.ob (by assumption) | exact isSt.ob (by assumption) | exact isHist.ob (by assumption) | exact isTxt.ob (by assumption) | exact isLac.ob (by assumption) | exact isMea.ob (by assumption) | exact hset_s | exact (hset_n (by first | assumption | omega)).trans (by first | assumption | exact isRow.ob (by assumption) | exact isHnd.ob (by assumption) | exact isUnt.ob (by assumption) | exact isSt.ob (by assumption) | exact isHist.ob (by assumption) | exact isTxt.ob (by assumption) | exact isLac.ob (by assumption) | exact isMea.ob (by assumption))))) (vp_in_nI (by omega) (by omega)) ?_
            rw [nI_clamp (by omega), o2 s (by omega), va_rf]
            refine J_callS mf_X3_fillWithNone lk_X3_26 ms_X3_fillWithNone (sp_X3_fillWithNone o4 _) dX3_halve_31 (by omega) (by rfl) rfl (Nat.le_of_ble_eq_true rfl) (Nat.zero_add _) (Nat.zero_add _) (fun v31 h31 n31 q31 => ?_)
            obtain ⟨rfl, w31, f31⟩ := q31
            exact J_return dX3_halve_34 rfl (⟨rfl, by rw [show m = 0 by omega]; exact w31, tabk w31 f31, fun q h1 h2 => f31 q (by omega)⟩)
        · exact absurd ((nI_ltI (b := 16) (by omega) (by omega)).mpr (by omega)) c16
set_option maxRecDepth 20000 in
theorem sp_X3_reckonByHalves {G : GG} {h : HP} {a r cap : Nat} {xs : List Int32} (v : isMea G h a) (w : isRow G h r cap xs) (hd : a + 21 ≤ r ∨ r + 2 ≤ a) (hx : allX xs) (hl : xs.length ≤ 30) (n : Nat) : Sp G mm_X3_reckonByHalves 8 0 0 [.ref a, .ref r] h n (fun v h' _ => v = none ∧ isMea G h' a ∧ isMat G h' (a + 5) (mS xs 0 xs.length) ∧ fr (a + 5) (a + 21) h h') := by
  refine Sp_of (by decide +kernel) (Nat.le_of_ble_eq_true rfl) ?_
  obtain ⟨o1, ⟨f1, o2⟩, ⟨f2, o3⟩, ⟨f3, o4⟩, o5⟩ := id v
  refine J_aload_n dX3_reckonByHalves_0 (by rfl) ?_
  refine J_iconst (v := nI 0) dX3_reckonByHalves_1 (by decide) ?_
  refine J_aload_n dX3_reckonByHalves_2 (by rfl) ?_
  refine J_get fg_X3_30 dX3_reckonByHalves_3 (by first | assumption | exact isRow.ob (by assumption) | exact isHnd.ob (by assumption) | exact isUnt.ob (by assumption) | exact isSt.ob (by assumption) | exact isHist.ob (by assumption) | exact isTxt.ob (by assumption) | exact isLac.ob (by assumption) | exact isMea.ob (by assumption) | exact hset_s | exact (hset_n (by first | assumption | omega)).trans (by first | assumption | exact isRow.ob (by assumption) | exact isHnd.ob (by assumption) | exact isUnt.ob (by assumption) | exact isSt.ob (by assumption) | exact isHist.ob (by assumption) | exact isTxt.ob (by assumption) | exact isLac.ob (by assumption) | exact isMea.ob (by assumption) | exact hset_s | exact (hset_n (by first | assumption | omega)).trans (by first | assumption | exact isRow.ob (by assumption) | exact isHnd.ob (by assumption) | exact isUnt.ob (by assumption) | exact isSt.ob (by assumption) | exact isHist.ob (by assumption) | exact isTxt.ob (by assumption) | exact isLac.ob (by assumption) | exact isMea.ob (by assumption) | exact hset_s | exact (hset_n (by first | assumption | omega)).trans (by first | assumption | exact isRow.ob (by assumption) | exact isHnd.ob (by assumption) | exact isUnt.ob (by assumption) | exact isSt.ob (by assumption) | exact isHist.ob (by assumption) | exact isTxt.ob (by assumption) | exact isLac.ob (by assumption) | exact isMea.ob (by assumption))))) (by rfl) ?_
  refine J_iconst (v := nI 0) dX3_reckonByHalves_6 (by decide) ?_
  refine J_iconst (v := nI 0) dX3_reckonByHalves_7 (by decide) ?_
  refine J_aload_n dX3_reckonByHalves_8 (by rfl) ?_
  refine J_get fg_X3_23 dX3_reckonByHalves_9 (by first | assumption | exact isRow.ob (by assumption) | exact isHnd.ob (by assumption) | exact isUnt.ob (by assumption) | exact isSt.ob (by assumption) | exact isHist.ob (by assumption) | exact isTxt.ob (by assumption) | exact isLac.ob (by assumption) | exact isMea.ob (by assumption) | exact hset_s | exact (hset_n (by first | assumption | omega)).trans (by first | assumption | exact isRow.ob (by assumption) | exact isHnd.ob (by assumption) | exact isUnt.ob (by assumption) | exact isSt.ob (by assumption) | exact isHist.ob (by assumption) | exact isTxt.ob (by assumption) | exact isLac.ob (by assumption) | exact isMea.ob (by assumption) | exact hset_s | exact (hset_n (by first | assumption | omega)).trans (by first | assumption | exact isRow.ob (by assumption) | exact isHnd.ob (by assumption) | exact isUnt.ob (by assumption) | exact isSt.ob (by assumption) | exact isHist.ob (by assumption) | exact isTxt.ob (by assumption) | exact isLac.ob (by assumption) | exact isMea.ob (by assumption) | exact hset_s | exact (hset_n (by first | assumption | omega)).trans (by first | assumption | exact isRow.ob (by assumption) | exact isHnd.ob (by assumption) | exact isUnt.ob (by assumption) | exact isSt.ob (by assumption) | exact isHist.ob (by assumption) | exact isTxt.ob (by assumption) | exact isLac.ob (by assumption) | exact isMea.ob (by assumption))))) (by rfl) ?_
  refine J_callS mf_X3_halve lk_X3_48 ms_X3_halve (sp_X3_halve (by omega) hx 5 (f := 0) (m := xs.length) (t := xs.length) (L := 0) (s := 0) w o5 (by omega) (by omega) (by omega) (by omega) (by omega) _) dX3_reckonByHalves_12 (by decide) (by rfl) rfl (Nat.le_of_ble_eq_true rfl) (Nat.zero_add _) (Nat.zero_add _) (fun v12 h12 n12 q12 => ?_)
  obtain ⟨rfl, w12, v12, f12⟩ := q12
  have ff : fr (a + 5) (a + 21) h h12 := fun q hq => f12 q (by omega) (by omega)
  exact J_return dX3_reckonByHalves_15 rfl (⟨rfl, ⟨(ff a (by omega)).trans o1, ⟨f1, (ff _ (by omega)).trans o2⟩, ⟨f2, (ff _ (by omega)).trans o3⟩, ⟨f3, (ff _ (by omega)).trans o4⟩, v12⟩, w12, ff⟩)
set_option maxRecDepth 20000 in
theorem sp_X3_inOrder {G : GG} {h : HP} {a p q : Nat} {A : Nat → Nat} (v : isMea G h a) (w : isMat G h (a + 1) A) (hp : p < 4) (hq : q < 4) (n : Nat) : Sp G mm_X3_inOrder 1 0 0 [.ref a, .int (nI p), .int (nI q)] h n (fun v h' _ => v = some (.int (nI (A (p * 4 + q)))) ∧ h' = h) := by
  refine Sp_of (by decide +kernel) (Nat.le_of_ble_eq_true rfl) ?_
  have o1 := v.ob
  obtain ⟨f, w1, w2⟩ := w
  refine J_iload_n dX3_inOrder_0 (by rfl) ?_
  refine J_callS mf_X9_isLace lk_X3_52 ms_X9_isLace (sp_X9_isLace _ (nI p) _) dX3_inOrder_1 (by decide) (by rfl) rfl (Nat.le_of_ble_eq_true rfl) (Nat.zero_add _) (Nat.zero_add _) (fun v1 h1 n1 q1 => ?_)
  obtain ⟨rfl, rfl⟩ := q1
  rw [isL_nI hp]
  refine J_if_eq (tgt := 27) dX3_inOrder_4 (by decide) (fun c4 => ?_) (fun c4 => ?_)
  · exact absurd c4 (by decide)
  · refine J_iload_n dX3_inOrder_7 (by rfl) ?_
    refine J_callS mf_X9_isLace lk_X3_52 ms_X9_isLace (sp_X9_isLace _ (nI q) _) dX3_inOrder_8 (by decide) (by rfl) rfl (Nat.le_of_ble_eq_true rfl) (Nat.zero_add _) (Nat.zero_add _) (fun v8 h8 n8 q8 => ?_)
    obtain ⟨rfl, rfl⟩ := q8
    rw [isL_nI hq]
    refine J_if_eq (tgt := 27) dX3_inOrder_11 (by decide) (fun c11 => ?_) (fun c11 => ?_)
    · exact absurd c11 (by decide)
    · refine J_aload_n dX3_inOrder_14 (by rfl) ?_
      refine J_get fg_X3_11 dX3_inOrder_15 (by first | assumption | exact isRow.ob (by assumption) | exact isHnd.ob (by assumption) | exact isUnt.ob (by assumption) | exact isSt.ob (by assumption) | exact isHist.ob (by assumption) | exact isTxt.ob (by assumption) | exact isLac.ob (by assumption) | exact isMea.ob (by assumption) | exact hset_s | exact (hset_n (by first | assumption | omega)).trans (by first | assumption | exact isRow.ob (by assumption) | exact isHnd.ob (by assumption) | exact isUnt.ob (by assumption) | exact isSt.ob (by assumption) | exact isHist.ob (by assumption) | exact isTxt.ob (by assumption) | exact isLac.ob (by assumption) | exact isMea.ob (by assumption) | exact hset_s | exact (hset_n (by first | assumption | omega)).trans (by first | assumption | exact isRow.ob (by assumption) | exact isHnd.ob (by assumption) | exact isUnt.ob (by assumption) | exact isSt.ob (by assumption) | exact isHist.ob (by assumption) | exact isTxt.ob (by assumption) | exact isLac.ob (by assumption) | exact isMea.ob (by assumption) | exact hset_s | exact (hset_n (by first | assumption | omega)).trans (by first | assumption | exact isRow.ob (by assumption) | exact isHnd.ob (by assumption) | exact isUnt.ob (by assumption) | exact isSt.ob (by assumption) | exact isHist.ob (by assumption) | exact isTxt.ob (by assumption) | exact isLac.ob (by assumption) | exact isMea.ob (by assumption))))) (by rfl) ?_
      refine J_iload_n dX3_inOrder_18 (by rfl) ?_
      refine J_iconst (v := nI 4) dX3_inOrder_19 (by decide) ?_
      refine J_imul dX3_inOrder_20 ?_
      rw [pk_mul]
      refine J_iload_n dX3_inOrder_21 (by rfl) ?_
      refine J_iadd dX3_inOrder_22 ?_
      rw [nI_add]
      refine J_iald dX3_inOrder_23 (by first | assumption | exact isRow.ob (by assumption) | exact isHnd.ob (by assumption) | exact isUnt.ob (by assumption) | exact isSt.ob (by assumption) | exact isHist.ob (by assumption) | exact isTxt.ob (by assumption) | exact isLac.ob (by assumption) | exact isMea.ob (by assumption) | exact hset_s | exact (hset_n (by first | assumption | omega)).trans (by first | assumption | exact isRow.ob (by assumption) | exact isHnd.ob (by assumption) | exact isUnt.ob (by assumption) | exact isSt.ob (by assumption) | exact isHist.ob (by assumption) | exact isTxt.ob (by assumption) | exact isLac.ob (by assumption) | exact isMea.ob (by assumption) | exact hset_s | exact (hset_n (by first | assumption | omega)).trans (by first | assumption | exact isRow.ob (by assumption) | exact isHnd.ob (by assumption) | exact isUnt.ob (by assumption) | exact isSt.ob (by assumption) | exact isHist.ob (by assumption) | exact isTxt.ob (by assumption) | exact isLac.ob (by assumption) | exact isMea.ob (by assumption) | exact hset_s | exact (hset_n (by first | assumption | omega)).trans (by first | assumption | exact isRow.ob (by assumption) | exact isHnd.ob (by assumption) | exact isUnt.ob (by assumption) | exact isSt.ob (by assumption) | exact isHist.ob (by assumption) | exact isTxt.ob (by assumption) | exact isLac.ob (by assumption) | exact isMea.ob (by assumption))))) (vp_in_nI (by omega) (by omega)) ?_
      rw [nI_clamp (by omega), w2 _ (by omega)]
      refine J_goto (tgt := 28) dX3_inOrder_24 (by decide) ?_
      exact J_ireturn dX3_inOrder_28 rfl (by rfl) (⟨rfl, rfl⟩)
set_option maxRecDepth 20000 in
theorem sp_X3_byHalves {G : GG} {h : HP} {a p q : Nat} {A : Nat → Nat} (v : isMea G h a) (w : isMat G h (a + 5) A) (hp : p < 4) (hq : q < 4) (n : Nat) : Sp G mm_X3_byHalves 1 0 0 [.ref a, .int (nI p), .int (nI q)] h n (fun v h' _ => v = some (.int (nI (A (p * 4 + q)))) ∧ h' = h) := by
  refine Sp_of (by decide +kernel) (Nat.le_of_ble_eq_true rfl) ?_
  have o1 := v.ob
  obtain ⟨⟨g, o5, o6⟩, o7⟩ := v.2.2.2.2
  obtain ⟨f, w1, w2⟩ := w
  refine J_iload_n dX3_byHalves_0 (by rfl) ?_
  refine J_callS mf_X9_isLace lk_X3_52 ms_X9_isLace (sp_X9_isLace _ (nI p) _) dX3_byHalves_1 (by decide) (by rfl) rfl (Nat.le_of_ble_eq_true rfl) (Nat.zero_add _) (Nat.zero_add _) (fun v1 h1 n1 q1 => ?_)
  obtain ⟨rfl, rfl⟩ := q1
  rw [isL_nI hp]
  refine J_if_eq (tgt := 29) dX3_byHalves_4 (by decide) (fun c4 => ?_) (fun c4 => ?_)
  · exact absurd c4 (by decide)
  · refine J_iload_n dX3_byHalves_7 (by rfl) ?_
    refine J_callS mf_X9_isLace lk_X3_52 ms_X9_isLace (sp_X9_isLace _ (nI q) _) dX3_byHalves_8 (by decide) (by rfl) rfl (Nat.le_of_ble_eq_true rfl) (Nat.zero_add _) (Nat.zero_add _) (fun v8 h8 n8 q8 => ?_)
    obtain ⟨rfl, rfl⟩ := q8
    rw [isL_nI hq]
    refine J_if_eq (tgt := 29) dX3_byHalves_11 (by decide) (fun c11 => ?_) (fun c11 => ?_)
    · exact absurd c11 (by decide)
    · refine J_aload_n dX3_byHalves_14 (by rfl) ?_
      refine J_get fg_X3_23 dX3_byHalves_15 (by first | assumption | exact isRow.ob (by assumption) | exact isHnd.ob (by assumption) | exact isUnt.ob (by assumption) | exact isSt.ob (by assumption) | exact isHist.ob (by assumption) | exact isTxt.ob (by assumption) | exact isLac.ob (by assumption) | exact isMea.ob (by assumption) | exact hset_s | exact (hset_n (by first | assumption | omega)).trans (by first | assumption | exact isRow.ob (by assumption) | exact isHnd.ob (by assumption) | exact isUnt.ob (by assumption) | exact isSt.ob (by assumption) | exact isHist.ob (by assumption) | exact isTxt.ob (by assumption) | exact isLac.ob (by assumption) | exact isMea.ob (by assumption) | exact hset_s | exact (hset_n (by first | assumption | omega)).trans (by first | assumption | exact isRow.ob (by assumption) | exact isHnd.ob (by assumption) | exact isUnt.ob (by assumption) | exact isSt.ob (by assumption) | exact isHist.ob (by assumption) | exact isTxt.ob (by assumption) | exact isLac.ob (by assumption) | exact isMea.ob (by assumption) | exact hset_s | exact (hset_n (by first | assumption | omega)).trans (by first | assumption | exact isRow.ob (by assumption) | exact isHnd.ob (by assumption) | exact isUnt.ob (by assumption) | exact isSt.ob (by assumption) | exact isHist.ob (by assumption) | exact isTxt.ob (by assumption) | exact isLac.ob (by assumption) | exact isMea.ob (by assumption))))) (by rfl) ?_
      refine J_iconst (v := nI 0) dX3_byHalves_18 (by decide) ?_
      refine J_aald (t := 3) (Or.inr rfl) dX3_byHalves_19 (by first | assumption | exact isRow.ob (by assumption) | exact isHnd.ob (by assumption) | exact isUnt.ob (by assumption) | exact isSt.ob (by assumption) | exact isHist.ob (by assumption) | exact isTxt.ob (by assumption) | exact isLac.ob (by assumption) | exact isMea.ob (by assumption) | exact hset_s | exact (hset_n (by first | assumption | omega)).trans (by first | assumption | exact isRow.ob (by assumption) | exact isHnd.ob (by assumption) | exact isUnt.ob (by assumption) | exact isSt.ob (by assumption) | exact isHist.ob (by assumption) | exact isTxt.ob (by assumption) | exact isLac.ob (by assumption) | exact isMea.ob (by assumption) | exact hset_s | exact (hset_n (by first | assumption | omega)).trans (by first | assumption | exact isRow.ob (by assumption) | exact isHnd.ob (by assumption) | exact isUnt.ob (by assumption) | exact isSt.ob (by assumption) | exact isHist.ob (by assumption) | exact isTxt.ob (by assumption) | exact isLac.ob (by assumption) | exact isMea.ob (by assumption) | exact hset_s | exact (hset_n (by first | assumption | omega)).trans (by first | assumption | exact isRow.ob (by assumption) | exact isHnd.ob (by assumption) | exact isUnt.ob (by assumption) | exact isSt.ob (by assumption) | exact isHist.ob (by assumption) | exact isTxt.ob (by assumption) | exact isLac.ob (by assumption) | exact isMea.ob (by assumption))))) (vp_in_nI (n := 0) (by omega) (by omega)) ?_
      rw [nI_clamp (by omega), o6 0 (by omega), va_rf]
      rw [show a + 4 + 1 + 0 = a + 5 by omega]
      refine J_iload_n dX3_byHalves_20 (by rfl) ?_
      refine J_iconst (v := nI 4) dX3_byHalves_21 (by decide) ?_
      refine J_imul dX3_byHalves_22 ?_
      rw [pk_mul]
      refine J_iload_n dX3_byHalves_23 (by rfl) ?_
      refine J_iadd dX3_byHalves_24 ?_
      rw [nI_add]
      refine J_iald dX3_byHalves_25 (by first | assumption | exact isRow.ob (by assumption) | exact isHnd.ob (by assumption) | exact isUnt.ob (by assumption) | exact isSt.ob (by assumption) | exact isHist.ob (by assumption) | exact isTxt.ob (by assumption) | exact isLac.ob (by assumption) | exact isMea.ob (by assumption) | exact hset_s | exact (hset_n (by first | assumption | omega)).trans (by first | assumption | exact isRow.ob (by assumption) | exact isHnd.ob (by assumption) | exact isUnt.ob (by assumption) | exact isSt.ob (by assumption) | exact isHist.ob (by assumption) | exact isTxt.ob (by assumption) | exact isLac.ob (by assumption) | exact isMea.ob (by assumption) | exact hset_s | exact (hset_n (by first | assumption | omega)).trans (by first | assumption | exact isRow.ob (by assumption) | exact isHnd.ob (by assumption) | exact isUnt.ob (by assumption) | exact isSt.ob (by assumption) | exact isHist.ob (by assumption) | exact isTxt.ob (by assumption) | exact isLac.ob (by assumption) | exact isMea.ob (by assumption) | exact hset_s | exact (hset_n (by first | assumption | omega)).trans (by first | assumption | exact isRow.ob (by assumption) | exact isHnd.ob (by assumption) | exact isUnt.ob (by assumption) | exact isSt.ob (by assumption) | exact isHist.ob (by assumption) | exact isTxt.ob (by assumption) | exact isLac.ob (by assumption) | exact isMea.ob (by assumption))))) (vp_in_nI (by omega) (by omega)) ?_
      rw [nI_clamp (by omega), w2 _ (by omega)]
      refine J_goto (tgt := 30) dX3_byHalves_26 (by decide) ?_
      exact J_ireturn dX3_byHalves_30 rfl (by rfl) (⟨rfl, rfl⟩)
