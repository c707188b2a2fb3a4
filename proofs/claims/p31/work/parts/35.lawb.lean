/-! the law's own: pulling, the first handle -/
theorem add0 {a x : Int32} : a + x = 0 ↔ a = -x := by
  constructor
  · intro h
    have h2 : a + x + -x = 0 + -x := by rw [h]
    rwa [Int32.add_assoc, Int32.add_right_neg, Int32.add_zero, Int32.zero_add] at h2
  · intro h
    rw [h, Int32.add_left_neg]
theorem pm1 {c : Nat} (h : 0 < c) : nI c + (-1) = nI (c - 1) := by
  obtain ⟨d, rfl⟩ : ∃ d, c = d + 1 := ⟨c - 1, by omega⟩
  exact pk_m1 d
set_option maxRecDepth 20000 in
theorem sp_L_pulls {G : GG} {h : HP} {r : Nat} {xs : List Int32} (w : isRA G h r xs) (n : Nat) : Sp G mm_L_pulls 0 0 0 [.int (nI xs.length), .ref r] h n (fun v h' _ => v = some (.int (nI (red xs).length)) ∧ isRA G h' r (red xs) ∧ fr r (r + 1) h h') := by
  refine Sp_of (by decide +kernel) (Nat.le_of_ble_eq_true rfl) ?_
  obtain ⟨f0, h1, h2, h3⟩ := w
  have hrl := red_len xs xs.length
  rw [List.take_length] at hrl
  have zeros : ∀ (j k : Nat) (hh : HP) (n1 : Nat) (f : Nat → Int32), k + j = xs.length → (red xs).length ≤ k → hh r = some (.inl (G.2.1 0, 32, .inl f)) → (∀ i, i < (red xs).length → f i = (red xs).getD i 0) → fr r (r + 1) h hh → J (g0 G) mm_L_pulls 0 70 [(0, .int (nI xs.length)), (1, .ref r), (2, .int (nI (red xs).length)), (3, .int (nI k))] [] hh n1 0 0 (RT mm_L_pulls (fun v h' _ => v = some (.int (nI (red xs).length)) ∧ isRA G h' r (red xs) ∧ fr r (r + 1) h h')) := by
    intro j
    induction j with
    | zero =>
      intro k hh n1 f hj hk g1 g2 hf
      refine J_iload_n dL_pulls_70 (by rfl) ?_
      refine J_iload_n dL_pulls_71 (by rfl) ?_
      refine J_icmp_ge (tgt := 85) dL_pulls_72 (by decide) (fun c72 => ?_) (fun c72 => ?_)
      · rw [nI_leI (by omega) (by omega)] at c72
        refine J_iload_n dL_pulls_85 (by rfl) ?_
        exact J_ireturn dL_pulls_86 rfl (by rfl) (⟨rfl, ⟨f, g1, by omega, g2⟩, hf⟩)
      · rw [nI_leI (by omega) (by omega)] at c72
        exact absurd (by omega) c72
    | succ j ih =>
      intro k hh n1 f hj hk g1 g2 hf
      refine J_iload_n dL_pulls_70 (by rfl) ?_
      refine J_iload_n dL_pulls_71 (by rfl) ?_
      refine J_icmp_ge (tgt := 85) dL_pulls_72 (by decide) (fun c72 => ?_) (fun c72 => ?_)
      · rw [nI_leI (by omega) (by omega)] at c72
        exact absurd c72 (by omega)
      · rw [nI_leI (by omega) (by omega)] at c72
        refine J_aload_n dL_pulls_75 (by rfl) ?_
        refine J_iload_n dL_pulls_76 (by rfl) ?_
        refine J_iconst (v := 0) dL_pulls_77 (by decide) ?_
        refine J_pa dL_pulls_78 (by first | assumption | exact isLT.ob (by assumption) | exact isRow.ob (by assumption) | exact isHnd.ob (by assumption) | exact isUnt.ob (by assumption) | exact isSt.ob (by assumption) | exact isHist.ob (by assumption) | exact isTxt.ob (by assumption) | exact isLac.ob (by assumption) | exact isMea.ob (by assumption) | exact hset_s | exact (hset_n (by first | assumption | omega)).trans (by first | assumption | exact isLT.ob (by assumption) | exact isRow.ob (by assumption) | exact isHnd.ob (by assumption) | exact isUnt.ob (by assumption) | exact isSt.ob (by assumption) | exact isHist.ob (by assumption) | exact isTxt.ob (by assumption) | exact isLac.ob (by assumption) | exact isMea.ob (by assumption) | exact hset_s | exact (hset_n (by first | assumption | omega)).trans (by first | assumption | exact isLT.ob (by assumption) | exact isRow.ob (by assumption) | exact isHnd.ob (by assumption) | exact isUnt.ob (by assumption) | exact isSt.ob (by assumption) | exact isHist.ob (by assumption) | exact isTxt.ob (by assumption) | exact isLac.ob (by assumption) | exact isMea.ob (by assumption) | exact hset_s | exact (hset_n (by first | assumption | omega)).trans (by first | assumption | exact isLT.ob (by assumption) | exact isRow.ob (by assumption) | exact isHnd.ob (by assumption) | exact isUnt.ob (by assumption) | exact isSt.ob (by assumption) | exact isHist.ob (by assumption) | exact isTxt.ob (by assumption) | exact isLac.ob (by assumption) | exact isMea.ob (by assumption))))) (by first | assumption | omega) (by omega) ?_
        refine J_iincN dL_pulls_79 (by rfl) (by decide) (by rfl) ?_
        refine J_goto (tgt := 70) dL_pulls_82 (by decide) ?_
        exact J_sub (by repeat (first | exact subl_nil | refine subl_cons rfl ?_)) (ih (k + 1) _ _ _ (by omega) (by omega) hset_s (fun i hi => by rw [upd_n (by omega)]; exact g2 i hi) (fr_tr hf (fr_set (by omega) (by omega))))
  have loop : ∀ (j k c : Nat) (hh : HP) (n1 : Nat) (f : Nat → Int32), k + j = xs.length → (red (xs.take k)).length = c → hh r = some (.inl (G.2.1 0, 32, .inl f)) → (∀ i, i < c → f i = (red (xs.take k)).getD i 0) → (∀ i, k ≤ i → i < xs.length → f i = xs.getD i 0) → fr r (r + 1) h hh → J (g0 G) mm_L_pulls 0 4 [(0, .int (nI xs.length)), (1, .ref r), (2, .int (nI c)), (3, .int (nI k))] [] hh n1 0 0 (RT mm_L_pulls (fun v h' _ => v = some (.int (nI (red xs).length)) ∧ isRA G h' r (red xs) ∧ fr r (r + 1) h h')) := by
    intro j
    induction j with
    | zero =>
      intro k c hh n1 f hj hc g1 g2 g3 hf
      rw [List.take_of_length_le (by omega)] at hc g2
      subst hc
      refine J_iload_n dL_pulls_4 (by rfl) ?_
      refine J_iload_n dL_pulls_5 (by rfl) ?_
      refine J_icmp_ge (tgt := 68) dL_pulls_6 (by decide) (fun c6 => ?_) (fun c6 => ?_)
      · rw [nI_leI (by omega) (by omega)] at c6
        refine J_iload_n dL_pulls_68 (by rfl) ?_
        refine J_istore_n dL_pulls_69 (by decide) (by rfl) ?_
        exact J_sub (by repeat (first | exact subl_nil | refine subl_cons rfl ?_)) (zeros (xs.length - (red xs).length) (red xs).length _ _ f (by omega) (Nat.le_refl _) g1 g2 hf)
      · rw [nI_leI (by omega) (by omega)] at c6
        exact absurd (by omega) c6
    | succ j ih =>
      intro k c hh n1 f hj hc g1 g2 g3 hf
      have hck : c ≤ k := by rw [← hc]; exact red_len xs k
      have keep : ∀ (hh2 : HP) (n2 : Nat) (f2 : Nat → Int32), 0 < c → (red (xs.take k)).getD (c - 1) 0 + xs.getD k 0 = 0 → f2 = f → hh2 = hh → J (g0 G) mm_L_pulls 0 4 [(0, .int (nI xs.length)), (1, .ref r), (2, .int (nI (c - 1))), (3, .int (nI (k + 1)))] [] hh2 n2 0 0 (RT mm_L_pulls (fun v h' _ => v = some (.int (nI (red xs).length)) ∧ isRA G h' r (red xs) ∧ fr r (r + 1) h h')) := by
        intro hh2 n2 f2 e1 e2 e3 e4
        subst e3; subst e4
        have hc2 : red (xs.take (k + 1)) = (red (xs.take k)).take (c - 1) := by rw [red_take (by omega), cst, hc, if_pos ⟨e1, add0.mp e2⟩]
        exact ih (k + 1) (c - 1) _ _ _ (by omega) (by rw [hc2, List.length_take, hc]; omega) g1 (fun i hi => by rw [hc2, getD_take, if_pos hi]; exact g2 i (by omega)) (fun i h1 h2 => g3 i (by omega) h2) hf
      have push : ∀ (hh2 : HP) (n2 : Nat), ¬ (0 < c ∧ (red (xs.take k)).getD (c - 1) 0 + xs.getD k 0 = 0) → hh2 = hset hh r (.inl (G.2.1 0, 32, .inl (upd f c (xs.getD k 0)))) → J (g0 G) mm_L_pulls 0 4 [(0, .int (nI xs.length)), (1, .ref r), (2, .int (nI (c + 1))), (3, .int (nI (k + 1)))] [] hh2 n2 0 0 (RT mm_L_pulls (fun v h' _ => v = some (.int (nI (red xs).length)) ∧ isRA G h' r (red xs) ∧ fr r (r + 1) h h')) := by
        intro hh2 n2 e1 e2
        subst e2
        have hc2 : red (xs.take (k + 1)) = red (xs.take k) ++ [xs.getD k 0] := by rw [red_take (by omega), cst, hc, if_neg (fun q => e1 ⟨q.1, add0.mpr q.2⟩)]
        exact ih (k + 1) (c + 1) _ _ _ (by omega) (by rw [hc2, List.length_append, hc]; rfl) hset_s (fun i hi => by
          rw [hc2, getD_app, hc]
          by_cases e : i = c
          · subst e; rw [upd_s, if_neg (Nat.lt_irrefl _), Nat.sub_self]; rfl
          · rw [upd_n e, if_pos (by omega)]; exact g2 i (by omega)) (fun i h1 h2 => by rw [upd_n (by omega)]; exact g3 i (by omega) h2) (fr_tr hf (fr_set (by omega) (by omega)))
      refine J_iload_n dL_pulls_4 (by rfl) ?_
      refine J_iload_n dL_pulls_5 (by rfl) ?_
      refine J_icmp_ge (tgt := 68) dL_pulls_6 (by decide) (fun c6 => ?_) (fun c6 => ?_)
      · rw [nI_leI (by omega) (by omega)] at c6
        exact absurd c6 (by omega)
      · rw [nI_leI (by omega) (by omega)] at c6
        refine J_iload_n dL_pulls_9 (by rfl) ?_
        refine J_if_le (tgt := 29) dL_pulls_10 (by decide) (fun c10 => ?_) (fun c10 => ?_)
        · have e10 : ¬ 0 < c := fun q => by
            have := (nI_leI (b := 0) (by omega) (by omega)).mp c10
            omega
          refine J_iconst (v := 0) dL_pulls_29 (by decide) ?_
          refine J_istore dL_pulls_30 (by decide) (by rfl) ?_
          refine J_aload_n dL_pulls_32 (by rfl) ?_
          refine J_iload_n dL_pulls_33 (by rfl) ?_
          refine J_ga dL_pulls_34 (by first | assumption | exact isLT.ob (by assumption) | exact isRow.ob (by assumption) | exact isHnd.ob (by assumption) | exact isUnt.ob (by assumption) | exact isSt.ob (by assumption) | exact isHist.ob (by assumption) | exact isTxt.ob (by assumption) | exact isLac.ob (by assumption) | exact isMea.ob (by assumption) | exact hset_s | exact (hset_n (by first | assumption | omega)).trans (by first | assumption | exact isLT.ob (by assumption) | exact isRow.ob (by assumption) | exact isHnd.ob (by assumption) | exact isUnt.ob (by assumption) | exact isSt.ob (by assumption) | exact isHist.ob (by assumption) | exact isTxt.ob (by assumption) | exact isLac.ob (by assumption) | exact isMea.ob (by assumption) | exact hset_s | exact (hset_n (by first | assumption | omega)).trans (by first | assumption | exact isLT.ob (by assumption) | exact isRow.ob (by assumption) | exact isHnd.ob (by assumption) | exact isUnt.ob (by assumption) | exact isSt.ob (by assumption) | exact isHist.ob (by assumption) | exact isTxt.ob (by assumption) | exact isLac.ob (by assumption) | exact isMea.ob (by assumption) | exact hset_s | exact (hset_n (by first | assumption | omega)).trans (by first | assumption | exact isLT.ob (by assumption) | exact isRow.ob (by assumption) | exact isHnd.ob (by assumption) | exact isUnt.ob (by assumption) | exact isSt.ob (by assumption) | exact isHist.ob (by assumption) | exact isTxt.ob (by assumption) | exact isLac.ob (by assumption) | exact isMea.ob (by assumption))))) (by first | assumption | omega) (by omega) ?_
          rw [g3 k (by omega) (by omega)]
          refine J_istore dL_pulls_35 (by decide) (by rfl) ?_
          refine J_iload_n dL_pulls_37 (by rfl) ?_
          refine J_iload dL_pulls_38 (by rfl) ?_
          refine J_if_eq (tgt := 47) dL_pulls_40 (by decide) (fun c40 => ?_) (fun c40 => ?_)
          · refine J_iconst (v := 1) dL_pulls_47 (by decide) ?_
            refine J_iadd dL_pulls_48 ?_
            first | rw [pm1 e10] | rw [nI_1]
            refine J_istore_n dL_pulls_49 (by decide) (by rfl) ?_
            refine J_iload dL_pulls_50 (by rfl) ?_
            refine J_if_ne (tgt := 62) dL_pulls_52 (by decide) (fun c52 => ?_) (fun c52 => ?_)
            · exact absurd (by decide) c52
            · refine J_aload_n dL_pulls_55 (by rfl) ?_
              refine J_iload_n dL_pulls_56 (by rfl) ?_
              refine J_iconst (v := 1) dL_pulls_57 (by decide) ?_
              refine J_isub dL_pulls_58 ?_
              rw [nI_pred]
              refine J_iload dL_pulls_59 (by rfl) ?_
              refine J_pa dL_pulls_61 (by first | assumption | exact isLT.ob (by assumption) | exact isRow.ob (by assumption) | exact isHnd.ob (by assumption) | exact isUnt.ob (by assumption) | exact isSt.ob (by assumption) | exact isHist.ob (by assumption) | exact isTxt.ob (by assumption) | exact isLac.ob (by assumption) | exact isMea.ob (by assumption) | exact hset_s | exact (hset_n (by first | assumption | omega)).trans (by first | assumption | exact isLT.ob (by assumption) | exact isRow.ob (by assumption) | exact isHnd.ob (by assumption) | exact isUnt.ob (by assumption) | exact isSt.ob (by assumption) | exact isHist.ob (by assumption) | exact isTxt.ob (by assumption) | exact isLac.ob (by assumption) | exact isMea.ob (by assumption) | exact hset_s | exact (hset_n (by first | assumption | omega)).trans (by first | assumption | exact isLT.ob (by assumption) | exact isRow.ob (by assumption) | exact isHnd.ob (by assumption) | exact isUnt.ob (by assumption) | exact isSt.ob (by assumption) | exact isHist.ob (by assumption) | exact isTxt.ob (by assumption) | exact isLac.ob (by assumption) | exact isMea.ob (by assumption) | exact hset_s | exact (hset_n (by first | assumption | omega)).trans (by first | assumption | exact isLT.ob (by assumption) | exact isRow.ob (by assumption) | exact isHnd.ob (by assumption) | exact isUnt.ob (by assumption) | exact isSt.ob (by assumption) | exact isHist.ob (by assumption) | exact isTxt.ob (by assumption) | exact isLac.ob (by assumption) | exact isMea.ob (by assumption))))) (by first | assumption | omega) (by omega) ?_
              refine J_iincN dL_pulls_62 (by rfl) (by decide) (by rfl) ?_
              refine J_goto (tgt := 4) dL_pulls_65 (by decide) ?_
              first | exact J_sub (by repeat (first | exact subl_nil | refine subl_cons rfl ?_)) (keep _ _ f e10 c22 rfl rfl) | exact J_sub (by repeat (first | exact subl_nil | refine subl_cons rfl ?_)) (push _ _ (fun q => e10 q.1) rfl) | exact J_sub (by repeat (first | exact subl_nil | refine subl_cons rfl ?_)) (push _ _ (fun q => c22 q.2) rfl)
          · exact absurd (by decide) c40
        · have e10 : 0 < c := Nat.pos_of_ne_zero (fun q => c10 (by rw [q]; decide))
          refine J_aload_n dL_pulls_13 (by rfl) ?_
          refine J_iload_n dL_pulls_14 (by rfl) ?_
          refine J_iconst (v := nI 1) dL_pulls_15 (by decide) ?_
          refine J_isub dL_pulls_16 ?_
          rw [pk_sub (by omega)]
          refine J_ga dL_pulls_17 (by first | assumption | exact isLT.ob (by assumption) | exact isRow.ob (by assumption) | exact isHnd.ob (by assumption) | exact isUnt.ob (by assumption) | exact isSt.ob (by assumption) | exact isHist.ob (by assumption) | exact isTxt.ob (by assumption) | exact isLac.ob (by assumption) | exact isMea.ob (by assumption) | exact hset_s | exact (hset_n (by first | assumption | omega)).trans (by first | assumption | exact isLT.ob (by assumption) | exact isRow.ob (by assumption) | exact isHnd.ob (by assumption) | exact isUnt.ob (by assumption) | exact isSt.ob (by assumption) | exact isHist.ob (by assumption) | exact isTxt.ob (by assumption) | exact isLac.ob (by assumption) | exact isMea.ob (by assumption) | exact hset_s | exact (hset_n (by first | assumption | omega)).trans (by first | assumption | exact isLT.ob (by assumption) | exact isRow.ob (by assumption) | exact isHnd.ob (by assumption) | exact isUnt.ob (by assumption) | exact isSt.ob (by assumption) | exact isHist.ob (by assumption) | exact isTxt.ob (by assumption) | exact isLac.ob (by assumption) | exact isMea.ob (by assumption) | exact hset_s | exact (hset_n (by first | assumption | omega)).trans (by first | assumption | exact isLT.ob (by assumption) | exact isRow.ob (by assumption) | exact isHnd.ob (by assumption) | exact isUnt.ob (by assumption) | exact isSt.ob (by assumption) | exact isHist.ob (by assumption) | exact isTxt.ob (by assumption) | exact isLac.ob (by assumption) | exact isMea.ob (by assumption))))) (by first | assumption | omega) (by omega) ?_
          rw [g2 (c - 1) (by omega)]
          refine J_aload_n dL_pulls_18 (by rfl) ?_
          refine J_iload_n dL_pulls_19 (by rfl) ?_
          refine J_ga dL_pulls_20 (by first | assumption | exact isLT.ob (by assumption) | exact isRow.ob (by assumption) | exact isHnd.ob (by assumption) | exact isUnt.ob (by assumption) | exact isSt.ob (by assumption) | exact isHist.ob (by assumption) | exact isTxt.ob (by assumption) | exact isLac.ob (by assumption) | exact isMea.ob (by assumption) | exact hset_s | exact (hset_n (by first | assumption | omega)).trans (by first | assumption | exact isLT.ob (by assumption) | exact isRow.ob (by assumption) | exact isHnd.ob (by assumption) | exact isUnt.ob (by assumption) | exact isSt.ob (by assumption) | exact isHist.ob (by assumption) | exact isTxt.ob (by assumption) | exact isLac.ob (by assumption) | exact isMea.ob (by assumption) | exact hset_s | exact (hset_n (by first | assumption | omega)).trans (by first | assumption | exact isLT.ob (by assumption) | exact isRow.ob (by assumption) | exact isHnd.ob (by assumption) | exact isUnt.ob (by assumption) | exact isSt.ob (by assumption) | exact isHist.ob (by assumption) | exact isTxt.ob (by assumption) | exact isLac.ob (by assumption) | exact isMea.ob (by assumption) | exact hset_s | exact (hset_n (by first | assumption | omega)).trans (by first | assumption | exact isLT.ob (by assumption) | exact isRow.ob (by assumption) | exact isHnd.ob (by assumption) | exact isUnt.ob (by assumption) | exact isSt.ob (by assumption) | exact isHist.ob (by assumption) | exact isTxt.ob (by assumption) | exact isLac.ob (by assumption) | exact isMea.ob (by assumption))))) (by first | assumption | omega) (by omega) ?_
          rw [g3 k (by omega) (by omega)]
          refine J_iadd dL_pulls_21 ?_
          refine J_if_ne (tgt := 29) dL_pulls_22 (by decide) (fun c22 => ?_) (fun c22 => ?_)
          · refine J_iconst (v := 0) dL_pulls_29 (by decide) ?_
            refine J_istore dL_pulls_30 (by decide) (by rfl) ?_
            refine J_aload_n dL_pulls_32 (by rfl) ?_
            refine J_iload_n dL_pulls_33 (by rfl) ?_
            refine J_ga dL_pulls_34 (by first | assumption | exact isLT.ob (by assumption) | exact isRow.ob (by assumption) | exact isHnd.ob (by assumption) | exact isUnt.ob (by assumption) | exact isSt.ob (by assumption) | exact isHist.ob (by assumption) | exact isTxt.ob (by assumption) | exact isLac.ob (by assumption) | exact isMea.ob (by assumption) | exact hset_s | exact (hset_n (by first | assumption | omega)).trans (by first | assumption | exact isLT.ob (by assumption) | exact isRow.ob (by assumption) | exact isHnd.ob (by assumption) | exact isUnt.ob (by assumption) | exact isSt.ob (by assumption) | exact isHist.ob (by assumption) | exact isTxt.ob (by assumption) | exact isLac.ob (by assumption) | exact isMea.ob (by assumption) | exact hset_s | exact (hset_n (by first | assumption | omega)).trans (by first | assumption | exact isLT.ob (by assumption) | exact isRow.ob (by assumption) | exact isHnd.ob (by assumption) | exact isUnt.ob (by assumption) | exact isSt.ob (by assumption) | exact isHist.ob (by assumption) | exact isTxt.ob (by assumption) | exact isLac.ob (by assumption) | exact isMea.ob (by assumption) | exact hset_s | exact (hset_n (by first | assumption | omega)).trans (by first | assumption | exact isLT.ob (by assumption) | exact isRow.ob (by assumption) | exact isHnd.ob (by assumption) | exact isUnt.ob (by assumption) | exact isSt.ob (by assumption) | exact isHist.ob (by assumption) | exact isTxt.ob (by assumption) | exact isLac.ob (by assumption) | exact isMea.ob (by assumption))))) (by first | assumption | omega) (by omega) ?_
            rw [g3 k (by omega) (by omega)]
            refine J_istore dL_pulls_35 (by decide) (by rfl) ?_
            refine J_iload_n dL_pulls_37 (by rfl) ?_
            refine J_iload dL_pulls_38 (by rfl) ?_
            refine J_if_eq (tgt := 47) dL_pulls_40 (by decide) (fun c40 => ?_) (fun c40 => ?_)
            · refine J_iconst (v := 1) dL_pulls_47 (by decide) ?_
              refine J_iadd dL_pulls_48 ?_
              first | rw [pm1 e10] | rw [nI_1]
              refine J_istore_n dL_pulls_49 (by decide) (by rfl) ?_
              refine J_iload dL_pulls_50 (by rfl) ?_
              refine J_if_ne (tgt := 62) dL_pulls_52 (by decide) (fun c52 => ?_) (fun c52 => ?_)
              · exact absurd (by decide) c52
              · refine J_aload_n dL_pulls_55 (by rfl) ?_
                refine J_iload_n dL_pulls_56 (by rfl) ?_
                refine J_iconst (v := 1) dL_pulls_57 (by decide) ?_
                refine J_isub dL_pulls_58 ?_
                rw [nI_pred]
                refine J_iload dL_pulls_59 (by rfl) ?_
                refine J_pa dL_pulls_61 (by first | assumption | exact isLT.ob (by assumption) | exact isRow.ob (by assumption) | exact isHnd.ob (by assumption) | exact isUnt.ob (by assumption) | exact isSt.ob (by assumption) | exact isHist.ob (by assumption) | exact isTxt.ob (by assumption) | exact isLac.ob (by assumption) | exact isMea.ob (by assumption) | exact hset_s | exact (hset_n (by first | assumption | omega)).trans (by first | assumption | exact isLT.ob (by assumption) | exact isRow.ob (by assumption) | exact isHnd.ob (by assumption) | exact isUnt.ob (by assumption) | exact isSt.ob (by assumption) | exact isHist.ob (by assumption) | exact isTxt.ob (by assumption) | exact isLac.ob (by assumption) | exact isMea.ob (by assumption) | exact hset_s | exact (hset_n (by first | assumption | omega)).trans (by first | assumption | exact isLT.ob (by assumption) | exact isRow.ob (by assumption) | exact isHnd.ob (by assumption) | exact isUnt.ob (by assumption) | exact isSt.ob (by assumption) | exact isHist.ob (by assumption) | exact isTxt.ob (by assumption) | exact isLac.ob (by assumption) | exact isMea.ob (by assumption) | exact hset_s | exact (hset_n (by first | assumption | omega)).trans (by first | assumption | exact isLT.ob (by assumption) | exact isRow.ob (by assumption) | exact isHnd.ob (by assumption) | exact isUnt.ob (by assumption) | exact isSt.ob (by assumption) | exact isHist.ob (by assumption) | exact isTxt.ob (by assumption) | exact isLac.ob (by assumption) | exact isMea.ob (by assumption))))) (by first | assumption | omega) (by omega) ?_
                refine J_iincN dL_pulls_62 (by rfl) (by decide) (by rfl) ?_
                refine J_goto (tgt := 4) dL_pulls_65 (by decide) ?_
                first | exact J_sub (by repeat (first | exact subl_nil | refine subl_cons rfl ?_)) (keep _ _ f e10 c22 rfl rfl) | exact J_sub (by repeat (first | exact subl_nil | refine subl_cons rfl ?_)) (push _ _ (fun q => e10 q.1) rfl) | exact J_sub (by repeat (first | exact subl_nil | refine subl_cons rfl ?_)) (push _ _ (fun q => c22 q.2) rfl)
            · exact absurd (by decide) c40
          · refine J_iconst (v := 1) dL_pulls_25 (by decide) ?_
            refine J_goto (tgt := 30) dL_pulls_26 (by decide) ?_
            refine J_istore dL_pulls_30 (by decide) (by rfl) ?_
            refine J_aload_n dL_pulls_32 (by rfl) ?_
            refine J_iload_n dL_pulls_33 (by rfl) ?_
            refine J_ga dL_pulls_34 (by first | assumption | exact isLT.ob (by assumption) | exact isRow.ob (by assumption) | exact isHnd.ob (by assumption) | exact isUnt.ob (by assumption) | exact isSt.ob (by assumption) | exact isHist.ob (by assumption) | exact isTxt.ob (by assumption) | exact isLac.ob (by assumption) | exact isMea.ob (by assumption) | exact hset_s | exact (hset_n (by first | assumption | omega)).trans (by first | assumption | exact isLT.ob (by assumption) | exact isRow.ob (by assumption) | exact isHnd.ob (by assumption) | exact isUnt.ob (by assumption) | exact isSt.ob (by assumption) | exact isHist.ob (by assumption) | exact isTxt.ob (by assumption) | exact isLac.ob (by assumption) | exact isMea.ob (by assumption) | exact hset_s | exact (hset_n (by first | assumption | omega)).trans (by first | assumption | exact isLT.ob (by assumption) | exact isRow.ob (by assumption) | exact isHnd.ob (by assumption) | exact isUnt.ob (by assumption) | exact isSt.ob (by assumption) | exact isHist.ob (by assumption) | exact isTxt.ob (by assumption) | exact isLac.ob (by assumption) | exact isMea.ob (by assumption) | exact hset_s | exact (hset_n (by first | assumption | omega)).trans (by first | assumption | exact isLT.ob (by assumption) | exact isRow.ob (by assumption) | exact isHnd.ob (by assumption) | exact isUnt.ob (by assumption) | exact isSt.ob (by assumption) | exact isHist.ob (by assumption) | exact isTxt.ob (by assumption) | exact isLac.ob (by assumption) | exact isMea.ob (by assumption))))) (by first | assumption | omega) (by omega) ?_
            rw [g3 k (by omega) (by omega)]
            refine J_istore dL_pulls_35 (by decide) (by rfl) ?_
            refine J_iload_n dL_pulls_37 (by rfl) ?_
            refine J_iload dL_pulls_38 (by rfl) ?_
            refine J_if_eq (tgt := 47) dL_pulls_40 (by decide) (fun c40 => ?_) (fun c40 => ?_)
            · exact absurd c40 (by decide)
            · refine J_iconst (v := (-1)) dL_pulls_43 (by decide) ?_
              refine J_goto (tgt := 48) dL_pulls_44 (by decide) ?_
              refine J_iadd dL_pulls_48 ?_
              first | rw [pm1 e10] | rw [nI_1]
              refine J_istore_n dL_pulls_49 (by decide) (by rfl) ?_
              refine J_iload dL_pulls_50 (by rfl) ?_
              refine J_if_ne (tgt := 62) dL_pulls_52 (by decide) (fun c52 => ?_) (fun c52 => ?_)
              · refine J_iincN dL_pulls_62 (by rfl) (by decide) (by rfl) ?_
                refine J_goto (tgt := 4) dL_pulls_65 (by decide) ?_
                first | exact J_sub (by repeat (first | exact subl_nil | refine subl_cons rfl ?_)) (keep _ _ f e10 c22 rfl rfl) | exact J_sub (by repeat (first | exact subl_nil | refine subl_cons rfl ?_)) (push _ _ (fun q => e10 q.1) rfl) | exact J_sub (by repeat (first | exact subl_nil | refine subl_cons rfl ?_)) (push _ _ (fun q => c22 q.2) rfl)
              · exact absurd c52 (by decide)
  refine J_iconst (v := nI 0) dL_pulls_0 (by decide) ?_
  refine J_istore_n dL_pulls_1 (by decide) (by rfl) ?_
  refine J_iconst (v := nI 0) dL_pulls_2 (by decide) ?_
  refine J_istore_n dL_pulls_3 (by decide) (by rfl) ?_
  exact J_sub (by repeat (first | exact subl_nil | refine subl_cons rfl ?_)) (loop xs.length 0 0 h n f0 (by omega) rfl h1 (fun i hi => absurd hi (by omega)) (fun i _ hi => h3 i hi) fr_rf)
/-- whether a handle lies at p and q, as far as c places behind p were looked at -/
def hdB (xs : List Int32) (p q : Nat) : Nat → Bool
  | 0 => decide (xs.getD p 0 + xs.getD q 0 = 0)
  | c + 1 => hdB xs p q c && (decide (¬ rk (xs.getD (p + 1 + c) 0) = rk (xs.getD p 0)) && decide (¬ rk (xs.getD (p + 1 + c) 0) + 1 = rk (xs.getD p 0)))
theorem hdB_iff {xs : List Int32} {p q : Nat} : ∀ c, hdB xs p q c = true ↔ xs.getD p 0 + xs.getD q 0 = 0 ∧ ∀ i, p < i → i < p + 1 + c → ¬ rk (xs.getD i 0) = rk (xs.getD p 0) ∧ ¬ rk (xs.getD i 0) + 1 = rk (xs.getD p 0) := by
  intro c
  induction c with
  | zero =>
    rw [hdB, decide_eq_true_eq]
    exact ⟨fun h => ⟨h, fun i h1 h2 => absurd h1 (by omega)⟩, fun h => h.1⟩
  | succ c ih =>
    rw [hdB, Bool.and_eq_true, Bool.and_eq_true, decide_eq_true_eq, decide_eq_true_eq, ih]
    constructor
    · rintro ⟨⟨h1, h2⟩, h3⟩
      refine ⟨h1, fun i g1 g2 => ?_⟩
      by_cases e : i = p + 1 + c
      · rw [e]; exact h3
      · exact h2 i g1 (by omega)
    · rintro ⟨h1, h2⟩
      exact ⟨⟨h1, fun i g1 g2 => h2 i g1 (by omega)⟩, h2 _ (by omega) (by omega)⟩
theorem lst_spec {xs : List Int32} {j q t : Nat} (h : lst xs j q = some t) : t < q ∧ rk (xs.getD t 0) = nI j ∧ ∀ i, t < i → i < q → ¬ rk (xs.getD i 0) = nI j := by
  induction q with
  | zero => cases h
  | succ q ih =>
    unfold lst at h
    split at h
    · rename_i e
      cases h
      exact ⟨by omega, e, fun i h1 h2 => absurd h1 (by omega)⟩
    · rename_i e
      obtain ⟨a, b, c⟩ := ih h
      refine ⟨by omega, b, fun i h1 h2 => ?_⟩
      by_cases e2 : i = q
      · rw [e2]; exact e
      · exact c i h1 (by omega)
theorem lst_none {xs : List Int32} {j q : Nat} (h : lst xs j q = none) : ∀ i, i < q → ¬ rk (xs.getD i 0) = nI j := by
  induction q with
  | zero => intro i hi; exact absurd hi (by omega)
  | succ q ih =>
    unfold lst at h
    split at h
    · cases h
    · rename_i e
      intro i hi
      by_cases e2 : i = q
      · rw [e2]; exact e
      · exact ih h i (by omega)
theorem lst_of {xs : List Int32} {j q t : Nat} (h1 : t < q) (h2 : rk (xs.getD t 0) = nI j) (h3 : ∀ i, t < i → i < q → ¬ rk (xs.getD i 0) = nI j) : lst xs j q = some t := by
  cases e : lst xs j q with
  | none => exact absurd h2 (lst_none e t h1)
  | some u =>
    obtain ⟨a, b, c⟩ := lst_spec e
    rcases Nat.lt_trichotomy t u with q1 | q1 | q1
    · exact absurd b (h3 u q1 a)
    · rw [q1]
    · exact absurd h2 (c t q1 h1)
theorem rk_neg : ∀ x ∈ xl, rk (-x) = rk x := by decide +kernel
theorem hb_of {xs : List Int32} (hx : allX xs) {p q : Nat} (hq : q < xs.length) (hp : p < q) (h : hdB xs p q (q - (p + 1)) = true) : hb xs q = some p := by
  obtain ⟨h1, h2⟩ := (hdB_iff _).mp h
  obtain ⟨R, r1, r3, hR⟩ := rk_nat (hx q hq)
  have e1 := add0.mp h1
  have hp1 : rk (xs.getD p 0) = nI R := by rw [e1, rk_neg _ (hx q hq).xl, hR]
  have el : lst xs R q = some p := lst_of hp hp1 (fun i g1 g2 => by rw [← hp1]; exact (h2 i g1 (by omega)).1)
  rw [hb, hR, nI_clamp (by omega), el]
  show (if _ then some p else none) = some p
  rw [if_pos]
  refine ⟨e1, ?_⟩
  cases e2 : lst xs (R - 1) q with
  | none => rfl
  | some t =>
    obtain ⟨a, b, c⟩ := lst_spec e2
    rw [Option.all_some, decide_eq_true_eq]
    rcases Nat.lt_trichotomy t p with q1 | q1 | q1
    · exact q1
    · rw [q1, hp1] at b
      exact absurd ((nI_eq (by omega) (by omega)).mp b) (by omega)
    · exact absurd (by rw [b, hp1, nI_1]; congr 1; omega) (h2 t q1 (by omega)).2
theorem hb_no {xs : List Int32} (hx : allX xs) {q : Nat} (hq : q < xs.length) (h : ∀ p, p < q → hdB xs p q (q - (p + 1)) = false) : hb xs q = none := by
  cases e : hb xs q with
  | none => rfl
  | some p =>
    exfalso
    obtain ⟨R, r1, r3, hR⟩ := rk_nat (hx q hq)
    rw [hb, hR, nI_clamp (by omega)] at e
    cases el : lst xs R q with
    | none => rw [el] at e; cases e
    | some p1 =>
      rw [el] at e
      have e : (if xs.getD p1 0 = -(xs.getD q 0) ∧ (lst xs (R - 1) q).all (fun t => decide (t < p1)) = true then some p1 else none) = some p := e
      split at e
      · rename_i hc
        cases e
        obtain ⟨a, b, c⟩ := lst_spec el
        have hf := h p a
        have ht : hdB xs p q (q - (p + 1)) = true := by
          refine (hdB_iff _).mpr ⟨add0.mpr hc.1, fun i g1 g2 => ⟨by rw [b]; exact c i g1 (by omega), fun z => ?_⟩⟩
          rw [b] at z
          have z2 : rk (xs.getD i 0) = nI (R - 1) := by
            obtain ⟨R2, r4, r5, hR2⟩ := rk_nat (hx i (by omega))
            rw [hR2, nI_1] at z
            have := (nI_eq (by omega) (by omega)).mp z
            rw [hR2]; congr 1; omega
          cases e2 : lst xs (R - 1) q with
          | none => exact lst_none e2 i (by omega) z2
          | some t =>
            obtain ⟨a2, b2, c2⟩ := lst_spec e2
            have h9 := hc.2
            rw [e2, Option.all_some, decide_eq_true_eq] at h9
            exact c2 i (by omega) (by omega) z2
        rw [ht] at hf
        cases hf
      · cases e
def encF : Option (Nat × Nat) → Int32
  | none => -1
  | some p => nI (64 * p.1 + p.2)
set_option maxRecDepth 20000 in
theorem sp_L_first {G : GG} {h : HP} {r : Nat} {xs : List Int32} (w : isRA G h r xs) (hx : allX xs) (n : Nat) : Sp G mm_L_first 1 0 0 [.int (nI xs.length), .ref r] h n (fun v h' _ => v = some (.int (encF (fh xs))) ∧ h' = h) := by
  refine Sp_of (by decide +kernel) (Nat.le_of_ble_eq_true rfl) ?_
  obtain ⟨f, h1, h2, h3⟩ := w
  have inner : ∀ (j c p q n1 : Nat) (b : Bool), p + 1 + c + j = q → q < xs.length → hdB xs p q c = b → (hdB xs p q (q - (p + 1)) = true → fh xs = some (p, q)) → (hdB xs p q (q - (p + 1)) = false → ∀ n1, J (g0 G) mm_L_first 1 9 [(0, .int (nI xs.length)), (1, .ref r), (2, .int (nI q)), (3, .int (nI (p + 1)))] [] h n1 0 0 (RT mm_L_first (fun v h' _ => v = some (.int (encF (fh xs))) ∧ h' = h))) → J (g0 G) mm_L_first 1 36 [(0, .int (nI xs.length)), (1, .ref r), (2, .int (nI q)), (3, .int (nI p)), (4, .int (if b = true then 1 else 0)), (5, .int (nI (p + 1 + c)))] [] h n1 0 0 (RT mm_L_first (fun v h' _ => v = some (.int (encF (fh xs))) ∧ h' = h)) := by
    intro j
    induction j with
    | zero =>
      intro c p q n1 b hj hq hB yes no
      rw [show q - (p + 1) = c by omega, hB] at yes no
      cases b with
      | false =>
        refine J_iload dL_first_36 (by rfl) ?_
        refine J_iload_n dL_first_38 (by rfl) ?_
        refine J_icmp_ge (tgt := 94) dL_first_39 (by decide) (fun c39 => ?_) (fun c39 => ?_)
        · rw [nI_leI (by omega) (by omega)] at c39
          refine J_iload dL_first_94 (by rfl) ?_
          refine J_if_eq (tgt := 106) dL_first_96 (by decide) (fun c96 => ?_) (fun c96 => ?_)
          · refine J_iincN dL_first_106 (by rfl) (by decide) (by rfl) ?_
            refine J_goto (tgt := 9) dL_first_109 (by decide) ?_
            exact J_sub (by repeat (first | exact subl_nil | refine subl_cons rfl ?_)) (no rfl _)
          · exact absurd (by decide) c96
        · rw [nI_leI (by omega) (by omega)] at c39
          exact absurd (by omega) c39
      | true =>
        refine J_iload dL_first_36 (by rfl) ?_
        refine J_iload_n dL_first_38 (by rfl) ?_
        refine J_icmp_ge (tgt := 94) dL_first_39 (by decide) (fun c39 => ?_) (fun c39 => ?_)
        · rw [nI_leI (by omega) (by omega)] at c39
          refine J_iload dL_first_94 (by rfl) ?_
          refine J_if_eq (tgt := 106) dL_first_96 (by decide) (fun c96 => ?_) (fun c96 => ?_)
          · exact absurd c96 (by decide)
          · refine J_bipush (v := nI 64) dL_first_99 (by decide) ?_
            refine J_iload_n dL_first_101 (by rfl) ?_
            refine J_imul dL_first_102 ?_
            rw [pk_mul]
            refine J_iload_n dL_first_103 (by rfl) ?_
            refine J_iadd dL_first_104 ?_
            rw [nI_add]
            exact J_ireturn dL_first_105 rfl (by rfl) (⟨by rw [yes rfl]; rfl, rfl⟩)
        · rw [nI_leI (by omega) (by omega)] at c39
          exact absurd (by omega) c39
    | succ j ih =>
      intro c p q n1 b hj hq hB yes no
      cases b with
      | false =>
        refine J_iload dL_first_36 (by rfl) ?_
        refine J_iload_n dL_first_38 (by rfl) ?_
        refine J_icmp_ge (tgt := 94) dL_first_39 (by decide) (fun c39 => ?_) (fun c39 => ?_)
        · rw [nI_leI (by omega) (by omega)] at c39
          exact absurd c39 (by omega)
        · rw [nI_leI (by omega) (by omega)] at c39
          refine J_iload dL_first_42 (by rfl) ?_
          refine J_if_eq (tgt := 85) dL_first_44 (by decide) (fun c44 => ?_) (fun c44 => ?_)
          · refine J_iconst (v := 0) dL_first_85 (by decide) ?_
            refine J_istore dL_first_86 (by decide) (by rfl) ?_
            refine J_iincN dL_first_88 (by rfl) (by decide) (by rfl) ?_
            refine J_goto (tgt := 36) dL_first_91 (by decide) ?_
            exact J_sub (by repeat (first | exact subl_nil | refine subl_cons rfl ?_)) (ih (c + 1) p q _ false (by omega) hq (by rw [hdB, hB]; rfl) yes no)
          · exact absurd (by decide) c44
      | true =>
        refine J_iload dL_first_36 (by rfl) ?_
        refine J_iload_n dL_first_38 (by rfl) ?_
        refine J_icmp_ge (tgt := 94) dL_first_39 (by decide) (fun c39 => ?_) (fun c39 => ?_)
        · rw [nI_leI (by omega) (by omega)] at c39
          exact absurd c39 (by omega)
        · rw [nI_leI (by omega) (by omega)] at c39
          refine J_iload dL_first_42 (by rfl) ?_
          refine J_if_eq (tgt := 85) dL_first_44 (by decide) (fun c44 => ?_) (fun c44 => ?_)
          · exact absurd c44 (by decide)
          · refine J_aload_n dL_first_47 (by rfl) ?_
            refine J_iload dL_first_48 (by rfl) ?_
            refine J_ga dL_first_50 (by first | assumption | exact isLT.ob (by assumption) | exact isRow.ob (by assumption) | exact isHnd.ob (by assumption) | exact isUnt.ob (by assumption) | exact isSt.ob (by assumption) | exact isHist.ob (by assumption) | exact isTxt.ob (by assumption) | exact isLac.ob (by assumption) | exact isMea.ob (by assumption) | exact hset_s | exact (hset_n (by first | assumption | omega)).trans (by first | assumption | exact isLT.ob (by assumption) | exact isRow.ob (by assumption) | exact isHnd.ob (by assumption) | exact isUnt.ob (by assumption) | exact isSt.ob (by assumption) | exact isHist.ob (by assumption) | exact isTxt.ob (by assumption) | exact isLac.ob (by assumption) | exact isMea.ob (by assumption) | exact hset_s | exact (hset_n (by first | assumption | omega)).trans (by first | assumption | exact isLT.ob (by assumption) | exact isRow.ob (by assumption) | exact isHnd.ob (by assumption) | exact isUnt.ob (by assumption) | exact isSt.ob (by assumption) | exact isHist.ob (by assumption) | exact isTxt.ob (by assumption) | exact isLac.ob (by assumption) | exact isMea.ob (by assumption) | exact hset_s | exact (hset_n (by first | assumption | omega)).trans (by first | assumption | exact isLT.ob (by assumption) | exact isRow.ob (by assumption) | exact isHnd.ob (by assumption) | exact isUnt.ob (by assumption) | exact isSt.ob (by assumption) | exact isHist.ob (by assumption) | exact isTxt.ob (by assumption) | exact isLac.ob (by assumption) | exact isMea.ob (by assumption))))) (by first | assumption | omega) (by omega) ?_
            rw [h3 _ (by omega)]
            refine J_callS mf_L_rank lk_L_63 ms_L_rank (sp_L_rank _ (xs.getD (p + 1 + c) 0) _) dL_first_51 (by decide) (by rfl) rfl (Nat.le_of_ble_eq_true rfl) (Nat.zero_add _) (Nat.zero_add _) (fun v51 h51 n51 q51 => ?_)
            obtain ⟨rfl, rfl⟩ := q51
            refine J_aload_n dL_first_54 (by rfl) ?_
            refine J_iload_n dL_first_55 (by rfl) ?_
            refine J_ga dL_first_56 (by first | assumption | exact isLT.ob (by assumption) | exact isRow.ob (by assumption) | exact isHnd.ob (by assumption) | exact isUnt.ob (by assumption) | exact isSt.ob (by assumption) | exact isHist.ob (by assumption) | exact isTxt.ob (by assumption) | exact isLac.ob (by assumption) | exact isMea.ob (by assumption) | exact hset_s | exact (hset_n (by first | assumption | omega)).trans (by first | assumption | exact isLT.ob (by assumption) | exact isRow.ob (by assumption) | exact isHnd.ob (by assumption) | exact isUnt.ob (by assumption) | exact isSt.ob (by assumption) | exact isHist.ob (by assumption) | exact isTxt.ob (by assumption) | exact isLac.ob (by assumption) | exact isMea.ob (by assumption) | exact hset_s | exact (hset_n (by first | assumption | omega)).trans (by first | assumption | exact isLT.ob (by assumption) | exact isRow.ob (by assumption) | exact isHnd.ob (by assumption) | exact isUnt.ob (by assumption) | exact isSt.ob (by assumption) | exact isHist.ob (by assumption) | exact isTxt.ob (by assumption) | exact isLac.ob (by assumption) | exact isMea.ob (by assumption) | exact hset_s | exact (hset_n (by first | assumption | omega)).trans (by first | assumption | exact isLT.ob (by assumption) | exact isRow.ob (by assumption) | exact isHnd.ob (by assumption) | exact isUnt.ob (by assumption) | exact isSt.ob (by assumption) | exact isHist.ob (by assumption) | exact isTxt.ob (by assumption) | exact isLac.ob (by assumption) | exact isMea.ob (by assumption))))) (by first | assumption | omega) (by omega) ?_
            rw [h3 _ (by omega)]
            refine J_callS mf_L_rank lk_L_63 ms_L_rank (sp_L_rank _ (xs.getD p 0) _) dL_first_57 (by decide) (by rfl) rfl (Nat.le_of_ble_eq_true rfl) (Nat.zero_add _) (Nat.zero_add _) (fun v57 h57 n57 q57 => ?_)
            obtain ⟨rfl, rfl⟩ := q57
            refine J_icmp_eq (tgt := 85) dL_first_60 (by decide) (fun c60 => ?_) (fun c60 => ?_)
            · refine J_iconst (v := 0) dL_first_85 (by decide) ?_
              refine J_istore dL_first_86 (by decide) (by rfl) ?_
              refine J_iincN dL_first_88 (by rfl) (by decide) (by rfl) ?_
              refine J_goto (tgt := 36) dL_first_91 (by decide) ?_
              first | exact J_sub (by repeat (first | exact subl_nil | refine subl_cons rfl ?_)) (ih (c + 1) p q _ true (by omega) hq (by rw [hdB, hB, decide_eq_true c60, decide_eq_true c78]; rfl) yes no) | exact J_sub (by repeat (first | exact subl_nil | refine subl_cons rfl ?_)) (ih (c + 1) p q _ false (by omega) hq (by rw [hdB, hB, c60]; simp) yes no) | exact J_sub (by repeat (first | exact subl_nil | refine subl_cons rfl ?_)) (ih (c + 1) p q _ false (by omega) hq (by rw [hdB, hB, c78]; simp) yes no)
            · refine J_aload_n dL_first_63 (by rfl) ?_
              refine J_iload dL_first_64 (by rfl) ?_
              refine J_ga dL_first_66 (by first | assumption | exact isLT.ob (by assumption) | exact isRow.ob (by assumption) | exact isHnd.ob (by assumption) | exact isUnt.ob (by assumption) | exact isSt.ob (by assumption) | exact isHist.ob (by assumption) | exact isTxt.ob (by assumption) | exact isLac.ob (by assumption) | exact isMea.ob (by assumption) | exact hset_s | exact (hset_n (by first | assumption | omega)).trans (by first | assumption | exact isLT.ob (by assumption) | exact isRow.ob (by assumption) | exact isHnd.ob (by assumption) | exact isUnt.ob (by assumption) | exact isSt.ob (by assumption) | exact isHist.ob (by assumption) | exact isTxt.ob (by assumption) | exact isLac.ob (by assumption) | exact isMea.ob (by assumption) | exact hset_s | exact (hset_n (by first | assumption | omega)).trans (by first | assumption | exact isLT.ob (by assumption) | exact isRow.ob (by assumption) | exact isHnd.ob (by assumption) | exact isUnt.ob (by assumption) | exact isSt.ob (by assumption) | exact isHist.ob (by assumption) | exact isTxt.ob (by assumption) | exact isLac.ob (by assumption) | exact isMea.ob (by assumption) | exact hset_s | exact (hset_n (by first | assumption | omega)).trans (by first | assumption | exact isLT.ob (by assumption) | exact isRow.ob (by assumption) | exact isHnd.ob (by assumption) | exact isUnt.ob (by assumption) | exact isSt.ob (by assumption) | exact isHist.ob (by assumption) | exact isTxt.ob (by assumption) | exact isLac.ob (by assumption) | exact isMea.ob (by assumption))))) (by first | assumption | omega) (by omega) ?_
              rw [h3 _ (by omega)]
              refine J_callS mf_L_rank lk_L_63 ms_L_rank (sp_L_rank _ (xs.getD (p + 1 + c) 0) _) dL_first_67 (by decide) (by rfl) rfl (Nat.le_of_ble_eq_true rfl) (Nat.zero_add _) (Nat.zero_add _) (fun v67 h67 n67 q67 => ?_)
              obtain ⟨rfl, rfl⟩ := q67
              refine J_iconst (v := 1) dL_first_70 (by decide) ?_
              refine J_iadd dL_first_71 ?_
              refine J_aload_n dL_first_72 (by rfl) ?_
              refine J_iload_n dL_first_73 (by rfl) ?_
              refine J_ga dL_first_74 (by first | assumption | exact isLT.ob (by assumption) | exact isRow.ob (by assumption) | exact isHnd.ob (by assumption) | exact isUnt.ob (by assumption) | exact isSt.ob (by assumption) | exact isHist.ob (by assumption) | exact isTxt.ob (by assumption) | exact isLac.ob (by assumption) | exact isMea.ob (by assumption) | exact hset_s | exact (hset_n (by first | assumption | omega)).trans (by first | assumption | exact isLT.ob (by assumption) | exact isRow.ob (by assumption) | exact isHnd.ob (by assumption) | exact isUnt.ob (by assumption) | exact isSt.ob (by assumption) | exact isHist.ob (by assumption) | exact isTxt.ob (by assumption) | exact isLac.ob (by assumption) | exact isMea.ob (by assumption) | exact hset_s | exact (hset_n (by first | assumption | omega)).trans (by first | assumption | exact isLT.ob (by assumption) | exact isRow.ob (by assumption) | exact isHnd.ob (by assumption) | exact isUnt.ob (by assumption) | exact isSt.ob (by assumption) | exact isHist.ob (by assumption) | exact isTxt.ob (by assumption) | exact isLac.ob (by assumption) | exact isMea.ob (by assumption) | exact hset_s | exact (hset_n (by first | assumption | omega)).trans (by first | assumption | exact isLT.ob (by assumption) | exact isRow.ob (by assumption) | exact isHnd.ob (by assumption) | exact isUnt.ob (by assumption) | exact isSt.ob (by assumption) | exact isHist.ob (by assumption) | exact isTxt.ob (by assumption) | exact isLac.ob (by assumption) | exact isMea.ob (by assumption))))) (by first | assumption | omega) (by omega) ?_
              rw [h3 _ (by omega)]
              refine J_callS mf_L_rank lk_L_63 ms_L_rank (sp_L_rank _ (xs.getD p 0) _) dL_first_75 (by decide) (by rfl) rfl (Nat.le_of_ble_eq_true rfl) (Nat.zero_add _) (Nat.zero_add _) (fun v75 h75 n75 q75 => ?_)
              obtain ⟨rfl, rfl⟩ := q75
              refine J_icmp_eq (tgt := 85) dL_first_78 (by decide) (fun c78 => ?_) (fun c78 => ?_)
              · refine J_iconst (v := 0) dL_first_85 (by decide) ?_
                refine J_istore dL_first_86 (by decide) (by rfl) ?_
                refine J_iincN dL_first_88 (by rfl) (by decide) (by rfl) ?_
                refine J_goto (tgt := 36) dL_first_91 (by decide) ?_
                first | exact J_sub (by repeat (first | exact subl_nil | refine subl_cons rfl ?_)) (ih (c + 1) p q _ true (by omega) hq (by rw [hdB, hB, decide_eq_true c60, decide_eq_true c78]; rfl) yes no) | exact J_sub (by repeat (first | exact subl_nil | refine subl_cons rfl ?_)) (ih (c + 1) p q _ false (by omega) hq (by rw [hdB, hB, c60]; simp) yes no) | exact J_sub (by repeat (first | exact subl_nil | refine subl_cons rfl ?_)) (ih (c + 1) p q _ false (by omega) hq (by rw [hdB, hB, c78]; simp) yes no)
              · refine J_iconst (v := 1) dL_first_81 (by decide) ?_
                refine J_goto (tgt := 86) dL_first_82 (by decide) ?_
                refine J_istore dL_first_86 (by decide) (by rfl) ?_
                refine J_iincN dL_first_88 (by rfl) (by decide) (by rfl) ?_
                refine J_goto (tgt := 36) dL_first_91 (by decide) ?_
                first | exact J_sub (by repeat (first | exact subl_nil | refine subl_cons rfl ?_)) (ih (c + 1) p q _ true (by omega) hq (by rw [hdB, hB, decide_eq_true c60, decide_eq_true c78]; rfl) yes no) | exact J_sub (by repeat (first | exact subl_nil | refine subl_cons rfl ?_)) (ih (c + 1) p q _ false (by omega) hq (by rw [hdB, hB, c60]; simp) yes no) | exact J_sub (by repeat (first | exact subl_nil | refine subl_cons rfl ?_)) (ih (c + 1) p q _ false (by omega) hq (by rw [hdB, hB, c78]; simp) yes no)
  have middle : ∀ (j p q n1 : Nat), p + j = q → q < xs.length → (∀ p2, p2 < p → hdB xs p2 q (q - (p2 + 1)) = false) → (∀ p, hb xs q = some p → fh xs = some (p, q)) → (hb xs q = none → ∀ n1, J (g0 G) mm_L_first 1 2 [(0, .int (nI xs.length)), (1, .ref r), (2, .int (nI (q + 1)))] [] h n1 0 0 (RT mm_L_first (fun v h' _ => v = some (.int (encF (fh xs))) ∧ h' = h))) → J (g0 G) mm_L_first 1 9 [(0, .int (nI xs.length)), (1, .ref r), (2, .int (nI q)), (3, .int (nI p))] [] h n1 0 0 (RT mm_L_first (fun v h' _ => v = some (.int (encF (fh xs))) ∧ h' = h)) := by
    intro j
    induction j with
    | zero =>
      intro p q n1 hj hq hno yes no
      refine J_iload_n dL_first_9 (by rfl) ?_
      refine J_iload_n dL_first_10 (by rfl) ?_
      refine J_icmp_ge (tgt := 112) dL_first_11 (by decide) (fun c11 => ?_) (fun c11 => ?_)
      · rw [nI_leI (by omega) (by omega)] at c11
        refine J_iincN dL_first_112 (by rfl) (by decide) (by rfl) ?_
        refine J_goto (tgt := 2) dL_first_115 (by decide) ?_
        exact J_sub (by repeat (first | exact subl_nil | refine subl_cons rfl ?_)) (no (hb_no hx hq (fun p2 h2 => hno p2 (by omega))) _)
      · rw [nI_leI (by omega) (by omega)] at c11
        exact absurd (by omega) c11
    | succ j ih =>
      intro p q n1 hj hq hno yes no
      have go : ∀ (b : Bool) (n1 : Nat), hdB xs p q 0 = b → J (g0 G) mm_L_first 1 36 [(0, .int (nI xs.length)), (1, .ref r), (2, .int (nI q)), (3, .int (nI p)), (4, .int (if b = true then 1 else 0)), (5, .int (nI (p + 1)))] [] h n1 0 0 (RT mm_L_first (fun v h' _ => v = some (.int (encF (fh xs))) ∧ h' = h)) := fun b n1 hB => inner j 0 p q n1 b (by omega) hq hB (fun e => yes p (hb_of hx hq (by omega) e)) (fun e n1 => ih (p + 1) q n1 (by omega) hq (fun p2 h2 => by
          by_cases e2 : p2 = p
          · rw [e2]; exact e
          · exact hno p2 (by omega)) yes no)
      refine J_iload_n dL_first_9 (by rfl) ?_
      refine J_iload_n dL_first_10 (by rfl) ?_
      refine J_icmp_ge (tgt := 112) dL_first_11 (by decide) (fun c11 => ?_) (fun c11 => ?_)
      · rw [nI_leI (by omega) (by omega)] at c11
        exact absurd c11 (by omega)
      · rw [nI_leI (by omega) (by omega)] at c11
        refine J_aload_n dL_first_14 (by rfl) ?_
        refine J_iload_n dL_first_15 (by rfl) ?_
        refine J_ga dL_first_16 (by first | assumption | exact isLT.ob (by assumption) | exact isRow.ob (by assumption) | exact isHnd.ob (by assumption) | exact isUnt.ob (by assumption) | exact isSt.ob (by assumption) | exact isHist.ob (by assumption) | exact isTxt.ob (by assumption) | exact isLac.ob (by assumption) | exact isMea.ob (by assumption) | exact hset_s | exact (hset_n (by first | assumption | omega)).trans (by first | assumption | exact isLT.ob (by assumption) | exact isRow.ob (by assumption) | exact isHnd.ob (by assumption) | exact isUnt.ob (by assumption) | exact isSt.ob (by assumption) | exact isHist.ob (by assumption) | exact isTxt.ob (by assumption) | exact isLac.ob (by assumption) | exact isMea.ob (by assumption) | exact hset_s | exact (hset_n (by first | assumption | omega)).trans (by first | assumption | exact isLT.ob (by assumption) | exact isRow.ob (by assumption) | exact isHnd.ob (by assumption) | exact isUnt.ob (by assumption) | exact isSt.ob (by assumption) | exact isHist.ob (by assumption) | exact isTxt.ob (by assumption) | exact isLac.ob (by assumption) | exact isMea.ob (by assumption) | exact hset_s | exact (hset_n (by first | assumption | omega)).trans (by first | assumption | exact isLT.ob (by assumption) | exact isRow.ob (by assumption) | exact isHnd.ob (by assumption) | exact isUnt.ob (by assumption) | exact isSt.ob (by assumption) | exact isHist.ob (by assumption) | exact isTxt.ob (by assumption) | exact isLac.ob (by assumption) | exact isMea.ob (by assumption))))) (by first | assumption | omega) (by omega) ?_
        rw [h3 _ (by omega)]
        refine J_aload_n dL_first_17 (by rfl) ?_
        refine J_iload_n dL_first_18 (by rfl) ?_
        refine J_ga dL_first_19 (by first | assumption | exact isLT.ob (by assumption) | exact isRow.ob (by assumption) | exact isHnd.ob (by assumption) | exact isUnt.ob (by assumption) | exact isSt.ob (by assumption) | exact isHist.ob (by assumption) | exact isTxt.ob (by assumption) | exact isLac.ob (by assumption) | exact isMea.ob (by assumption) | exact hset_s | exact (hset_n (by first | assumption | omega)).trans (by first | assumption | exact isLT.ob (by assumption) | exact isRow.ob (by assumption) | exact isHnd.ob (by assumption) | exact isUnt.ob (by assumption) | exact isSt.ob (by assumption) | exact isHist.ob (by assumption) | exact isTxt.ob (by assumption) | exact isLac.ob (by assumption) | exact isMea.ob (by assumption) | exact hset_s | exact (hset_n (by first | assumption | omega)).trans (by first | assumption | exact isLT.ob (by assumption) | exact isRow.ob (by assumption) | exact isHnd.ob (by assumption) | exact isUnt.ob (by assumption) | exact isSt.ob (by assumption) | exact isHist.ob (by assumption) | exact isTxt.ob (by assumption) | exact isLac.ob (by assumption) | exact isMea.ob (by assumption) | exact hset_s | exact (hset_n (by first | assumption | omega)).trans (by first | assumption | exact isLT.ob (by assumption) | exact isRow.ob (by assumption) | exact isHnd.ob (by assumption) | exact isUnt.ob (by assumption) | exact isSt.ob (by assumption) | exact isHist.ob (by assumption) | exact isTxt.ob (by assumption) | exact isLac.ob (by assumption) | exact isMea.ob (by assumption))))) (by first | assumption | omega) (by omega) ?_
        rw [h3 _ (by omega)]
        refine J_iadd dL_first_20 ?_
        refine J_if_ne (tgt := 28) dL_first_21 (by decide) (fun c21 => ?_) (fun c21 => ?_)
        · refine J_iconst (v := 0) dL_first_28 (by decide) ?_
          refine J_istore dL_first_29 (by decide) (by rfl) ?_
          refine J_iload_n dL_first_31 (by rfl) ?_
          refine J_iconst (v := 1) dL_first_32 (by decide) ?_
          refine J_iadd dL_first_33 ?_
          rw [nI_1]
          refine J_istore dL_first_34 (by decide) (by rfl) ?_
          first | exact J_sub (by repeat (first | exact subl_nil | refine subl_cons rfl ?_)) (go true _ (by rw [hdB, decide_eq_true c21])) | exact J_sub (by repeat (first | exact subl_nil | refine subl_cons rfl ?_)) (go false _ (by rw [hdB, decide_eq_false c21]))
        · refine J_iconst (v := 1) dL_first_24 (by decide) ?_
          refine J_goto (tgt := 29) dL_first_25 (by decide) ?_
          refine J_istore dL_first_29 (by decide) (by rfl) ?_
          refine J_iload_n dL_first_31 (by rfl) ?_
          refine J_iconst (v := 1) dL_first_32 (by decide) ?_
          refine J_iadd dL_first_33 ?_
          rw [nI_1]
          refine J_istore dL_first_34 (by decide) (by rfl) ?_
          first | exact J_sub (by repeat (first | exact subl_nil | refine subl_cons rfl ?_)) (go true _ (by rw [hdB, decide_eq_true c21])) | exact J_sub (by repeat (first | exact subl_nil | refine subl_cons rfl ?_)) (go false _ (by rw [hdB, decide_eq_false c21]))
  have outer : ∀ (j q n1 : Nat), q + j = xs.length → fhA xs j q = fh xs → J (g0 G) mm_L_first 1 2 [(0, .int (nI xs.length)), (1, .ref r), (2, .int (nI q))] [] h n1 0 0 (RT mm_L_first (fun v h' _ => v = some (.int (encF (fh xs))) ∧ h' = h)) := by
    intro j
    induction j with
    | zero =>
      intro q n1 hj hf
      refine J_iload_n dL_first_2 (by rfl) ?_
      refine J_iload_n dL_first_3 (by rfl) ?_
      refine J_icmp_ge (tgt := 118) dL_first_4 (by decide) (fun c4 => ?_) (fun c4 => ?_)
      · rw [nI_leI (by omega) (by omega)] at c4
        refine J_iconst (v := (-1)) dL_first_118 (by decide) ?_
        exact J_ireturn dL_first_119 rfl (by rfl) (⟨by rw [← hf]; rfl, rfl⟩)
      · rw [nI_leI (by omega) (by omega)] at c4
        exact absurd (by omega) c4
    | succ j ih =>
      intro q n1 hj hf
      refine J_iload_n dL_first_2 (by rfl) ?_
      refine J_iload_n dL_first_3 (by rfl) ?_
      refine J_icmp_ge (tgt := 118) dL_first_4 (by decide) (fun c4 => ?_) (fun c4 => ?_)
      · rw [nI_leI (by omega) (by omega)] at c4
        exact absurd c4 (by omega)
      · rw [nI_leI (by omega) (by omega)] at c4
        refine J_iconst (v := nI 0) dL_first_7 (by decide) ?_
        refine J_istore_n dL_first_8 (by decide) (by rfl) ?_
        exact J_sub (by repeat (first | exact subl_nil | refine subl_cons rfl ?_)) (middle q 0 q _ (by omega) (by omega) (fun p2 h2 => absurd h2 (by omega)) (fun p e => by rw [← hf, fhA, e]) (fun e n1 => ih (q + 1) n1 (by omega) (by rw [← hf, fhA, e])))
  refine J_iconst (v := nI 0) dL_first_0 (by decide) ?_
  refine J_istore_n dL_first_1 (by decide) (by rfl) ?_
  exact J_sub (by repeat (first | exact subl_nil | refine subl_cons rfl ?_)) (outer xs.length 0 _ (by omega) rfl)
