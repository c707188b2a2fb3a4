/-! the law's own: undoing the first handle -/
theorem rkn0 : ∀ x ∈ xl, ¬ rk x = 0 := by decide +kernel
theorem rkdv : ∀ x ∈ xl, x / rk x = sg x := by decide +kernel
def qUd (G : GG) (h : HP) (r : Nat) (xs : List Int32) : Option Value → HP → Nat → Prop := fun v h' _ => ky 0 r h h' ∧ ((v = some (.int (-103)) ∧ isRA G h' r xs ∧ ∀ p q, fh xs = some (p, q) → 30 < lwo xs p q) ∨ ∃ p q, fh xs = some (p, q) ∧ ¬ 30 < lwo xs p q ∧ v = some (.int (nI (tko xs p q).length)) ∧ isRA G h' r (tko xs p q))
set_option maxRecDepth 20000 in
theorem sp_L_undoes {G : GG} {h : HP} {r : Nat} {xs : List Int32} (w : isRA G h r xs) (hx : allX xs) (n : Nat) : Sp G mm_L_undoes 2 1 64 [.int (nI xs.length), .ref r] h n (qUd G h r xs) := by
  refine Sp_of (by decide +kernel) (Nat.le_of_ble_eq_true rfl) ?_
  have w0 := w
  obtain ⟨f, h1, h2, h3⟩ := w
  have e103 : ((-103 : Int) : Int) = -103 := rfl
  cases hfh : fh xs with
  | none =>
    refine J_iload_n dL_undoes_0 (by rfl) ?_
    refine J_aload_n dL_undoes_1 (by rfl) ?_
    refine J_callS mf_L_first lk_L_72 ms_L_first (sp_L_first w0 hx _) dL_undoes_2 (by decide) (by rfl) rfl (Nat.le_of_ble_eq_true rfl) (Nat.zero_add _) (Nat.zero_add _) (fun v2 h2 n2 q2 => ?_)
    obtain ⟨rfl, rfl⟩ := q2
    rw [show encF (fh xs) = -1 by rw [hfh]; rfl]
    refine J_istore_n dL_undoes_5 (by decide) (by rfl) ?_
    refine J_iload_n dL_undoes_6 (by rfl) ?_
    refine J_if_ge (tgt := 13) dL_undoes_7 (by decide) (fun c7 => ?_) (fun c7 => ?_)
    · exact absurd c7 (by decide)
    · refine J_bipush (v := (-103)) dL_undoes_10 (by decide) ?_
      exact J_ireturn dL_undoes_12 rfl (by rfl) (⟨ky_rf, Or.inl ⟨rfl, w0, fun p q e => by rw [hfh] at e; cases e⟩⟩)
  | some pq =>
    obtain ⟨p, q⟩ := pq
    obtain ⟨hpq, hq, -⟩ := fh_lt hfh
    have xp := hx p (by omega)
    have htl := tko_len hpq hq
    have hct := cntT_le xs p (q - (p + 1))
    have lw : lwo xs p q = xs.length - 2 + 2 * cntT xs p (q - (p + 1)) := rfl
    have back : ∀ (j k Z : Nat) (hh : HP) (n1 : Nat) (f1 g : Nat → Int32), k + j = 32 → r < Z → ¬ 30 < lwo xs p q → hh r = some (.inl (G.2.1 0, 32, .inl f1)) → hh Z = some (.inl (G.2.1 0, 64, .inl g)) → (∀ i, i < (tko xs p q).length → g i = (tko xs p q).getD i 0) → (∀ i, i < k → i < (tko xs p q).length → f1 i = (tko xs p q).getD i 0) → ky 0 r h hh → J (g0 G) mm_L_undoes 2 230 [(1, .ref r), (7, .ref Z), (8, .int (nI (tko xs p q).length)), (10, .int (nI k))] [] hh n1 0 0 (RT mm_L_undoes (qUd G h r xs)) := by
      intro j
      induction j with
      | zero =>
        intro k Z hh n1 f1 g hj hZ hlw g1 g2 g3 g4 hf
        refine J_iload dL_undoes_230 (by rfl) ?_
        refine J_bipush (v := nI 32) dL_undoes_232 (by decide) ?_
        refine J_icmp_ge (tgt := 263) dL_undoes_234 (by decide) (fun c234 => ?_) (fun c234 => ?_)
        · rw [nI_leI (by omega) (by omega)] at c234
          refine J_iload dL_undoes_263 (by rfl) ?_
          exact J_ireturn dL_undoes_265 rfl (by rfl) (⟨hf, Or.inr ⟨p, q, hfh, hlw, rfl, f1, g1, by omega, fun i hi => g4 i (by omega) hi⟩⟩)
        · rw [nI_leI (by omega) (by omega)] at c234
          exact absurd (by omega) c234
      | succ j ih =>
        intro k Z hh n1 f1 g hj hZ hlw g1 g2 g3 g4 hf
        refine J_iload dL_undoes_230 (by rfl) ?_
        refine J_bipush (v := nI 32) dL_undoes_232 (by decide) ?_
        refine J_icmp_ge (tgt := 263) dL_undoes_234 (by decide) (fun c234 => ?_) (fun c234 => ?_)
        · rw [nI_leI (by omega) (by omega)] at c234
          exact absurd c234 (by omega)
        · rw [nI_leI (by omega) (by omega)] at c234
          refine J_aload_n dL_undoes_237 (by rfl) ?_
          refine J_iload dL_undoes_238 (by rfl) ?_
          refine J_iload dL_undoes_240 (by rfl) ?_
          refine J_iload dL_undoes_242 (by rfl) ?_
          refine J_icmp_ge (tgt := 255) dL_undoes_244 (by decide) (fun c244 => ?_) (fun c244 => ?_)
          · rw [nI_leI (by omega) (by omega)] at c244
            refine J_iconst (v := 0) dL_undoes_255 (by decide) ?_
            refine J_pa dL_undoes_256 (by first | assumption | exact isLT.ob (by assumption) | exact isRow.ob (by assumption) | exact isHnd.ob (by assumption) | exact isUnt.ob (by assumption) | exact isSt.ob (by assumption) | exact isHist.ob (by assumption) | exact isTxt.ob (by assumption) | exact isLac.ob (by assumption) | exact isMea.ob (by assumption) | exact hset_s | exact (hset_n (by first | assumption | omega)).trans (by first | assumption | exact isLT.ob (by assumption) | exact isRow.ob (by assumption) | exact isHnd.ob (by assumption) | exact isUnt.ob (by assumption) | exact isSt.ob (by assumption) | exact isHist.ob (by assumption) | exact isTxt.ob (by assumption) | exact isLac.ob (by assumption) | exact isMea.ob (by assumption) | exact hset_s | exact (hset_n (by first | assumption | omega)).trans (by first | assumption | exact isLT.ob (by assumption) | exact isRow.ob (by assumption) | exact isHnd.ob (by assumption) | exact isUnt.ob (by assumption) | exact isSt.ob (by assumption) | exact isHist.ob (by assumption) | exact isTxt.ob (by assumption) | exact isLac.ob (by assumption) | exact isMea.ob (by assumption) | exact hset_s | exact (hset_n (by first | assumption | omega)).trans (by first | assumption | exact isLT.ob (by assumption) | exact isRow.ob (by assumption) | exact isHnd.ob (by assumption) | exact isUnt.ob (by assumption) | exact isSt.ob (by assumption) | exact isHist.ob (by assumption) | exact isTxt.ob (by assumption) | exact isLac.ob (by assumption) | exact isMea.ob (by assumption))))) (by first | assumption | omega) (by omega) ?_
            refine J_iincN dL_undoes_257 (by rfl) (by decide) (by rfl) ?_
            refine J_goto (tgt := 230) dL_undoes_260 (by decide) ?_
            exact J_sub (by repeat (first | exact subl_nil | refine subl_cons rfl ?_)) (ih (k + 1) Z _ _ _ g (by omega) hZ hlw hset_s ((hset_n (by omega)).trans g2) g3 (fun i h1 h2 => by
              by_cases e : i = k
              · subst e; rw [upd_s]; try (exact absurd c244 (by omega))
              · rw [upd_n e]; exact g4 i (by omega) h2) (ky_tr hf (ky_set (Or.inr (by omega)))))
          · rw [nI_leI (by omega) (by omega)] at c244
            refine J_aload dL_undoes_247 (by rfl) ?_
            refine J_iload dL_undoes_249 (by rfl) ?_
            refine J_ga dL_undoes_251 (by first | assumption | exact isLT.ob (by assumption) | exact isRow.ob (by assumption) | exact isHnd.ob (by assumption) | exact isUnt.ob (by assumption) | exact isSt.ob (by assumption) | exact isHist.ob (by assumption) | exact isTxt.ob (by assumption) | exact isLac.ob (by assumption) | exact isMea.ob (by assumption) | exact hset_s | exact (hset_n (by first | assumption | omega)).trans (by first | assumption | exact isLT.ob (by assumption) | exact isRow.ob (by assumption) | exact isHnd.ob (by assumption) | exact isUnt.ob (by assumption) | exact isSt.ob (by assumption) | exact isHist.ob (by assumption) | exact isTxt.ob (by assumption) | exact isLac.ob (by assumption) | exact isMea.ob (by assumption) | exact hset_s | exact (hset_n (by first | assumption | omega)).trans (by first | assumption | exact isLT.ob (by assumption) | exact isRow.ob (by assumption) | exact isHnd.ob (by assumption) | exact isUnt.ob (by assumption) | exact isSt.ob (by assumption) | exact isHist.ob (by assumption) | exact isTxt.ob (by assumption) | exact isLac.ob (by assumption) | exact isMea.ob (by assumption) | exact hset_s | exact (hset_n (by first | assumption | omega)).trans (by first | assumption | exact isLT.ob (by assumption) | exact isRow.ob (by assumption) | exact isHnd.ob (by assumption) | exact isUnt.ob (by assumption) | exact isSt.ob (by assumption) | exact isHist.ob (by assumption) | exact isTxt.ob (by assumption) | exact isLac.ob (by assumption) | exact isMea.ob (by assumption))))) (by first | assumption | omega) (by omega) ?_
            rw [g3 k (by omega)]
            refine J_goto (tgt := 256) dL_undoes_252 (by decide) ?_
            refine J_pa dL_undoes_256 (by first | assumption | exact isLT.ob (by assumption) | exact isRow.ob (by assumption) | exact isHnd.ob (by assumption) | exact isUnt.ob (by assumption) | exact isSt.ob (by assumption) | exact isHist.ob (by assumption) | exact isTxt.ob (by assumption) | exact isLac.ob (by assumption) | exact isMea.ob (by assumption) | exact hset_s | exact (hset_n (by first | assumption | omega)).trans (by first | assumption | exact isLT.ob (by assumption) | exact isRow.ob (by assumption) | exact isHnd.ob (by assumption) | exact isUnt.ob (by assumption) | exact isSt.ob (by assumption) | exact isHist.ob (by assumption) | exact isTxt.ob (by assumption) | exact isLac.ob (by assumption) | exact isMea.ob (by assumption) | exact hset_s | exact (hset_n (by first | assumption | omega)).trans (by first | assumption | exact isLT.ob (by assumption) | exact isRow.ob (by assumption) | exact isHnd.ob (by assumption) | exact isUnt.ob (by assumption) | exact isSt.ob (by assumption) | exact isHist.ob (by assumption) | exact isTxt.ob (by assumption) | exact isLac.ob (by assumption) | exact isMea.ob (by assumption) | exact hset_s | exact (hset_n (by first | assumption | omega)).trans (by first | assumption | exact isLT.ob (by assumption) | exact isRow.ob (by assumption) | exact isHnd.ob (by assumption) | exact isUnt.ob (by assumption) | exact isSt.ob (by assumption) | exact isHist.ob (by assumption) | exact isTxt.ob (by assumption) | exact isLac.ob (by assumption) | exact isMea.ob (by assumption))))) (by first | assumption | omega) (by omega) ?_
            refine J_iincN dL_undoes_257 (by rfl) (by decide) (by rfl) ?_
            refine J_goto (tgt := 230) dL_undoes_260 (by decide) ?_
            exact J_sub (by repeat (first | exact subl_nil | refine subl_cons rfl ?_)) (ih (k + 1) Z _ _ _ g (by omega) hZ hlw hset_s ((hset_n (by omega)).trans g2) g3 (fun i h1 h2 => by
              by_cases e : i = k
              · subst e; rw [upd_s]; try (exact absurd c244 (by omega))
              · rw [upd_n e]; exact g4 i (by omega) h2) (ky_tr hf (ky_set (Or.inr (by omega)))))
    have build : ∀ (j k Z : Nat) (hh : HP) (n1 : Nat) (g : Nat → Int32), k + j = xs.length → r < Z → ¬ 30 < lwo xs p q → hh r = some (.inl (G.2.1 0, 32, .inl f)) → hh Z = some (.inl (G.2.1 0, 64, .inl g)) → (∀ i, i < (tkT xs p q k).length → g i = (tkT xs p q k).getD i 0) → ky 0 r h hh → J (g0 G) mm_L_undoes 2 111 [(0, .int (nI xs.length)), (1, .ref r), (3, .int (nI p)), (4, .int (nI q)), (5, .int (rk (xs.getD p 0))), (6, .int (sg (xs.getD p 0))), (7, .ref Z), (8, .int (nI (tkT xs p q k).length)), (10, .int (nI k))] [] hh n1 0 0 (RT mm_L_undoes (qUd G h r xs)) := by
      intro j
      induction j with
      | zero =>
        intro k Z hh n1 g hj hZ hlw g1 g2 g3 hf
        have ek : k = xs.length := by omega
        subst ek
        refine J_iload dL_undoes_111 (by rfl) ?_
        refine J_iload_n dL_undoes_113 (by rfl) ?_
        refine J_icmp_ge (tgt := 227) dL_undoes_114 (by decide) (fun c114 => ?_) (fun c114 => ?_)
        · rw [nI_leI (by omega) (by omega)] at c114
          refine J_iconst (v := nI 0) dL_undoes_227 (by decide) ?_
          refine J_istore dL_undoes_228 (by decide) (by rfl) ?_
          exact J_sub (by repeat (first | exact subl_nil | refine subl_cons rfl ?_)) (back 32 0 Z _ _ f g (by omega) hZ hlw g1 g2 g3 (fun i h1 _ => absurd h1 (by omega)) hf)
        · rw [nI_leI (by omega) (by omega)] at c114
          exact absurd (by omega) c114
      | succ j ih =>
        intro k Z hh n1 g hj hZ hlw g1 g2 g3 hf
        have hm := tkT_mono (xs := xs) (p := p) (q := q) (k := k) (xs.length - k)
        rw [show k + (xs.length - k) = xs.length by omega] at hm
        have hm : (tkT xs p q k).length ≤ (tko xs p q).length := hm
        have xk := hx k (by omega)
        have nxt : ∀ (L : List Int32) (hh3 : HP) (n3 : Nat) (g5 : Nat → Int32), tkp xs p q k = L → hh3 r = some (.inl (G.2.1 0, 32, .inl f)) → hh3 Z = some (.inl (G.2.1 0, 64, .inl g5)) → (∀ i, i < (tkT xs p q k).length + L.length → g5 i = (tkT xs p q k ++ L).getD i 0) → ky 0 r h hh3 → J (g0 G) mm_L_undoes 2 111 [(0, .int (nI xs.length)), (1, .ref r), (3, .int (nI p)), (4, .int (nI q)), (5, .int (rk (xs.getD p 0))), (6, .int (sg (xs.getD p 0))), (7, .ref Z), (8, .int (nI ((tkT xs p q k).length + L.length))), (10, .int (nI (k + 1)))] [] hh3 n3 0 0 (RT mm_L_undoes (qUd G h r xs)) := by
          intro L hh3 n3 g5 eL d1 d2 d3 d4
          have e5 : tkT xs p q (k + 1) = tkT xs p q k ++ L := by rw [← eL]; rfl
          have := ih (k + 1) Z hh3 n3 g5 (by omega) hZ hlw d1 d2 (by rw [e5, List.length_append]; exact d3) d4
          rw [e5, List.length_append] at this
          exact this
        refine J_iload dL_undoes_111 (by rfl) ?_
        refine J_iload_n dL_undoes_113 (by rfl) ?_
        refine J_icmp_ge (tgt := 227) dL_undoes_114 (by decide) (fun c114 => ?_) (fun c114 => ?_)
        · rw [nI_leI (by omega) (by omega)] at c114
          exact absurd c114 (by omega)
        · rw [nI_leI (by omega) (by omega)] at c114
          refine J_iload dL_undoes_117 (by rfl) ?_
          refine J_iload_n dL_undoes_119 (by rfl) ?_
          refine J_icmp_le (tgt := 196) dL_undoes_120 (by decide) (fun c120 => ?_) (fun c120 => ?_)
          · rw [nI_leI (by omega) (by omega)] at c120
            refine J_iload dL_undoes_196 (by rfl) ?_
            refine J_iload_n dL_undoes_198 (by rfl) ?_
            refine J_icmp_eq (tgt := 221) dL_undoes_199 (by decide) (fun c199 => ?_) (fun c199 => ?_)
            · rw [nI_eq (by omega) (by omega)] at c199
              refine J_iincN dL_undoes_221 (by rfl) (by decide) (by rfl) ?_
              refine J_goto (tgt := 111) dL_undoes_224 (by decide) ?_
              first
                | exact J_sub (by repeat (first | exact subl_nil | refine subl_cons rfl ?_)) (nxt [] _ _ g (by rw [tkp, if_pos (by omega)]) g1 g2 (fun i hi => by rw [List.append_nil]; exact g3 i hi) hf)
                | exact J_sub (by repeat (first | exact subl_nil | refine subl_cons rfl ?_)) (nxt [xs.getD k 0] _ _ _ (by rw [tkp, if_neg (by omega)]; first | rw [if_neg (fun z => by omega)] | rw [if_neg (fun z => c141 z.2)]) ((hset_n (by omega)).trans g1) hset_s (fun i hi => by
                    have hi : i < (tkT xs p q k).length + 1 := hi
                    rw [getD_app]
                    by_cases e : i = (tkT xs p q k).length
                    · rw [e, upd_s, if_neg (Nat.lt_irrefl _), Nat.sub_self]; rfl
                    · rw [upd_n e, if_pos (by omega)]; exact g3 i (by omega)) (ky_tr hf (ky_set (Or.inr (by omega)))))
                | exact J_sub (by repeat (first | exact subl_nil | refine subl_cons rfl ?_)) (nxt [-(sg (xs.getD p 0)) * (rk (xs.getD p 0) + 1), sg (xs.getD k 0) * rk (xs.getD p 0), sg (xs.getD p 0) * (rk (xs.getD p 0) + 1)] _ _ _ (by rw [tkp, if_neg (by omega), if_pos ⟨⟨by omega, by omega⟩, c141⟩]) ((hset_n (by omega)).trans ((hset_n (by omega)).trans ((hset_n (by omega)).trans g1))) hset_s (fun i hi => by
                    have hi : i < (tkT xs p q k).length + 3 := hi
                    rw [getD_app]
                    by_cases e2 : i = (tkT xs p q k).length + 2
                    · rw [e2, upd_s, if_neg (by omega), show (tkT xs p q k).length + 2 - (tkT xs p q k).length = 2 by omega]; rfl
                    · rw [upd_n e2]
                      by_cases e1 : i = (tkT xs p q k).length + 1
                      · rw [e1, upd_s, if_neg (by omega), show (tkT xs p q k).length + 1 - (tkT xs p q k).length = 1 by omega]; rfl
                      · rw [upd_n e1]
                        by_cases e : i = (tkT xs p q k).length
                        · rw [e, upd_s, if_neg (Nat.lt_irrefl _), Nat.sub_self]; rfl
                        · rw [upd_n e, if_pos (by omega)]; exact g3 i (by omega)) (ky_tr hf (ky_tr (ky_set (Or.inr (by omega))) (ky_tr (ky_set (Or.inr (by omega))) (ky_set (Or.inr (by omega)))))))
            · rw [nI_eq (by omega) (by omega)] at c199
              refine J_iload dL_undoes_202 (by rfl) ?_
              refine J_iload dL_undoes_204 (by rfl) ?_
              refine J_icmp_eq (tgt := 221) dL_undoes_206 (by decide) (fun c206 => ?_) (fun c206 => ?_)
              · rw [nI_eq (by omega) (by omega)] at c206
                refine J_iincN dL_undoes_221 (by rfl) (by decide) (by rfl) ?_
                refine J_goto (tgt := 111) dL_undoes_224 (by decide) ?_
                first
                  | exact J_sub (by repeat (first | exact subl_nil | refine subl_cons rfl ?_)) (nxt [] _ _ g (by rw [tkp, if_pos (by omega)]) g1 g2 (fun i hi => by rw [List.append_nil]; exact g3 i hi) hf)
                  | exact J_sub (by repeat (first | exact subl_nil | refine subl_cons rfl ?_)) (nxt [xs.getD k 0] _ _ _ (by rw [tkp, if_neg (by omega)]; first | rw [if_neg (fun z => by omega)] | rw [if_neg (fun z => c141 z.2)]) ((hset_n (by omega)).trans g1) hset_s (fun i hi => by
                      have hi : i < (tkT xs p q k).length + 1 := hi
                      rw [getD_app]
                      by_cases e : i = (tkT xs p q k).length
                      · rw [e, upd_s, if_neg (Nat.lt_irrefl _), Nat.sub_self]; rfl
                      · rw [upd_n e, if_pos (by omega)]; exact g3 i (by omega)) (ky_tr hf (ky_set (Or.inr (by omega)))))
                  | exact J_sub (by repeat (first | exact subl_nil | refine subl_cons rfl ?_)) (nxt [-(sg (xs.getD p 0)) * (rk (xs.getD p 0) + 1), sg (xs.getD k 0) * rk (xs.getD p 0), sg (xs.getD p 0) * (rk (xs.getD p 0) + 1)] _ _ _ (by rw [tkp, if_neg (by omega), if_pos ⟨⟨by omega, by omega⟩, c141⟩]) ((hset_n (by omega)).trans ((hset_n (by omega)).trans ((hset_n (by omega)).trans g1))) hset_s (fun i hi => by
                      have hi : i < (tkT xs p q k).length + 3 := hi
                      rw [getD_app]
                      by_cases e2 : i = (tkT xs p q k).length + 2
                      · rw [e2, upd_s, if_neg (by omega), show (tkT xs p q k).length + 2 - (tkT xs p q k).length = 2 by omega]; rfl
                      · rw [upd_n e2]
                        by_cases e1 : i = (tkT xs p q k).length + 1
                        · rw [e1, upd_s, if_neg (by omega), show (tkT xs p q k).length + 1 - (tkT xs p q k).length = 1 by omega]; rfl
                        · rw [upd_n e1]
                          by_cases e : i = (tkT xs p q k).length
                          · rw [e, upd_s, if_neg (Nat.lt_irrefl _), Nat.sub_self]; rfl
                          · rw [upd_n e, if_pos (by omega)]; exact g3 i (by omega)) (ky_tr hf (ky_tr (ky_set (Or.inr (by omega))) (ky_tr (ky_set (Or.inr (by omega))) (ky_set (Or.inr (by omega)))))))
              · rw [nI_eq (by omega) (by omega)] at c206
                refine J_aload dL_undoes_209 (by rfl) ?_
                refine J_iload dL_undoes_211 (by rfl) ?_
                refine J_aload_n dL_undoes_213 (by rfl) ?_
                refine J_iload dL_undoes_214 (by rfl) ?_
                refine J_ga dL_undoes_216 (by first | assumption | exact isLT.ob (by assumption) | exact isRow.ob (by assumption) | exact isHnd.ob (by assumption) | exact isUnt.ob (by assumption) | exact isSt.ob (by assumption) | exact isHist.ob (by assumption) | exact isTxt.ob (by assumption) | exact isLac.ob (by assumption) | exact isMea.ob (by assumption) | exact hset_s | exact (hset_n (by first | assumption | omega)).trans (by first | assumption | exact isLT.ob (by assumption) | exact isRow.ob (by assumption) | exact isHnd.ob (by assumption) | exact isUnt.ob (by assumption) | exact isSt.ob (by assumption) | exact isHist.ob (by assumption) | exact isTxt.ob (by assumption) | exact isLac.ob (by assumption) | exact isMea.ob (by assumption) | exact hset_s | exact (hset_n (by first | assumption | omega)).trans (by first | assumption | exact isLT.ob (by assumption) | exact isRow.ob (by assumption) | exact isHnd.ob (by assumption) | exact isUnt.ob (by assumption) | exact isSt.ob (by assumption) | exact isHist.ob (by assumption) | exact isTxt.ob (by assumption) | exact isLac.ob (by assumption) | exact isMea.ob (by assumption) | exact hset_s | exact (hset_n (by first | assumption | omega)).trans (by first | assumption | exact isLT.ob (by assumption) | exact isRow.ob (by assumption) | exact isHnd.ob (by assumption) | exact isUnt.ob (by assumption) | exact isSt.ob (by assumption) | exact isHist.ob (by assumption) | exact isTxt.ob (by assumption) | exact isLac.ob (by assumption) | exact isMea.ob (by assumption))))) (by first | assumption | omega) (by omega) ?_
                rw [h3 k (by omega)]
                refine J_pa dL_undoes_217 (by first | assumption | exact isLT.ob (by assumption) | exact isRow.ob (by assumption) | exact isHnd.ob (by assumption) | exact isUnt.ob (by assumption) | exact isSt.ob (by assumption) | exact isHist.ob (by assumption) | exact isTxt.ob (by assumption) | exact isLac.ob (by assumption) | exact isMea.ob (by assumption) | exact hset_s | exact (hset_n (by first | assumption | omega)).trans (by first | assumption | exact isLT.ob (by assumption) | exact isRow.ob (by assumption) | exact isHnd.ob (by assumption) | exact isUnt.ob (by assumption) | exact isSt.ob (by assumption) | exact isHist.ob (by assumption) | exact isTxt.ob (by assumption) | exact isLac.ob (by assumption) | exact isMea.ob (by assumption) | exact hset_s | exact (hset_n (by first | assumption | omega)).trans (by first | assumption | exact isLT.ob (by assumption) | exact isRow.ob (by assumption) | exact isHnd.ob (by assumption) | exact isUnt.ob (by assumption) | exact isSt.ob (by assumption) | exact isHist.ob (by assumption) | exact isTxt.ob (by assumption) | exact isLac.ob (by assumption) | exact isMea.ob (by assumption) | exact hset_s | exact (hset_n (by first | assumption | omega)).trans (by first | assumption | exact isLT.ob (by assumption) | exact isRow.ob (by assumption) | exact isHnd.ob (by assumption) | exact isUnt.ob (by assumption) | exact isSt.ob (by assumption) | exact isHist.ob (by assumption) | exact isTxt.ob (by assumption) | exact isLac.ob (by assumption) | exact isMea.ob (by assumption))))) (by first | assumption | omega) (by omega) ?_
                refine J_iincN dL_undoes_218 (by rfl) (by decide) (by rfl) ?_
                refine J_iincN dL_undoes_221 (by rfl) (by decide) (by rfl) ?_
                refine J_goto (tgt := 111) dL_undoes_224 (by decide) ?_
                first
                  | exact J_sub (by repeat (first | exact subl_nil | refine subl_cons rfl ?_)) (nxt [] _ _ g (by rw [tkp, if_pos (by omega)]) g1 g2 (fun i hi => by rw [List.append_nil]; exact g3 i hi) hf)
                  | exact J_sub (by repeat (first | exact subl_nil | refine subl_cons rfl ?_)) (nxt [xs.getD k 0] _ _ _ (by rw [tkp, if_neg (by omega)]; first | rw [if_neg (fun z => by omega)] | rw [if_neg (fun z => c141 z.2)]) ((hset_n (by omega)).trans g1) hset_s (fun i hi => by
                      have hi : i < (tkT xs p q k).length + 1 := hi
                      rw [getD_app]
                      by_cases e : i = (tkT xs p q k).length
                      · rw [e, upd_s, if_neg (Nat.lt_irrefl _), Nat.sub_self]; rfl
                      · rw [upd_n e, if_pos (by omega)]; exact g3 i (by omega)) (ky_tr hf (ky_set (Or.inr (by omega)))))
                  | exact J_sub (by repeat (first | exact subl_nil | refine subl_cons rfl ?_)) (nxt [-(sg (xs.getD p 0)) * (rk (xs.getD p 0) + 1), sg (xs.getD k 0) * rk (xs.getD p 0), sg (xs.getD p 0) * (rk (xs.getD p 0) + 1)] _ _ _ (by rw [tkp, if_neg (by omega), if_pos ⟨⟨by omega, by omega⟩, c141⟩]) ((hset_n (by omega)).trans ((hset_n (by omega)).trans ((hset_n (by omega)).trans g1))) hset_s (fun i hi => by
                      have hi : i < (tkT xs p q k).length + 3 := hi
                      rw [getD_app]
                      by_cases e2 : i = (tkT xs p q k).length + 2
                      · rw [e2, upd_s, if_neg (by omega), show (tkT xs p q k).length + 2 - (tkT xs p q k).length = 2 by omega]; rfl
                      · rw [upd_n e2]
                        by_cases e1 : i = (tkT xs p q k).length + 1
                        · rw [e1, upd_s, if_neg (by omega), show (tkT xs p q k).length + 1 - (tkT xs p q k).length = 1 by omega]; rfl
                        · rw [upd_n e1]
                          by_cases e : i = (tkT xs p q k).length
                          · rw [e, upd_s, if_neg (Nat.lt_irrefl _), Nat.sub_self]; rfl
                          · rw [upd_n e, if_pos (by omega)]; exact g3 i (by omega)) (ky_tr hf (ky_tr (ky_set (Or.inr (by omega))) (ky_tr (ky_set (Or.inr (by omega))) (ky_set (Or.inr (by omega)))))))
          · rw [nI_leI (by omega) (by omega)] at c120
            refine J_iload dL_undoes_123 (by rfl) ?_
            refine J_iload dL_undoes_125 (by rfl) ?_
            refine J_icmp_ge (tgt := 196) dL_undoes_127 (by decide) (fun c127 => ?_) (fun c127 => ?_)
            · rw [nI_leI (by omega) (by omega)] at c127
              refine J_iload dL_undoes_196 (by rfl) ?_
              refine J_iload_n dL_undoes_198 (by rfl) ?_
              refine J_icmp_eq (tgt := 221) dL_undoes_199 (by decide) (fun c199 => ?_) (fun c199 => ?_)
              · rw [nI_eq (by omega) (by omega)] at c199
                refine J_iincN dL_undoes_221 (by rfl) (by decide) (by rfl) ?_
                refine J_goto (tgt := 111) dL_undoes_224 (by decide) ?_
                first
                  | exact J_sub (by repeat (first | exact subl_nil | refine subl_cons rfl ?_)) (nxt [] _ _ g (by rw [tkp, if_pos (by omega)]) g1 g2 (fun i hi => by rw [List.append_nil]; exact g3 i hi) hf)
                  | exact J_sub (by repeat (first | exact subl_nil | refine subl_cons rfl ?_)) (nxt [xs.getD k 0] _ _ _ (by rw [tkp, if_neg (by omega)]; first | rw [if_neg (fun z => by omega)] | rw [if_neg (fun z => c141 z.2)]) ((hset_n (by omega)).trans g1) hset_s (fun i hi => by
                      have hi : i < (tkT xs p q k).length + 1 := hi
                      rw [getD_app]
                      by_cases e : i = (tkT xs p q k).length
                      · rw [e, upd_s, if_neg (Nat.lt_irrefl _), Nat.sub_self]; rfl
                      · rw [upd_n e, if_pos (by omega)]; exact g3 i (by omega)) (ky_tr hf (ky_set (Or.inr (by omega)))))
                  | exact J_sub (by repeat (first | exact subl_nil | refine subl_cons rfl ?_)) (nxt [-(sg (xs.getD p 0)) * (rk (xs.getD p 0) + 1), sg (xs.getD k 0) * rk (xs.getD p 0), sg (xs.getD p 0) * (rk (xs.getD p 0) + 1)] _ _ _ (by rw [tkp, if_neg (by omega), if_pos ⟨⟨by omega, by omega⟩, c141⟩]) ((hset_n (by omega)).trans ((hset_n (by omega)).trans ((hset_n (by omega)).trans g1))) hset_s (fun i hi => by
                      have hi : i < (tkT xs p q k).length + 3 := hi
                      rw [getD_app]
                      by_cases e2 : i = (tkT xs p q k).length + 2
                      · rw [e2, upd_s, if_neg (by omega), show (tkT xs p q k).length + 2 - (tkT xs p q k).length = 2 by omega]; rfl
                      · rw [upd_n e2]
                        by_cases e1 : i = (tkT xs p q k).length + 1
                        · rw [e1, upd_s, if_neg (by omega), show (tkT xs p q k).length + 1 - (tkT xs p q k).length = 1 by omega]; rfl
                        · rw [upd_n e1]
                          by_cases e : i = (tkT xs p q k).length
                          · rw [e, upd_s, if_neg (Nat.lt_irrefl _), Nat.sub_self]; rfl
                          · rw [upd_n e, if_pos (by omega)]; exact g3 i (by omega)) (ky_tr hf (ky_tr (ky_set (Or.inr (by omega))) (ky_tr (ky_set (Or.inr (by omega))) (ky_set (Or.inr (by omega)))))))
              · rw [nI_eq (by omega) (by omega)] at c199
                refine J_iload dL_undoes_202 (by rfl) ?_
                refine J_iload dL_undoes_204 (by rfl) ?_
                refine J_icmp_eq (tgt := 221) dL_undoes_206 (by decide) (fun c206 => ?_) (fun c206 => ?_)
                · rw [nI_eq (by omega) (by omega)] at c206
                  refine J_iincN dL_undoes_221 (by rfl) (by decide) (by rfl) ?_
                  refine J_goto (tgt := 111) dL_undoes_224 (by decide) ?_
                  first
                    | exact J_sub (by repeat (first | exact subl_nil | refine subl_cons rfl ?_)) (nxt [] _ _ g (by rw [tkp, if_pos (by omega)]) g1 g2 (fun i hi => by rw [List.append_nil]; exact g3 i hi) hf)
                    | exact J_sub (by repeat (first | exact subl_nil | refine subl_cons rfl ?_)) (nxt [xs.getD k 0] _ _ _ (by rw [tkp, if_neg (by omega)]; first | rw [if_neg (fun z => by omega)] | rw [if_neg (fun z => c141 z.2)]) ((hset_n (by omega)).trans g1) hset_s (fun i hi => by
                        have hi : i < (tkT xs p q k).length + 1 := hi
                        rw [getD_app]
                        by_cases e : i = (tkT xs p q k).length
                        · rw [e, upd_s, if_neg (Nat.lt_irrefl _), Nat.sub_self]; rfl
                        · rw [upd_n e, if_pos (by omega)]; exact g3 i (by omega)) (ky_tr hf (ky_set (Or.inr (by omega)))))
                    | exact J_sub (by repeat (first | exact subl_nil | refine subl_cons rfl ?_)) (nxt [-(sg (xs.getD p 0)) * (rk (xs.getD p 0) + 1), sg (xs.getD k 0) * rk (xs.getD p 0), sg (xs.getD p 0) * (rk (xs.getD p 0) + 1)] _ _ _ (by rw [tkp, if_neg (by omega), if_pos ⟨⟨by omega, by omega⟩, c141⟩]) ((hset_n (by omega)).trans ((hset_n (by omega)).trans ((hset_n (by omega)).trans g1))) hset_s (fun i hi => by
                        have hi : i < (tkT xs p q k).length + 3 := hi
                        rw [getD_app]
                        by_cases e2 : i = (tkT xs p q k).length + 2
                        · rw [e2, upd_s, if_neg (by omega), show (tkT xs p q k).length + 2 - (tkT xs p q k).length = 2 by omega]; rfl
                        · rw [upd_n e2]
                          by_cases e1 : i = (tkT xs p q k).length + 1
                          · rw [e1, upd_s, if_neg (by omega), show (tkT xs p q k).length + 1 - (tkT xs p q k).length = 1 by omega]; rfl
                          · rw [upd_n e1]
                            by_cases e : i = (tkT xs p q k).length
                            · rw [e, upd_s, if_neg (Nat.lt_irrefl _), Nat.sub_self]; rfl
                            · rw [upd_n e, if_pos (by omega)]; exact g3 i (by omega)) (ky_tr hf (ky_tr (ky_set (Or.inr (by omega))) (ky_tr (ky_set (Or.inr (by omega))) (ky_set (Or.inr (by omega)))))))
                · rw [nI_eq (by omega) (by omega)] at c206
                  refine J_aload dL_undoes_209 (by rfl) ?_
                  refine J_iload dL_undoes_211 (by rfl) ?_
                  refine J_aload_n dL_undoes_213 (by rfl) ?_
                  refine J_iload dL_undoes_214 (by rfl) ?_
                  refine J_ga dL_undoes_216 (by first | assumption | exact isLT.ob (by assumption) | exact isRow.ob (by assumption) | exact isHnd.ob (by assumption) | exact isUnt.ob (by assumption) | exact isSt.ob (by assumption) | exact isHist.ob (by assumption) | exact isTxt.ob (by assumption) | exact isLac.ob (by assumption) | exact isMea.ob (by assumption) | exact hset_s | exact (hset_n (by first | assumption | omega)).trans (by first | assumption | exact isLT.ob (by assumption) | exact isRow.ob (by assumption) | exact isHnd.ob (by assumption) | exact isUnt.ob (by assumption) | exact isSt.ob (by assumption) | exact isHist.ob (by assumption) | exact isTxt.ob (by assumption) | exact isLac.ob (by assumption) | exact isMea.ob (by assumption) | exact hset_s | exact (hset_n (by first | assumption | omega)).trans (by first | assumption | exact isLT.ob (by assumption) | exact isRow.ob (by assumption) | exact isHnd.ob (by assumption) | exact isUnt.ob (by assumption) | exact isSt.ob (by assumption) | exact isHist.ob (by assumption) | exact isTxt.ob (by assumption) | exact isLac.ob (by assumption) | exact isMea.ob (by assumption) | exact hset_s | exact (hset_n (by first | assumption | omega)).trans (by first | assumption | exact isLT.ob (by assumption) | exact isRow.ob (by assumption) | exact isHnd.ob (by assumption) | exact isUnt.ob (by assumption) | exact isSt.ob (by assumption) | exact isHist.ob (by assumption) | exact isTxt.ob (by assumption) | exact isLac.ob (by assumption) | exact isMea.ob (by assumption))))) (by first | assumption | omega) (by omega) ?_
                  rw [h3 k (by omega)]
                  refine J_pa dL_undoes_217 (by first | assumption | exact isLT.ob (by assumption) | exact isRow.ob (by assumption) | exact isHnd.ob (by assumption) | exact isUnt.ob (by assumption) | exact isSt.ob (by assumption) | exact isHist.ob (by assumption) | exact isTxt.ob (by assumption) | exact isLac.ob (by assumption) | exact isMea.ob (by assumption) | exact hset_s | exact (hset_n (by first | assumption | omega)).trans (by first | assumption | exact isLT.ob (by assumption) | exact isRow.ob (by assumption) | exact isHnd.ob (by assumption) | exact isUnt.ob (by assumption) | exact isSt.ob (by assumption) | exact isHist.ob (by assumption) | exact isTxt.ob (by assumption) | exact isLac.ob (by assumption) | exact isMea.ob (by assumption) | exact hset_s | exact (hset_n (by first | assumption | omega)).trans (by first | assumption | exact isLT.ob (by assumption) | exact isRow.ob (by assumption) | exact isHnd.ob (by assumption) | exact isUnt.ob (by assumption) | exact isSt.ob (by assumption) | exact isHist.ob (by assumption) | exact isTxt.ob (by assumption) | exact isLac.ob (by assumption) | exact isMea.ob (by assumption) | exact hset_s | exact (hset_n (by first | assumption | omega)).trans (by first | assumption | exact isLT.ob (by assumption) | exact isRow.ob (by assumption) | exact isHnd.ob (by assumption) | exact isUnt.ob (by assumption) | exact isSt.ob (by assumption) | exact isHist.ob (by assumption) | exact isTxt.ob (by assumption) | exact isLac.ob (by assumption) | exact isMea.ob (by assumption))))) (by first | assumption | omega) (by omega) ?_
                  refine J_iincN dL_undoes_218 (by rfl) (by decide) (by rfl) ?_
                  refine J_iincN dL_undoes_221 (by rfl) (by decide) (by rfl) ?_
                  refine J_goto (tgt := 111) dL_undoes_224 (by decide) ?_
                  first
                    | exact J_sub (by repeat (first | exact subl_nil | refine subl_cons rfl ?_)) (nxt [] _ _ g (by rw [tkp, if_pos (by omega)]) g1 g2 (fun i hi => by rw [List.append_nil]; exact g3 i hi) hf)
                    | exact J_sub (by repeat (first | exact subl_nil | refine subl_cons rfl ?_)) (nxt [xs.getD k 0] _ _ _ (by rw [tkp, if_neg (by omega)]; first | rw [if_neg (fun z => by omega)] | rw [if_neg (fun z => c141 z.2)]) ((hset_n (by omega)).trans g1) hset_s (fun i hi => by
                        have hi : i < (tkT xs p q k).length + 1 := hi
                        rw [getD_app]
                        by_cases e : i = (tkT xs p q k).length
                        · rw [e, upd_s, if_neg (Nat.lt_irrefl _), Nat.sub_self]; rfl
                        · rw [upd_n e, if_pos (by omega)]; exact g3 i (by omega)) (ky_tr hf (ky_set (Or.inr (by omega)))))
                    | exact J_sub (by repeat (first | exact subl_nil | refine subl_cons rfl ?_)) (nxt [-(sg (xs.getD p 0)) * (rk (xs.getD p 0) + 1), sg (xs.getD k 0) * rk (xs.getD p 0), sg (xs.getD p 0) * (rk (xs.getD p 0) + 1)] _ _ _ (by rw [tkp, if_neg (by omega), if_pos ⟨⟨by omega, by omega⟩, c141⟩]) ((hset_n (by omega)).trans ((hset_n (by omega)).trans ((hset_n (by omega)).trans g1))) hset_s (fun i hi => by
                        have hi : i < (tkT xs p q k).length + 3 := hi
                        rw [getD_app]
                        by_cases e2 : i = (tkT xs p q k).length + 2
                        · rw [e2, upd_s, if_neg (by omega), show (tkT xs p q k).length + 2 - (tkT xs p q k).length = 2 by omega]; rfl
                        · rw [upd_n e2]
                          by_cases e1 : i = (tkT xs p q k).length + 1
                          · rw [e1, upd_s, if_neg (by omega), show (tkT xs p q k).length + 1 - (tkT xs p q k).length = 1 by omega]; rfl
                          · rw [upd_n e1]
                            by_cases e : i = (tkT xs p q k).length
                            · rw [e, upd_s, if_neg (Nat.lt_irrefl _), Nat.sub_self]; rfl
                            · rw [upd_n e, if_pos (by omega)]; exact g3 i (by omega)) (ky_tr hf (ky_tr (ky_set (Or.inr (by omega))) (ky_tr (ky_set (Or.inr (by omega))) (ky_set (Or.inr (by omega)))))))
            · rw [nI_leI (by omega) (by omega)] at c127
              refine J_aload_n dL_undoes_130 (by rfl) ?_
              refine J_iload dL_undoes_131 (by rfl) ?_
              refine J_ga dL_undoes_133 (by first | assumption | exact isLT.ob (by assumption) | exact isRow.ob (by assumption) | exact isHnd.ob (by assumption) | exact isUnt.ob (by assumption) | exact isSt.ob (by assumption) | exact isHist.ob (by assumption) | exact isTxt.ob (by assumption) | exact isLac.ob (by assumption) | exact isMea.ob (by assumption) | exact hset_s | exact (hset_n (by first | assumption | omega)).trans (by first | assumption | exact isLT.ob (by assumption) | exact isRow.ob (by assumption) | exact isHnd.ob (by assumption) | exact isUnt.ob (by assumption) | exact isSt.ob (by assumption) | exact isHist.ob (by assumption) | exact isTxt.ob (by assumption) | exact isLac.ob (by assumption) | exact isMea.ob (by assumption) | exact hset_s | exact (hset_n (by first | assumption | omega)).trans (by first | assumption | exact isLT.ob (by assumption) | exact isRow.ob (by assumption) | exact isHnd.ob (by assumption) | exact isUnt.ob (by assumption) | exact isSt.ob (by assumption) | exact isHist.ob (by assumption) | exact isTxt.ob (by assumption) | exact isLac.ob (by assumption) | exact isMea.ob (by assumption) | exact hset_s | exact (hset_n (by first | assumption | omega)).trans (by first | assumption | exact isLT.ob (by assumption) | exact isRow.ob (by assumption) | exact isHnd.ob (by assumption) | exact isUnt.ob (by assumption) | exact isSt.ob (by assumption) | exact isHist.ob (by assumption) | exact isTxt.ob (by assumption) | exact isLac.ob (by assumption) | exact isMea.ob (by assumption))))) (by first | assumption | omega) (by omega) ?_
              rw [h3 k (by omega)]
              refine J_callS mf_L_rank lk_L_63 ms_L_rank (sp_L_rank _ (xs.getD k 0) _) dL_undoes_134 (by decide) (by rfl) rfl (Nat.le_of_ble_eq_true rfl) (Nat.zero_add _) (Nat.zero_add _) (fun v134 h134 n134 q134 => ?_)
              obtain ⟨rfl, rfl⟩ := q134
              refine J_iload dL_undoes_137 (by rfl) ?_
              refine J_iconst (v := 1) dL_undoes_139 (by decide) ?_
              refine J_iadd dL_undoes_140 ?_
              refine J_icmp_ne (tgt := 196) dL_undoes_141 (by decide) (fun c141 => ?_) (fun c141 => ?_)
              · refine J_iload dL_undoes_196 (by rfl) ?_
                refine J_iload_n dL_undoes_198 (by rfl) ?_
                refine J_icmp_eq (tgt := 221) dL_undoes_199 (by decide) (fun c199 => ?_) (fun c199 => ?_)
                · rw [nI_eq (by omega) (by omega)] at c199
                  refine J_iincN dL_undoes_221 (by rfl) (by decide) (by rfl) ?_
                  refine J_goto (tgt := 111) dL_undoes_224 (by decide) ?_
                  first
                    | exact J_sub (by repeat (first | exact subl_nil | refine subl_cons rfl ?_)) (nxt [] _ _ g (by rw [tkp, if_pos (by omega)]) g1 g2 (fun i hi => by rw [List.append_nil]; exact g3 i hi) hf)
                    | exact J_sub (by repeat (first | exact subl_nil | refine subl_cons rfl ?_)) (nxt [xs.getD k 0] _ _ _ (by rw [tkp, if_neg (by omega)]; first | rw [if_neg (fun z => by omega)] | rw [if_neg (fun z => c141 z.2)]) ((hset_n (by omega)).trans g1) hset_s (fun i hi => by
                        have hi : i < (tkT xs p q k).length + 1 := hi
                        rw [getD_app]
                        by_cases e : i = (tkT xs p q k).length
                        · rw [e, upd_s, if_neg (Nat.lt_irrefl _), Nat.sub_self]; rfl
                        · rw [upd_n e, if_pos (by omega)]; exact g3 i (by omega)) (ky_tr hf (ky_set (Or.inr (by omega)))))
                    | exact J_sub (by repeat (first | exact subl_nil | refine subl_cons rfl ?_)) (nxt [-(sg (xs.getD p 0)) * (rk (xs.getD p 0) + 1), sg (xs.getD k 0) * rk (xs.getD p 0), sg (xs.getD p 0) * (rk (xs.getD p 0) + 1)] _ _ _ (by rw [tkp, if_neg (by omega), if_pos ⟨⟨by omega, by omega⟩, c141⟩]) ((hset_n (by omega)).trans ((hset_n (by omega)).trans ((hset_n (by omega)).trans g1))) hset_s (fun i hi => by
                        have hi : i < (tkT xs p q k).length + 3 := hi
                        rw [getD_app]
                        by_cases e2 : i = (tkT xs p q k).length + 2
                        · rw [e2, upd_s, if_neg (by omega), show (tkT xs p q k).length + 2 - (tkT xs p q k).length = 2 by omega]; rfl
                        · rw [upd_n e2]
                          by_cases e1 : i = (tkT xs p q k).length + 1
                          · rw [e1, upd_s, if_neg (by omega), show (tkT xs p q k).length + 1 - (tkT xs p q k).length = 1 by omega]; rfl
                          · rw [upd_n e1]
                            by_cases e : i = (tkT xs p q k).length
                            · rw [e, upd_s, if_neg (Nat.lt_irrefl _), Nat.sub_self]; rfl
                            · rw [upd_n e, if_pos (by omega)]; exact g3 i (by omega)) (ky_tr hf (ky_tr (ky_set (Or.inr (by omega))) (ky_tr (ky_set (Or.inr (by omega))) (ky_set (Or.inr (by omega)))))))
                · rw [nI_eq (by omega) (by omega)] at c199
                  refine J_iload dL_undoes_202 (by rfl) ?_
                  refine J_iload dL_undoes_204 (by rfl) ?_
                  refine J_icmp_eq (tgt := 221) dL_undoes_206 (by decide) (fun c206 => ?_) (fun c206 => ?_)
                  · rw [nI_eq (by omega) (by omega)] at c206
                    refine J_iincN dL_undoes_221 (by rfl) (by decide) (by rfl) ?_
                    refine J_goto (tgt := 111) dL_undoes_224 (by decide) ?_
                    first
                      | exact J_sub (by repeat (first | exact subl_nil | refine subl_cons rfl ?_)) (nxt [] _ _ g (by rw [tkp, if_pos (by omega)]) g1 g2 (fun i hi => by rw [List.append_nil]; exact g3 i hi) hf)
                      | exact J_sub (by repeat (first | exact subl_nil | refine subl_cons rfl ?_)) (nxt [xs.getD k 0] _ _ _ (by rw [tkp, if_neg (by omega)]; first | rw [if_neg (fun z => by omega)] | rw [if_neg (fun z => c141 z.2)]) ((hset_n (by omega)).trans g1) hset_s (fun i hi => by
                          have hi : i < (tkT xs p q k).length + 1 := hi
                          rw [getD_app]
                          by_cases e : i = (tkT xs p q k).length
                          · rw [e, upd_s, if_neg (Nat.lt_irrefl _), Nat.sub_self]; rfl
                          · rw [upd_n e, if_pos (by omega)]; exact g3 i (by omega)) (ky_tr hf (ky_set (Or.inr (by omega)))))
                      | exact J_sub (by repeat (first | exact subl_nil | refine subl_cons rfl ?_)) (nxt [-(sg (xs.getD p 0)) * (rk (xs.getD p 0) + 1), sg (xs.getD k 0) * rk (xs.getD p 0), sg (xs.getD p 0) * (rk (xs.getD p 0) + 1)] _ _ _ (by rw [tkp, if_neg (by omega), if_pos ⟨⟨by omega, by omega⟩, c141⟩]) ((hset_n (by omega)).trans ((hset_n (by omega)).trans ((hset_n (by omega)).trans g1))) hset_s (fun i hi => by
                          have hi : i < (tkT xs p q k).length + 3 := hi
                          rw [getD_app]
                          by_cases e2 : i = (tkT xs p q k).length + 2
                          · rw [e2, upd_s, if_neg (by omega), show (tkT xs p q k).length + 2 - (tkT xs p q k).length = 2 by omega]; rfl
                          · rw [upd_n e2]
                            by_cases e1 : i = (tkT xs p q k).length + 1
                            · rw [e1, upd_s, if_neg (by omega), show (tkT xs p q k).length + 1 - (tkT xs p q k).length = 1 by omega]; rfl
                            · rw [upd_n e1]
                              by_cases e : i = (tkT xs p q k).length
                              · rw [e, upd_s, if_neg (Nat.lt_irrefl _), Nat.sub_self]; rfl
                              · rw [upd_n e, if_pos (by omega)]; exact g3 i (by omega)) (ky_tr hf (ky_tr (ky_set (Or.inr (by omega))) (ky_tr (ky_set (Or.inr (by omega))) (ky_set (Or.inr (by omega)))))))
                  · rw [nI_eq (by omega) (by omega)] at c206
                    refine J_aload dL_undoes_209 (by rfl) ?_
                    refine J_iload dL_undoes_211 (by rfl) ?_
                    refine J_aload_n dL_undoes_213 (by rfl) ?_
                    refine J_iload dL_undoes_214 (by rfl) ?_
                    refine J_ga dL_undoes_216 (by first | assumption | exact isLT.ob (by assumption) | exact isRow.ob (by assumption) | exact isHnd.ob (by assumption) | exact isUnt.ob (by assumption) | exact isSt.ob (by assumption) | exact isHist.ob (by assumption) | exact isTxt.ob (by assumption) | exact isLac.ob (by assumption) | exact isMea.ob (by assumption) | exact hset_s | exact (hset_n (by first | assumption | omega)).trans (by first | assumption | exact isLT.ob (by assumption) | exact isRow.ob (by assumption) | exact isHnd.ob (by assumption) | exact isUnt.ob (by assumption) | exact isSt.ob (by assumption) | exact isHist.ob (by assumption) | exact isTxt.ob (by assumption) | exact isLac.ob (by assumption) | exact isMea.ob (by assumption) | exact hset_s | exact (hset_n (by first | assumption | omega)).trans (by first | assumption | exact isLT.ob (by assumption) | exact isRow.ob (by assumption) | exact isHnd.ob (by assumption) | exact isUnt.ob (by assumption) | exact isSt.ob (by assumption) | exact isHist.ob (by assumption) | exact isTxt.ob (by assumption) | exact isLac.ob (by assumption) | exact isMea.ob (by assumption) | exact hset_s | exact (hset_n (by first | assumption | omega)).trans (by first | assumption | exact isLT.ob (by assumption) | exact isRow.ob (by assumption) | exact isHnd.ob (by assumption) | exact isUnt.ob (by assumption) | exact isSt.ob (by assumption) | exact isHist.ob (by assumption) | exact isTxt.ob (by assumption) | exact isLac.ob (by assumption) | exact isMea.ob (by assumption))))) (by first | assumption | omega) (by omega) ?_
                    rw [h3 k (by omega)]
                    refine J_pa dL_undoes_217 (by first | assumption | exact isLT.ob (by assumption) | exact isRow.ob (by assumption) | exact isHnd.ob (by assumption) | exact isUnt.ob (by assumption) | exact isSt.ob (by assumption) | exact isHist.ob (by assumption) | exact isTxt.ob (by assumption) | exact isLac.ob (by assumption) | exact isMea.ob (by assumption) | exact hset_s | exact (hset_n (by first | assumption | omega)).trans (by first | assumption | exact isLT.ob (by assumption) | exact isRow.ob (by assumption) | exact isHnd.ob (by assumption) | exact isUnt.ob (by assumption) | exact isSt.ob (by assumption) | exact isHist.ob (by assumption) | exact isTxt.ob (by assumption) | exact isLac.ob (by assumption) | exact isMea.ob (by assumption) | exact hset_s | exact (hset_n (by first | assumption | omega)).trans (by first | assumption | exact isLT.ob (by assumption) | exact isRow.ob (by assumption) | exact isHnd.ob (by assumption) | exact isUnt.ob (by assumption) | exact isSt.ob (by assumption) | exact isHist.ob (by assumption) | exact isTxt.ob (by assumption) | exact isLac.ob (by assumption) | exact isMea.ob (by assumption) | exact hset_s | exact (hset_n (by first | assumption | omega)).trans (by first | assumption | exact isLT.ob (by assumption) | exact isRow.ob (by assumption) | exact isHnd.ob (by assumption) | exact isUnt.ob (by assumption) | exact isSt.ob (by assumption) | exact isHist.ob (by assumption) | exact isTxt.ob (by assumption) | exact isLac.ob (by assumption) | exact isMea.ob (by assumption))))) (by first | assumption | omega) (by omega) ?_
                    refine J_iincN dL_undoes_218 (by rfl) (by decide) (by rfl) ?_
                    refine J_iincN dL_undoes_221 (by rfl) (by decide) (by rfl) ?_
                    refine J_goto (tgt := 111) dL_undoes_224 (by decide) ?_
                    first
                      | exact J_sub (by repeat (first | exact subl_nil | refine subl_cons rfl ?_)) (nxt [] _ _ g (by rw [tkp, if_pos (by omega)]) g1 g2 (fun i hi => by rw [List.append_nil]; exact g3 i hi) hf)
                      | exact J_sub (by repeat (first | exact subl_nil | refine subl_cons rfl ?_)) (nxt [xs.getD k 0] _ _ _ (by rw [tkp, if_neg (by omega)]; first | rw [if_neg (fun z => by omega)] | rw [if_neg (fun z => c141 z.2)]) ((hset_n (by omega)).trans g1) hset_s (fun i hi => by
                          have hi : i < (tkT xs p q k).length + 1 := hi
                          rw [getD_app]
                          by_cases e : i = (tkT xs p q k).length
                          · rw [e, upd_s, if_neg (Nat.lt_irrefl _), Nat.sub_self]; rfl
                          · rw [upd_n e, if_pos (by omega)]; exact g3 i (by omega)) (ky_tr hf (ky_set (Or.inr (by omega)))))
                      | exact J_sub (by repeat (first | exact subl_nil | refine subl_cons rfl ?_)) (nxt [-(sg (xs.getD p 0)) * (rk (xs.getD p 0) + 1), sg (xs.getD k 0) * rk (xs.getD p 0), sg (xs.getD p 0) * (rk (xs.getD p 0) + 1)] _ _ _ (by rw [tkp, if_neg (by omega), if_pos ⟨⟨by omega, by omega⟩, c141⟩]) ((hset_n (by omega)).trans ((hset_n (by omega)).trans ((hset_n (by omega)).trans g1))) hset_s (fun i hi => by
                          have hi : i < (tkT xs p q k).length + 3 := hi
                          rw [getD_app]
                          by_cases e2 : i = (tkT xs p q k).length + 2
                          · rw [e2, upd_s, if_neg (by omega), show (tkT xs p q k).length + 2 - (tkT xs p q k).length = 2 by omega]; rfl
                          · rw [upd_n e2]
                            by_cases e1 : i = (tkT xs p q k).length + 1
                            · rw [e1, upd_s, if_neg (by omega), show (tkT xs p q k).length + 1 - (tkT xs p q k).length = 1 by omega]; rfl
                            · rw [upd_n e1]
                              by_cases e : i = (tkT xs p q k).length
                              · rw [e, upd_s, if_neg (Nat.lt_irrefl _), Nat.sub_self]; rfl
                              · rw [upd_n e, if_pos (by omega)]; exact g3 i (by omega)) (ky_tr hf (ky_tr (ky_set (Or.inr (by omega))) (ky_tr (ky_set (Or.inr (by omega))) (ky_set (Or.inr (by omega)))))))
              · refine J_aload dL_undoes_144 (by rfl) ?_
                refine J_iload dL_undoes_146 (by rfl) ?_
                refine J_iload dL_undoes_148 (by rfl) ?_
                refine J_ineg dL_undoes_150 ?_
                refine J_iload dL_undoes_151 (by rfl) ?_
                refine J_iconst (v := 1) dL_undoes_153 (by decide) ?_
                refine J_iadd dL_undoes_154 ?_
                refine J_imul dL_undoes_155 ?_
                refine J_pa dL_undoes_156 (by first | assumption | exact isLT.ob (by assumption) | exact isRow.ob (by assumption) | exact isHnd.ob (by assumption) | exact isUnt.ob (by assumption) | exact isSt.ob (by assumption) | exact isHist.ob (by assumption) | exact isTxt.ob (by assumption) | exact isLac.ob (by assumption) | exact isMea.ob (by assumption) | exact hset_s | exact (hset_n (by first | assumption | omega)).trans (by first | assumption | exact isLT.ob (by assumption) | exact isRow.ob (by assumption) | exact isHnd.ob (by assumption) | exact isUnt.ob (by assumption) | exact isSt.ob (by assumption) | exact isHist.ob (by assumption) | exact isTxt.ob (by assumption) | exact isLac.ob (by assumption) | exact isMea.ob (by assumption) | exact hset_s | exact (hset_n (by first | assumption | omega)).trans (by first | assumption | exact isLT.ob (by assumption) | exact isRow.ob (by assumption) | exact isHnd.ob (by assumption) | exact isUnt.ob (by assumption) | exact isSt.ob (by assumption) | exact isHist.ob (by assumption) | exact isTxt.ob (by assumption) | exact isLac.ob (by assumption) | exact isMea.ob (by assumption) | exact hset_s | exact (hset_n (by first | assumption | omega)).trans (by first | assumption | exact isLT.ob (by assumption) | exact isRow.ob (by assumption) | exact isHnd.ob (by assumption) | exact isUnt.ob (by assumption) | exact isSt.ob (by assumption) | exact isHist.ob (by assumption) | exact isTxt.ob (by assumption) | exact isLac.ob (by assumption) | exact isMea.ob (by assumption))))) (by first | assumption | omega) (by omega) ?_
                refine J_aload dL_undoes_157 (by rfl) ?_
                refine J_iload dL_undoes_159 (by rfl) ?_
                refine J_iconst (v := nI 1) dL_undoes_161 (by decide) ?_
                refine J_iadd dL_undoes_162 ?_
                rw [nI_add]
                refine J_aload_n dL_undoes_163 (by rfl) ?_
                refine J_iload dL_undoes_164 (by rfl) ?_
                refine J_ga dL_undoes_166 (by first | assumption | exact isLT.ob (by assumption) | exact isRow.ob (by assumption) | exact isHnd.ob (by assumption) | exact isUnt.ob (by assumption) | exact isSt.ob (by assumption) | exact isHist.ob (by assumption) | exact isTxt.ob (by assumption) | exact isLac.ob (by assumption) | exact isMea.ob (by assumption) | exact hset_s | exact (hset_n (by first | assumption | omega)).trans (by first | assumption | exact isLT.ob (by assumption) | exact isRow.ob (by assumption) | exact isHnd.ob (by assumption) | exact isUnt.ob (by assumption) | exact isSt.ob (by assumption) | exact isHist.ob (by assumption) | exact isTxt.ob (by assumption) | exact isLac.ob (by assumption) | exact isMea.ob (by assumption) | exact hset_s | exact (hset_n (by first | assumption | omega)).trans (by first | assumption | exact isLT.ob (by assumption) | exact isRow.ob (by assumption) | exact isHnd.ob (by assumption) | exact isUnt.ob (by assumption) | exact isSt.ob (by assumption) | exact isHist.ob (by assumption) | exact isTxt.ob (by assumption) | exact isLac.ob (by assumption) | exact isMea.ob (by assumption) | exact hset_s | exact (hset_n (by first | assumption | omega)).trans (by first | assumption | exact isLT.ob (by assumption) | exact isRow.ob (by assumption) | exact isHnd.ob (by assumption) | exact isUnt.ob (by assumption) | exact isSt.ob (by assumption) | exact isHist.ob (by assumption) | exact isTxt.ob (by assumption) | exact isLac.ob (by assumption) | exact isMea.ob (by assumption))))) (by first | assumption | omega) (by omega) ?_
                rw [h3 k (by omega)]
                refine J_iload dL_undoes_167 (by rfl) ?_
                refine J_iconst (v := 1) dL_undoes_169 (by decide) ?_
                refine J_iadd dL_undoes_170 ?_
                refine J_idiv dL_undoes_171 (by rw [← c141]; exact rkn0 _ xk.xl) ?_
                rw [show xs.getD k 0 / (rk (xs.getD p 0) + 1) = sg (xs.getD k 0) by rw [← c141]; exact rkdv _ xk.xl]
                refine J_iload dL_undoes_172 (by rfl) ?_
                refine J_imul dL_undoes_174 ?_
                refine J_pa dL_undoes_175 (by first | assumption | exact isLT.ob (by assumption) | exact isRow.ob (by assumption) | exact isHnd.ob (by assumption) | exact isUnt.ob (by assumption) | exact isSt.ob (by assumption) | exact isHist.ob (by assumption) | exact isTxt.ob (by assumption) | exact isLac.ob (by assumption) | exact isMea.ob (by assumption) | exact hset_s | exact (hset_n (by first | assumption | omega)).trans (by first | assumption | exact isLT.ob (by assumption) | exact isRow.ob (by assumption) | exact isHnd.ob (by assumption) | exact isUnt.ob (by assumption) | exact isSt.ob (by assumption) | exact isHist.ob (by assumption) | exact isTxt.ob (by assumption) | exact isLac.ob (by assumption) | exact isMea.ob (by assumption) | exact hset_s | exact (hset_n (by first | assumption | omega)).trans (by first | assumption | exact isLT.ob (by assumption) | exact isRow.ob (by assumption) | exact isHnd.ob (by assumption) | exact isUnt.ob (by assumption) | exact isSt.ob (by assumption) | exact isHist.ob (by assumption) | exact isTxt.ob (by assumption) | exact isLac.ob (by assumption) | exact isMea.ob (by assumption) | exact hset_s | exact (hset_n (by first | assumption | omega)).trans (by first | assumption | exact isLT.ob (by assumption) | exact isRow.ob (by assumption) | exact isHnd.ob (by assumption) | exact isUnt.ob (by assumption) | exact isSt.ob (by assumption) | exact isHist.ob (by assumption) | exact isTxt.ob (by assumption) | exact isLac.ob (by assumption) | exact isMea.ob (by assumption))))) (by first | assumption | omega) (by omega) ?_
                refine J_aload dL_undoes_176 (by rfl) ?_
                refine J_iload dL_undoes_178 (by rfl) ?_
                refine J_iconst (v := nI 2) dL_undoes_180 (by decide) ?_
                refine J_iadd dL_undoes_181 ?_
                rw [nI_add]
                refine J_iload dL_undoes_182 (by rfl) ?_
                refine J_iload dL_undoes_184 (by rfl) ?_
                refine J_iconst (v := 1) dL_undoes_186 (by decide) ?_
                refine J_iadd dL_undoes_187 ?_
                refine J_imul dL_undoes_188 ?_
                refine J_pa dL_undoes_189 (by first | assumption | exact isLT.ob (by assumption) | exact isRow.ob (by assumption) | exact isHnd.ob (by assumption) | exact isUnt.ob (by assumption) | exact isSt.ob (by assumption) | exact isHist.ob (by assumption) | exact isTxt.ob (by assumption) | exact isLac.ob (by assumption) | exact isMea.ob (by assumption) | exact hset_s | exact (hset_n (by first | assumption | omega)).trans (by first | assumption | exact isLT.ob (by assumption) | exact isRow.ob (by assumption) | exact isHnd.ob (by assumption) | exact isUnt.ob (by assumption) | exact isSt.ob (by assumption) | exact isHist.ob (by assumption) | exact isTxt.ob (by assumption) | exact isLac.ob (by assumption) | exact isMea.ob (by assumption) | exact hset_s | exact (hset_n (by first | assumption | omega)).trans (by first | assumption | exact isLT.ob (by assumption) | exact isRow.ob (by assumption) | exact isHnd.ob (by assumption) | exact isUnt.ob (by assumption) | exact isSt.ob (by assumption) | exact isHist.ob (by assumption) | exact isTxt.ob (by assumption) | exact isLac.ob (by assumption) | exact isMea.ob (by assumption) | exact hset_s | exact (hset_n (by first | assumption | omega)).trans (by first | assumption | exact isLT.ob (by assumption) | exact isRow.ob (by assumption) | exact isHnd.ob (by assumption) | exact isUnt.ob (by assumption) | exact isSt.ob (by assumption) | exact isHist.ob (by assumption) | exact isTxt.ob (by assumption) | exact isLac.ob (by assumption) | exact isMea.ob (by assumption))))) (by first | assumption | omega) (by omega) ?_
                refine J_iinc (v := 3) dL_undoes_190 (by rfl) (by decide) (by rfl) ?_
                rw [show nI (tkT xs p q k).length + 3 = nI ((tkT xs p q k).length + 3) from nI_add _ 3]
                refine J_goto (tgt := 221) dL_undoes_193 (by decide) ?_
                refine J_iincN dL_undoes_221 (by rfl) (by decide) (by rfl) ?_
                refine J_goto (tgt := 111) dL_undoes_224 (by decide) ?_
                first
                  | exact J_sub (by repeat (first | exact subl_nil | refine subl_cons rfl ?_)) (nxt [] _ _ g (by rw [tkp, if_pos (by omega)]) g1 g2 (fun i hi => by rw [List.append_nil]; exact g3 i hi) hf)
                  | exact J_sub (by repeat (first | exact subl_nil | refine subl_cons rfl ?_)) (nxt [xs.getD k 0] _ _ _ (by rw [tkp, if_neg (by omega)]; first | rw [if_neg (fun z => by omega)] | rw [if_neg (fun z => c141 z.2)]) ((hset_n (by omega)).trans g1) hset_s (fun i hi => by
                      have hi : i < (tkT xs p q k).length + 1 := hi
                      rw [getD_app]
                      by_cases e : i = (tkT xs p q k).length
                      · rw [e, upd_s, if_neg (Nat.lt_irrefl _), Nat.sub_self]; rfl
                      · rw [upd_n e, if_pos (by omega)]; exact g3 i (by omega)) (ky_tr hf (ky_set (Or.inr (by omega)))))
                  | exact J_sub (by repeat (first | exact subl_nil | refine subl_cons rfl ?_)) (nxt [-(sg (xs.getD p 0)) * (rk (xs.getD p 0) + 1), sg (xs.getD k 0) * rk (xs.getD p 0), sg (xs.getD p 0) * (rk (xs.getD p 0) + 1)] _ _ _ (by rw [tkp, if_neg (by omega), if_pos ⟨⟨by omega, by omega⟩, c141⟩]) ((hset_n (by omega)).trans ((hset_n (by omega)).trans ((hset_n (by omega)).trans g1))) hset_s (fun i hi => by
                      have hi : i < (tkT xs p q k).length + 3 := hi
                      rw [getD_app]
                      by_cases e2 : i = (tkT xs p q k).length + 2
                      · rw [e2, upd_s, if_neg (by omega), show (tkT xs p q k).length + 2 - (tkT xs p q k).length = 2 by omega]; rfl
                      · rw [upd_n e2]
                        by_cases e1 : i = (tkT xs p q k).length + 1
                        · rw [e1, upd_s, if_neg (by omega), show (tkT xs p q k).length + 1 - (tkT xs p q k).length = 1 by omega]; rfl
                        · rw [upd_n e1]
                          by_cases e : i = (tkT xs p q k).length
                          · rw [e, upd_s, if_neg (Nat.lt_irrefl _), Nat.sub_self]; rfl
                          · rw [upd_n e, if_pos (by omega)]; exact g3 i (by omega)) (ky_tr hf (ky_tr (ky_set (Or.inr (by omega))) (ky_tr (ky_set (Or.inr (by omega))) (ky_set (Or.inr (by omega)))))))
    have count : ∀ (j c Z : Nat) (hh : HP) (n1 : Nat) (g : Nat → Int32), p + 1 + c + j = q → r < Z → hh r = some (.inl (G.2.1 0, 32, .inl f)) → hh Z = some (.inl (G.2.1 0, 64, .inl g)) → ky 0 r h hh → J (g0 G) mm_L_undoes 2 57 [(0, .int (nI xs.length)), (1, .ref r), (3, .int (nI p)), (4, .int (nI q)), (5, .int (rk (xs.getD p 0))), (6, .int (sg (xs.getD p 0))), (7, .ref Z), (8, .int (nI 0)), (9, .int (nI (2 * cntT xs p c))), (10, .int (nI (p + 1 + c)))] [] hh n1 0 0 (RT mm_L_undoes (qUd G h r xs)) := by
      intro j
      induction j with
      | zero =>
        intro c Z hh n1 g hj hZ g1 g2 hf
        rw [show q - (p + 1) = c by omega] at lw hct
        refine J_iload dL_undoes_57 (by rfl) ?_
        refine J_iload dL_undoes_59 (by rfl) ?_
        refine J_icmp_ge (tgt := 94) dL_undoes_61 (by decide) (fun c61 => ?_) (fun c61 => ?_)
        · rw [nI_leI (by omega) (by omega)] at c61
          refine J_iload_n dL_undoes_94 (by rfl) ?_
          refine J_iconst (v := nI 2) dL_undoes_95 (by decide) ?_
          refine J_isub dL_undoes_96 ?_
          rw [pk_sub (by omega)]
          refine J_iload dL_undoes_97 (by rfl) ?_
          refine J_iadd dL_undoes_99 ?_
          rw [nI_add, ← lw]
          refine J_bipush (v := nI 30) dL_undoes_100 (by decide) ?_
          refine J_icmp_le (tgt := 108) dL_undoes_102 (by decide) (fun c102 => ?_) (fun c102 => ?_)
          · rw [nI_leI (by omega) (by omega)] at c102
            refine J_iconst (v := nI 0) dL_undoes_108 (by decide) ?_
            refine J_istore dL_undoes_109 (by decide) (by rfl) ?_
            exact J_sub (by repeat (first | exact subl_nil | refine subl_cons rfl ?_)) (build xs.length 0 Z _ _ g (by omega) hZ (by omega) g1 g2 (fun i hi => absurd hi (Nat.not_lt_zero _)) hf)
          · rw [nI_leI (by omega) (by omega)] at c102
            refine J_bipush (v := (-103)) dL_undoes_105 (by decide) ?_
            exact J_ireturn dL_undoes_107 rfl (by rfl) (⟨hf, Or.inl ⟨rfl, w0.keep (g1.trans h1.symm), fun p2 q2 e => by rw [hfh] at e; cases e; omega⟩⟩)
        · rw [nI_leI (by omega) (by omega)] at c61
          exact absurd (by omega) c61
      | succ j ih =>
        intro c Z hh n1 g hj hZ g1 g2 hf
        have hc1 : cntT xs p (c + 1) = cntT xs p c + if rk (xs.getD (p + 1 + c) 0) = rk (xs.getD p 0) + 1 then 1 else 0 := rfl
        refine J_iload dL_undoes_57 (by rfl) ?_
        refine J_iload dL_undoes_59 (by rfl) ?_
        refine J_icmp_ge (tgt := 94) dL_undoes_61 (by decide) (fun c61 => ?_) (fun c61 => ?_)
        · rw [nI_leI (by omega) (by omega)] at c61
          exact absurd c61 (by omega)
        · rw [nI_leI (by omega) (by omega)] at c61
          refine J_iload dL_undoes_64 (by rfl) ?_
          refine J_aload_n dL_undoes_66 (by rfl) ?_
          refine J_iload dL_undoes_67 (by rfl) ?_
          refine J_ga dL_undoes_69 (by first | assumption | exact isLT.ob (by assumption) | exact isRow.ob (by assumption) | exact isHnd.ob (by assumption) | exact isUnt.ob (by assumption) | exact isSt.ob (by assumption) | exact isHist.ob (by assumption) | exact isTxt.ob (by assumption) | exact isLac.ob (by assumption) | exact isMea.ob (by assumption) | exact hset_s | exact (hset_n (by first | assumption | omega)).trans (by first | assumption | exact isLT.ob (by assumption) | exact isRow.ob (by assumption) | exact isHnd.ob (by assumption) | exact isUnt.ob (by assumption) | exact isSt.ob (by assumption) | exact isHist.ob (by assumption) | exact isTxt.ob (by assumption) | exact isLac.ob (by assumption) | exact isMea.ob (by assumption) | exact hset_s | exact (hset_n (by first | assumption | omega)).trans (by first | assumption | exact isLT.ob (by assumption) | exact isRow.ob (by assumption) | exact isHnd.ob (by assumption) | exact isUnt.ob (by assumption) | exact isSt.ob (by assumption) | exact isHist.ob (by assumption) | exact isTxt.ob (by assumption) | exact isLac.ob (by assumption) | exact isMea.ob (by assumption) | exact hset_s | exact (hset_n (by first | assumption | omega)).trans (by first | assumption | exact isLT.ob (by assumption) | exact isRow.ob (by assumption) | exact isHnd.ob (by assumption) | exact isUnt.ob (by assumption) | exact isSt.ob (by assumption) | exact isHist.ob (by assumption) | exact isTxt.ob (by assumption) | exact isLac.ob (by assumption) | exact isMea.ob (by assumption))))) (by first | assumption | omega) (by omega) ?_
          rw [h3 _ (by omega)]
          refine J_callS mf_L_rank lk_L_63 ms_L_rank (sp_L_rank _ (xs.getD (p + 1 + c) 0) _) dL_undoes_70 (by decide) (by rfl) rfl (Nat.le_of_ble_eq_true rfl) (Nat.zero_add _) (Nat.zero_add _) (fun v70 h70 n70 q70 => ?_)
          obtain ⟨rfl, rfl⟩ := q70
          refine J_iload dL_undoes_73 (by rfl) ?_
          refine J_iconst (v := 1) dL_undoes_75 (by decide) ?_
          refine J_iadd dL_undoes_76 ?_
          refine J_icmp_ne (tgt := 84) dL_undoes_77 (by decide) (fun c77 => ?_) (fun c77 => ?_)
          · rw [if_neg c77] at hc1
            refine J_iconst (v := nI 0) dL_undoes_84 (by decide) ?_
            refine J_iadd dL_undoes_85 ?_
            rw [nI_add]
            refine J_istore dL_undoes_86 (by decide) (by rfl) ?_
            refine J_iincN dL_undoes_88 (by rfl) (by decide) (by rfl) ?_
            refine J_goto (tgt := 57) dL_undoes_91 (by decide) ?_
            first
              | exact J_sub (subl_cons rfl (subl_cons rfl (subl_cons rfl (subl_cons rfl (subl_cons rfl (subl_cons rfl (subl_cons rfl (subl_cons rfl (subl_cons (by show some (Value.int (nI _)) = some (Value.int (nI _)); rw [hc1]; congr 3 <;> omega) (subl_cons rfl subl_nil)))))))))) (ih (c + 1) Z _ _ g (by omega) hZ g1 g2 hf)
          · rw [if_pos c77] at hc1
            refine J_iconst (v := nI 2) dL_undoes_80 (by decide) ?_
            refine J_goto (tgt := 85) dL_undoes_81 (by decide) ?_
            refine J_iadd dL_undoes_85 ?_
            rw [nI_add]
            refine J_istore dL_undoes_86 (by decide) (by rfl) ?_
            refine J_iincN dL_undoes_88 (by rfl) (by decide) (by rfl) ?_
            refine J_goto (tgt := 57) dL_undoes_91 (by decide) ?_
            first
              | exact J_sub (subl_cons rfl (subl_cons rfl (subl_cons rfl (subl_cons rfl (subl_cons rfl (subl_cons rfl (subl_cons rfl (subl_cons rfl (subl_cons (by show some (Value.int (nI _)) = some (Value.int (nI _)); rw [hc1]; congr 3 <;> omega) (subl_cons rfl subl_nil)))))))))) (ih (c + 1) Z _ _ g (by omega) hZ g1 g2 hf)
    refine J_iload_n dL_undoes_0 (by rfl) ?_
    refine J_aload_n dL_undoes_1 (by rfl) ?_
    refine J_callS mf_L_first lk_L_72 ms_L_first (sp_L_first w0 hx _) dL_undoes_2 (by decide) (by rfl) rfl (Nat.le_of_ble_eq_true rfl) (Nat.zero_add _) (Nat.zero_add _) (fun v2 h2 n2 q2 => ?_)
    obtain ⟨rfl, rfl⟩ := q2
    rw [show encF (fh xs) = nI (64 * p + q) by rw [hfh]; rfl]
    refine J_istore_n dL_undoes_5 (by decide) (by rfl) ?_
    refine J_iload_n dL_undoes_6 (by rfl) ?_
    refine J_if_ge (tgt := 13) dL_undoes_7 (by decide) (fun c7 => ?_) (fun c7 => ?_)
    · refine J_iload_n dL_undoes_13 (by rfl) ?_
      refine J_bipush (v := nI 64) dL_undoes_14 (by decide) ?_
      refine J_idiv dL_undoes_16 (by decide) ?_
      rw [pk_div (by omega) (by omega) (by omega), show (64 * p + q) / 64 = p by omega]
      refine J_istore_n dL_undoes_17 (by decide) (by rfl) ?_
      refine J_iload_n dL_undoes_18 (by rfl) ?_
      refine J_bipush (v := nI 64) dL_undoes_19 (by decide) ?_
      refine J_irem dL_undoes_21 (by decide) ?_
      rw [pk_rem (by omega) (by omega) (by omega), show (64 * p + q) % 64 = q by omega]
      refine J_istore dL_undoes_22 (by decide) (by rfl) ?_
      refine J_aload_n dL_undoes_24 (by rfl) ?_
      refine J_iload_n dL_undoes_25 (by rfl) ?_
      refine J_ga dL_undoes_26 (by first | assumption | exact isLT.ob (by assumption) | exact isRow.ob (by assumption) | exact isHnd.ob (by assumption) | exact isUnt.ob (by assumption) | exact isSt.ob (by assumption) | exact isHist.ob (by assumption) | exact isTxt.ob (by assumption) | exact isLac.ob (by assumption) | exact isMea.ob (by assumption) | exact hset_s | exact (hset_n (by first | assumption | omega)).trans (by first | assumption | exact isLT.ob (by assumption) | exact isRow.ob (by assumption) | exact isHnd.ob (by assumption) | exact isUnt.ob (by assumption) | exact isSt.ob (by assumption) | exact isHist.ob (by assumption) | exact isTxt.ob (by assumption) | exact isLac.ob (by assumption) | exact isMea.ob (by assumption) | exact hset_s | exact (hset_n (by first | assumption | omega)).trans (by first | assumption | exact isLT.ob (by assumption) | exact isRow.ob (by assumption) | exact isHnd.ob (by assumption) | exact isUnt.ob (by assumption) | exact isSt.ob (by assumption) | exact isHist.ob (by assumption) | exact isTxt.ob (by assumption) | exact isLac.ob (by assumption) | exact isMea.ob (by assumption) | exact hset_s | exact (hset_n (by first | assumption | omega)).trans (by first | assumption | exact isLT.ob (by assumption) | exact isRow.ob (by assumption) | exact isHnd.ob (by assumption) | exact isUnt.ob (by assumption) | exact isSt.ob (by assumption) | exact isHist.ob (by assumption) | exact isTxt.ob (by assumption) | exact isLac.ob (by assumption) | exact isMea.ob (by assumption))))) (by first | assumption | omega) (by omega) ?_
      rw [h3 p (by omega)]
      refine J_callS mf_L_rank lk_L_63 ms_L_rank (sp_L_rank _ (xs.getD p 0) _) dL_undoes_27 (by decide) (by rfl) rfl (Nat.le_of_ble_eq_true rfl) (Nat.zero_add _) (Nat.zero_add _) (fun v27 h27 n27 q27 => ?_)
      obtain ⟨rfl, rfl⟩ := q27
      refine J_istore dL_undoes_30 (by decide) (by rfl) ?_
      refine J_aload_n dL_undoes_32 (by rfl) ?_
      refine J_iload_n dL_undoes_33 (by rfl) ?_
      refine J_ga dL_undoes_34 (by first | assumption | exact isLT.ob (by assumption) | exact isRow.ob (by assumption) | exact isHnd.ob (by assumption) | exact isUnt.ob (by assumption) | exact isSt.ob (by assumption) | exact isHist.ob (by assumption) | exact isTxt.ob (by assumption) | exact isLac.ob (by assumption) | exact isMea.ob (by assumption) | exact hset_s | exact (hset_n (by first | assumption | omega)).trans (by first | assumption | exact isLT.ob (by assumption) | exact isRow.ob (by assumption) | exact isHnd.ob (by assumption) | exact isUnt.ob (by assumption) | exact isSt.ob (by assumption) | exact isHist.ob (by assumption) | exact isTxt.ob (by assumption) | exact isLac.ob (by assumption) | exact isMea.ob (by assumption) | exact hset_s | exact (hset_n (by first | assumption | omega)).trans (by first | assumption | exact isLT.ob (by assumption) | exact isRow.ob (by assumption) | exact isHnd.ob (by assumption) | exact isUnt.ob (by assumption) | exact isSt.ob (by assumption) | exact isHist.ob (by assumption) | exact isTxt.ob (by assumption) | exact isLac.ob (by assumption) | exact isMea.ob (by assumption) | exact hset_s | exact (hset_n (by first | assumption | omega)).trans (by first | assumption | exact isLT.ob (by assumption) | exact isRow.ob (by assumption) | exact isHnd.ob (by assumption) | exact isUnt.ob (by assumption) | exact isSt.ob (by assumption) | exact isHist.ob (by assumption) | exact isTxt.ob (by assumption) | exact isLac.ob (by assumption) | exact isMea.ob (by assumption))))) (by first | assumption | omega) (by omega) ?_
      rw [h3 p (by omega)]
      refine J_iload dL_undoes_35 (by rfl) ?_
      refine J_idiv dL_undoes_37 (rkn0 _ xp.xl) ?_
      rw [rkdv _ xp.xl]
      refine J_istore dL_undoes_38 (by decide) (by rfl) ?_
      refine J_bipush (v := 64) dL_undoes_40 (by decide) ?_
      refine J_newIu (N := 64) (kc' := 0) (kn' := 0) ca_int dL_undoes_42 (by decide) (by decide) (by decide) (by omega) (by omega) (fun q42 hq42 => ?_)
      have hrZ := hq42 r (by rw [h1]; simp)
      refine J_astore dL_undoes_44 (by decide) (by rfl) ?_
      refine J_iconst (v := nI 0) dL_undoes_46 (by decide) ?_
      refine J_istore dL_undoes_47 (by decide) (by rfl) ?_
      refine J_iconst (v := nI 0) dL_undoes_49 (by decide) ?_
      refine J_istore dL_undoes_50 (by decide) (by rfl) ?_
      refine J_iload_n dL_undoes_52 (by rfl) ?_
      refine J_iconst (v := nI 1) dL_undoes_53 (by decide) ?_
      refine J_iadd dL_undoes_54 ?_
      rw [nI_add]
      refine J_istore dL_undoes_55 (by decide) (by rfl) ?_
      exact J_sub (by repeat (first | exact subl_nil | refine subl_cons rfl ?_)) (count (q - (p + 1)) 0 q42 _ _ _ (by omega) hrZ ((hset_n (by omega)).trans h1) hset_s (ky_set (Or.inr (by omega))))
    · exact absurd (nI_pos' (by omega)) c7
