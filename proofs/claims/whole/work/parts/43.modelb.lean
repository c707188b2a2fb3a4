/-! the reference: its other calls -/
section MD
variable {G : GG} {h h' : HP} {y : Nat} {σ : Sg} {xs : List Int32} {t b e hd lg a rc rt sm hs ln rl : Int32} {hh : Int64}
set_option maxRecDepth 20000 in
theorem sp_X10_append (v : isMd G h y σ t hh) (c : Int32) (n : Nat) : Sp G mm_X10_append 1 0 0 [.ref y, .int c] h n (qMp G y h (opAppend c σ)) := by
  refine Sp_of (by decide +kernel) (Nat.le_of_ble_eq_true rfl) ?_
  obtain ⟨xs, b, e, hd, lg, a, rc, rt, w⟩ := v
  obtain ⟨-, -, -, fb, b1, b2, b3⟩ := id w.2.1
  have key : ∀ h9 h2, isMt G h2 y σ xs 0 b e hd lg a rc rt hh → σ.2.2.1.length < 60 → h2 (y + 4) = some (iA G 60 fb) → h9 y = some (mobj y 0 (nI σ.2.1.length) (if σ.2.2.2.isSome then 1 else 0) (nI (σ.2.2.1.length + 1)) a rc rt (nI xs.length) b e hd lg hh) → h9 (y + 4) = some (iA G 60 (upd fb σ.2.2.1.length c)) → (∀ q, q ≠ y → q ≠ y + 4 → h9 q = h2 q) → isMt G h9 y (σ.1, σ.2.1, σ.2.2.1 ++ [c], σ.2.2.2) xs 0 b e hd lg a rc rt hh := by
    intro h9 h2 w2 hl g0 o9 g9 kk
    have e1 : (σ.2.2.1 ++ [c]).length = σ.2.2.1.length + 1 := by rw [List.length_append]; rfl
    obtain ⟨oA, ⟨⟨f1, u1, u2⟩, ⟨f2, u3, u4⟩, ⟨f3, u5, u6⟩, -⟩, ms⟩ := id w2
    refine ⟨by rw [e1]; exact o9, ⟨⟨f1, (kk _ (by omega) (by omega)).trans u1, u2⟩, ⟨f2, (kk _ (by omega) (by omega)).trans u3, u4⟩, ⟨f3, (kk _ (by omega) (by omega)).trans u5, u6⟩, _, g9, by rw [e1]; omega, fun i hi => ?_⟩, ms.keep (fun q _ _ => kk q (by omega) (by omega))⟩
    rw [e1] at hi
    show _ = (σ.2.2.1 ++ [c]).getD i 0
    rw [getD_app]
    by_cases ei : i = σ.2.2.1.length
    · subst ei; rw [upd_s, if_neg (Nat.lt_irrefl _), Nat.sub_self]; rfl
    · rw [upd_n ei, if_pos (by omega)]; exact b3 i (by omega)
  refine J_aload_n dX10_append_0 (by rfl) ?_
  refine J_iconst (v := 0) dX10_append_1 (by decide) ?_
  refine J_thr w fp_X10_41 dX10_append_2 (fun h2 w2 k2 x2 => ?_)
  have b4 := (x2 _ (by omega)).trans b1
  refine J_iload_n dX10_append_5 (by rfl) ?_
  refine J_bipush (v := 33) dX10_append_6 (by decide) ?_
  refine J_bipush (v := 126) dX10_append_8 (by decide) ?_
  refine J_callS mf_X10_within lk_X10_45 ms_X10_within (sp_X10_within _ c 33 126 _) dX10_append_10 (by decide) (by rfl) rfl (Nat.le_of_ble_eq_true rfl) (Nat.zero_add _) (Nat.zero_add _) (fun v10 h10 n10 q10 => ?_)
  obtain ⟨rfl, rfl⟩ := q10
  refine J_if_ne (tgt := 22) dX10_append_13 (by decide) (fun c13 => ?_) (fun c13 => ?_)
  · have c13 := tru c13
    refine J_aload_n dX10_append_22 (by rfl) ?_
    refine J_get fg_X10_131 dX10_append_23 (by first | assumption | exact isLT.ob (by assumption) | exact isMt.ob (by assumption) | exact isRow.ob (by assumption) | exact isHnd.ob (by assumption) | exact isUnt.ob (by assumption) | exact isSt.ob (by assumption) | exact isHist.ob (by assumption) | exact isTxt.ob (by assumption) | exact isLac.ob (by assumption) | exact isMea.ob (by assumption) | exact hset_s | exact (hset_n (by first | assumption | omega)).trans (by first | assumption | exact isLT.ob (by assumption) | exact isMt.ob (by assumption) | exact isRow.ob (by assumption) | exact isHnd.ob (by assumption) | exact isUnt.ob (by assumption) | exact isSt.ob (by assumption) | exact isHist.ob (by assumption) | exact isTxt.ob (by assumption) | exact isLac.ob (by assumption) | exact isMea.ob (by assumption) | exact hset_s | exact (hset_n (by first | assumption | omega)).trans (by first | assumption | exact isLT.ob (by assumption) | exact isMt.ob (by assumption) | exact isRow.ob (by assumption) | exact isHnd.ob (by assumption) | exact isUnt.ob (by assumption) | exact isSt.ob (by assumption) | exact isHist.ob (by assumption) | exact isTxt.ob (by assumption) | exact isLac.ob (by assumption) | exact isMea.ob (by assumption) | exact hset_s | exact (hset_n (by first | assumption | omega)).trans (by first | assumption | exact isLT.ob (by assumption) | exact isMt.ob (by assumption) | exact isRow.ob (by assumption) | exact isHnd.ob (by assumption) | exact isUnt.ob (by assumption) | exact isSt.ob (by assumption) | exact isHist.ob (by assumption) | exact isTxt.ob (by assumption) | exact isLac.ob (by assumption) | exact isMea.ob (by assumption))))) (by rfl) ?_
    refine J_bipush (v := nI 60) dX10_append_26 (by decide) ?_
    refine J_icmp_ne (tgt := 37) dX10_append_28 (by decide) (fun c28 => ?_) (fun c28 => ?_)
    · rw [nI_eq (by omega) (by omega)] at c28
      refine J_aload_n dX10_append_37 (by rfl) ?_
      refine J_get fg_X10_19 dX10_append_38 (by first | assumption | exact isLT.ob (by assumption) | exact isMt.ob (by assumption) | exact isRow.ob (by assumption) | exact isHnd.ob (by assumption) | exact isUnt.ob (by assumption) | exact isSt.ob (by assumption) | exact isHist.ob (by assumption) | exact isTxt.ob (by assumption) | exact isLac.ob (by assumption) | exact isMea.ob (by assumption) | exact hset_s | exact (hset_n (by first | assumption | omega)).trans (by first | assumption | exact isLT.ob (by assumption) | exact isMt.ob (by assumption) | exact isRow.ob (by assumption) | exact isHnd.ob (by assumption) | exact isUnt.ob (by assumption) | exact isSt.ob (by assumption) | exact isHist.ob (by assumption) | exact isTxt.ob (by assumption) | exact isLac.ob (by assumption) | exact isMea.ob (by assumption) | exact hset_s | exact (hset_n (by first | assumption | omega)).trans (by first | assumption | exact isLT.ob (by assumption) | exact isMt.ob (by assumption) | exact isRow.ob (by assumption) | exact isHnd.ob (by assumption) | exact isUnt.ob (by assumption) | exact isSt.ob (by assumption) | exact isHist.ob (by assumption) | exact isTxt.ob (by assumption) | exact isLac.ob (by assumption) | exact isMea.ob (by assumption) | exact hset_s | exact (hset_n (by first | assumption | omega)).trans (by first | assumption | exact isLT.ob (by assumption) | exact isMt.ob (by assumption) | exact isRow.ob (by assumption) | exact isHnd.ob (by assumption) | exact isUnt.ob (by assumption) | exact isSt.ob (by assumption) | exact isHist.ob (by assumption) | exact isTxt.ob (by assumption) | exact isLac.ob (by assumption) | exact isMea.ob (by assumption))))) (by rfl) ?_
      refine J_aload_n dX10_append_41 (by rfl) ?_
      refine J_get fg_X10_131 dX10_append_42 (by first | assumption | exact isLT.ob (by assumption) | exact isMt.ob (by assumption) | exact isRow.ob (by assumption) | exact isHnd.ob (by assumption) | exact isUnt.ob (by assumption) | exact isSt.ob (by assumption) | exact isHist.ob (by assumption) | exact isTxt.ob (by assumption) | exact isLac.ob (by assumption) | exact isMea.ob (by assumption) | exact hset_s | exact (hset_n (by first | assumption | omega)).trans (by first | assumption | exact isLT.ob (by assumption) | exact isMt.ob (by assumption) | exact isRow.ob (by assumption) | exact isHnd.ob (by assumption) | exact isUnt.ob (by assumption) | exact isSt.ob (by assumption) | exact isHist.ob (by assumption) | exact isTxt.ob (by assumption) | exact isLac.ob (by assumption) | exact isMea.ob (by assumption) | exact hset_s | exact (hset_n (by first | assumption | omega)).trans (by first | assumption | exact isLT.ob (by assumption) | exact isMt.ob (by assumption) | exact isRow.ob (by assumption) | exact isHnd.ob (by assumption) | exact isUnt.ob (by assumption) | exact isSt.ob (by assumption) | exact isHist.ob (by assumption) | exact isTxt.ob (by assumption) | exact isLac.ob (by assumption) | exact isMea.ob (by assumption) | exact hset_s | exact (hset_n (by first | assumption | omega)).trans (by first | assumption | exact isLT.ob (by assumption) | exact isMt.ob (by assumption) | exact isRow.ob (by assumption) | exact isHnd.ob (by assumption) | exact isUnt.ob (by assumption) | exact isSt.ob (by assumption) | exact isHist.ob (by assumption) | exact isTxt.ob (by assumption) | exact isLac.ob (by assumption) | exact isMea.ob (by assumption))))) (by rfl) ?_
      refine J_iload_n dX10_append_45 (by rfl) ?_
      refine J_wr dX10_append_46 (by first | assumption | exact isLT.ob (by assumption) | exact isMt.ob (by assumption) | exact isRow.ob (by assumption) | exact isHnd.ob (by assumption) | exact isUnt.ob (by assumption) | exact isSt.ob (by assumption) | exact isHist.ob (by assumption) | exact isTxt.ob (by assumption) | exact isLac.ob (by assumption) | exact isMea.ob (by assumption) | exact hset_s | exact (hset_n (by first | assumption | omega)).trans (by first | assumption | exact isLT.ob (by assumption) | exact isMt.ob (by assumption) | exact isRow.ob (by assumption) | exact isHnd.ob (by assumption) | exact isUnt.ob (by assumption) | exact isSt.ob (by assumption) | exact isHist.ob (by assumption) | exact isTxt.ob (by assumption) | exact isLac.ob (by assumption) | exact isMea.ob (by assumption) | exact hset_s | exact (hset_n (by first | assumption | omega)).trans (by first | assumption | exact isLT.ob (by assumption) | exact isMt.ob (by assumption) | exact isRow.ob (by assumption) | exact isHnd.ob (by assumption) | exact isUnt.ob (by assumption) | exact isSt.ob (by assumption) | exact isHist.ob (by assumption) | exact isTxt.ob (by assumption) | exact isLac.ob (by assumption) | exact isMea.ob (by assumption) | exact hset_s | exact (hset_n (by first | assumption | omega)).trans (by first | assumption | exact isLT.ob (by assumption) | exact isMt.ob (by assumption) | exact isRow.ob (by assumption) | exact isHnd.ob (by assumption) | exact isUnt.ob (by assumption) | exact isSt.ob (by assumption) | exact isHist.ob (by assumption) | exact isTxt.ob (by assumption) | exact isLac.ob (by assumption) | exact isMea.ob (by assumption))))) (by first | assumption | omega) (by decide) ?_
      refine J_aload_n dX10_append_47 (by rfl) ?_
      refine J_dup dX10_append_48 rfl ?_
      refine J_get fg_X10_131 dX10_append_49 (by first | assumption | exact isLT.ob (by assumption) | exact isMt.ob (by assumption) | exact isRow.ob (by assumption) | exact isHnd.ob (by assumption) | exact isUnt.ob (by assumption) | exact isSt.ob (by assumption) | exact isHist.ob (by assumption) | exact isTxt.ob (by assumption) | exact isLac.ob (by assumption) | exact isMea.ob (by assumption) | exact hset_s | exact (hset_n (by first | assumption | omega)).trans (by first | assumption | exact isLT.ob (by assumption) | exact isMt.ob (by assumption) | exact isRow.ob (by assumption) | exact isHnd.ob (by assumption) | exact isUnt.ob (by assumption) | exact isSt.ob (by assumption) | exact isHist.ob (by assumption) | exact isTxt.ob (by assumption) | exact isLac.ob (by assumption) | exact isMea.ob (by assumption) | exact hset_s | exact (hset_n (by first | assumption | omega)).trans (by first | assumption | exact isLT.ob (by assumption) | exact isMt.ob (by assumption) | exact isRow.ob (by assumption) | exact isHnd.ob (by assumption) | exact isUnt.ob (by assumption) | exact isSt.ob (by assumption) | exact isHist.ob (by assumption) | exact isTxt.ob (by assumption) | exact isLac.ob (by assumption) | exact isMea.ob (by assumption) | exact hset_s | exact (hset_n (by first | assumption | omega)).trans (by first | assumption | exact isLT.ob (by assumption) | exact isMt.ob (by assumption) | exact isRow.ob (by assumption) | exact isHnd.ob (by assumption) | exact isUnt.ob (by assumption) | exact isSt.ob (by assumption) | exact isHist.ob (by assumption) | exact isTxt.ob (by assumption) | exact isLac.ob (by assumption) | exact isMea.ob (by assumption))))) (by rfl) ?_
      refine J_iconst (v := 1) dX10_append_52 (by decide) ?_
      refine J_iadd dX10_append_53 ?_
      rw [nI_1]
      refine J_put fp_X10_131 dX10_append_54 (by first | assumption | exact isLT.ob (by assumption) | exact isMt.ob (by assumption) | exact isRow.ob (by assumption) | exact isHnd.ob (by assumption) | exact isUnt.ob (by assumption) | exact isSt.ob (by assumption) | exact isHist.ob (by assumption) | exact isTxt.ob (by assumption) | exact isLac.ob (by assumption) | exact isMea.ob (by assumption) | exact hset_s | exact (hset_n (by first | assumption | omega)).trans (by first | assumption | exact isLT.ob (by assumption) | exact isMt.ob (by assumption) | exact isRow.ob (by assumption) | exact isHnd.ob (by assumption) | exact isUnt.ob (by assumption) | exact isSt.ob (by assumption) | exact isHist.ob (by assumption) | exact isTxt.ob (by assumption) | exact isLac.ob (by assumption) | exact isMea.ob (by assumption) | exact hset_s | exact (hset_n (by first | assumption | omega)).trans (by first | assumption | exact isLT.ob (by assumption) | exact isMt.ob (by assumption) | exact isRow.ob (by assumption) | exact isHnd.ob (by assumption) | exact isUnt.ob (by assumption) | exact isSt.ob (by assumption) | exact isHist.ob (by assumption) | exact isTxt.ob (by assumption) | exact isLac.ob (by assumption) | exact isMea.ob (by assumption) | exact hset_s | exact (hset_n (by first | assumption | omega)).trans (by first | assumption | exact isLT.ob (by assumption) | exact isMt.ob (by assumption) | exact isRow.ob (by assumption) | exact isHnd.ob (by assumption) | exact isUnt.ob (by assumption) | exact isSt.ob (by assumption) | exact isHist.ob (by assumption) | exact isTxt.ob (by assumption) | exact isLac.ob (by assumption) | exact isMea.ob (by assumption))))) (Nat.le_of_ble_eq_true rfl) (by rfl) (by rfl) ?_
      refine J_aload_n dX10_append_57 (by rfl) ?_
      refine J_get fg_X10_131 dX10_append_58 (by first | assumption | exact isLT.ob (by assumption) | exact isMt.ob (by assumption) | exact isRow.ob (by assumption) | exact isHnd.ob (by assumption) | exact isUnt.ob (by assumption) | exact isSt.ob (by assumption) | exact isHist.ob (by assumption) | exact isTxt.ob (by assumption) | exact isLac.ob (by assumption) | exact isMea.ob (by assumption) | exact hset_s | exact (hset_n (by first | assumption | omega)).trans (by first | assumption | exact isLT.ob (by assumption) | exact isMt.ob (by assumption) | exact isRow.ob (by assumption) | exact isHnd.ob (by assumption) | exact isUnt.ob (by assumption) | exact isSt.ob (by assumption) | exact isHist.ob (by assumption) | exact isTxt.ob (by assumption) | exact isLac.ob (by assumption) | exact isMea.ob (by assumption) | exact hset_s | exact (hset_n (by first | assumption | omega)).trans (by first | assumption | exact isLT.ob (by assumption) | exact isMt.ob (by assumption) | exact isRow.ob (by assumption) | exact isHnd.ob (by assumption) | exact isUnt.ob (by assumption) | exact isSt.ob (by assumption) | exact isHist.ob (by assumption) | exact isTxt.ob (by assumption) | exact isLac.ob (by assumption) | exact isMea.ob (by assumption) | exact hset_s | exact (hset_n (by first | assumption | omega)).trans (by first | assumption | exact isLT.ob (by assumption) | exact isMt.ob (by assumption) | exact isRow.ob (by assumption) | exact isHnd.ob (by assumption) | exact isUnt.ob (by assumption) | exact isSt.ob (by assumption) | exact isHist.ob (by assumption) | exact isTxt.ob (by assumption) | exact isLac.ob (by assumption) | exact isMea.ob (by assumption))))) (by rfl) ?_
      exact J_ireturn dX10_append_61 rfl (by rfl) (qMp_of (show opAppend c σ = (0, nI (σ.2.2.1.length + 1), (σ.1, σ.2.1, σ.2.2.1 ++ [c], σ.2.2.2)) from (if_pos c13).trans (if_neg (by omega))) rfl (key _ _ w2 (by omega) b4 hset_s ((hset_n (by omega)).trans hset_s) (fun q d1 d2 => (hset_n d1).trans (hset_n d2))).md (fr_tr k2 (fr_tr (fr_set (by omega) (by omega)) (fr_set (by omega) (by omega)))))
    · rw [nI_eq (by omega) (by omega)] at c28
      refine J_aload_n dX10_append_31 (by rfl) ?_
      refine J_iconst (v := 2) dX10_append_32 (by decide) ?_
      refine J_callV mf_X10_fails lk_X10_52 mi_X10_fails mv_X10_fails (sp_X10_fails w2.1 2 _) dX10_append_33 (by first | assumption | exact isLT.ob (by assumption) | exact isMt.ob (by assumption) | exact isRow.ob (by assumption) | exact isHnd.ob (by assumption) | exact isUnt.ob (by assumption) | exact isSt.ob (by assumption) | exact isHist.ob (by assumption) | exact isTxt.ob (by assumption) | exact isLac.ob (by assumption) | exact isMea.ob (by assumption) | exact hset_s | exact (hset_n (by first | assumption | omega)).trans (by first | assumption | exact isLT.ob (by assumption) | exact isMt.ob (by assumption) | exact isRow.ob (by assumption) | exact isHnd.ob (by assumption) | exact isUnt.ob (by assumption) | exact isSt.ob (by assumption) | exact isHist.ob (by assumption) | exact isTxt.ob (by assumption) | exact isLac.ob (by assumption) | exact isMea.ob (by assumption) | exact hset_s | exact (hset_n (by first | assumption | omega)).trans (by first | assumption | exact isLT.ob (by assumption) | exact isMt.ob (by assumption) | exact isRow.ob (by assumption) | exact isHnd.ob (by assumption) | exact isUnt.ob (by assumption) | exact isSt.ob (by assumption) | exact isHist.ob (by assumption) | exact isTxt.ob (by assumption) | exact isLac.ob (by assumption) | exact isMea.ob (by assumption) | exact hset_s | exact (hset_n (by first | assumption | omega)).trans (by first | assumption | exact isLT.ob (by assumption) | exact isMt.ob (by assumption) | exact isRow.ob (by assumption) | exact isHnd.ob (by assumption) | exact isUnt.ob (by assumption) | exact isSt.ob (by assumption) | exact isHist.ob (by assumption) | exact isTxt.ob (by assumption) | exact isLac.ob (by assumption) | exact isMea.ob (by assumption))))) rfl rfl (by decide) (by rfl) rfl (Nat.le_of_ble_eq_true rfl) (Nat.zero_add _) (Nat.zero_add _) (fun v33 h33 n33 q33 => ?_)
      obtain ⟨rfl, a33, b33⟩ := q33
      exact J_ireturn dX10_append_36 rfl (by rfl) (qMp_of (show opAppend c σ = fl 2 σ from (if_pos c13).trans (if_pos (by omega))) rfl (isMt_put w2 a33 b33).md (fr_tr k2 (fr_mono b33 (by omega) (by omega))))
  · have c13 := fls c13
    refine J_aload_n dX10_append_16 (by rfl) ?_
    refine J_iconst (v := 1) dX10_append_17 (by decide) ?_
    refine J_callV mf_X10_fails lk_X10_52 mi_X10_fails mv_X10_fails (sp_X10_fails w2.1 1 _) dX10_append_18 (by first | assumption | exact isLT.ob (by assumption) | exact isMt.ob (by assumption) | exact isRow.ob (by assumption) | exact isHnd.ob (by assumption) | exact isUnt.ob (by assumption) | exact isSt.ob (by assumption) | exact isHist.ob (by assumption) | exact isTxt.ob (by assumption) | exact isLac.ob (by assumption) | exact isMea.ob (by assumption) | exact hset_s | exact (hset_n (by first | assumption | omega)).trans (by first | assumption | exact isLT.ob (by assumption) | exact isMt.ob (by assumption) | exact isRow.ob (by assumption) | exact isHnd.ob (by assumption) | exact isUnt.ob (by assumption) | exact isSt.ob (by assumption) | exact isHist.ob (by assumption) | exact isTxt.ob (by assumption) | exact isLac.ob (by assumption) | exact isMea.ob (by assumption) | exact hset_s | exact (hset_n (by first | assumption | omega)).trans (by first | assumption | exact isLT.ob (by assumption) | exact isMt.ob (by assumption) | exact isRow.ob (by assumption) | exact isHnd.ob (by assumption) | exact isUnt.ob (by assumption) | exact isSt.ob (by assumption) | exact isHist.ob (by assumption) | exact isTxt.ob (by assumption) | exact isLac.ob (by assumption) | exact isMea.ob (by assumption) | exact hset_s | exact (hset_n (by first | assumption | omega)).trans (by first | assumption | exact isLT.ob (by assumption) | exact isMt.ob (by assumption) | exact isRow.ob (by assumption) | exact isHnd.ob (by assumption) | exact isUnt.ob (by assumption) | exact isSt.ob (by assumption) | exact isHist.ob (by assumption) | exact isTxt.ob (by assumption) | exact isLac.ob (by assumption) | exact isMea.ob (by assumption))))) rfl rfl (by decide) (by rfl) rfl (Nat.le_of_ble_eq_true rfl) (Nat.zero_add _) (Nat.zero_add _) (fun v18 h18 n18 q18 => ?_)
    obtain ⟨rfl, a18, b18⟩ := q18
    exact J_ireturn dX10_append_21 rfl (by rfl) (qMp_of (show opAppend c σ = fl 1 σ from if_neg c13) rfl (isMt_put w2 a18 b18).md (fr_tr k2 (fr_mono b18 (by omega) (by omega))))
set_option maxRecDepth 20000 in
theorem sp_X10_clearBuffer (v : isMd G h y σ t hh) (n : Nat) : Sp G mm_X10_clearBuffer 0 0 0 [.ref y] h n (qMp G y h (opClear σ)) := by
  refine Sp_of (by decide +kernel) (Nat.le_of_ble_eq_true rfl) ?_
  obtain ⟨xs, b, e, hd, lg, a, rc, rt, w⟩ := v
  have key : ∀ h9 h2, isMt G h2 y σ xs 0 b e hd lg a rc rt hh → h9 y = some (mobj y 0 (nI σ.2.1.length) (if σ.2.2.2.isSome then 1 else 0) 0 a rc rt (nI xs.length) b e hd lg hh) → fr y (y + 1) h2 h9 → isMt G h9 y (σ.1, σ.2.1, [], σ.2.2.2) xs 0 b e hd lg a rc rt hh := by
    intro h9 h2 w2 o9 k9
    obtain ⟨oA, ⟨⟨f1, u1, u2⟩, ⟨f2, u3, u4⟩, ⟨f3, u5, u6⟩, f4, u7, u8⟩, ms⟩ := id w2
    exact ⟨o9, ⟨⟨f1, (k9 _ (by omega)).trans u1, u2⟩, ⟨f2, (k9 _ (by omega)).trans u3, u4⟩, ⟨f3, (k9 _ (by omega)).trans u5, u6⟩, f4, (k9 _ (by omega)).trans u7, Nat.zero_le _, fun i hi => absurd hi (Nat.not_lt_zero _)⟩, ms.keep (fun q _ _ => k9 q (by omega))⟩
  refine J_aload_n dX10_clearBuffer_0 (by rfl) ?_
  refine J_iconst (v := 0) dX10_clearBuffer_1 (by decide) ?_
  refine J_thr w fp_X10_41 dX10_clearBuffer_2 (fun h2 w2 k2 x2 => ?_)
  refine J_aload_n dX10_clearBuffer_5 (by rfl) ?_
  refine J_get fg_X10_131 dX10_clearBuffer_6 (by first | assumption | exact isLT.ob (by assumption) | exact isMt.ob (by assumption) | exact isRow.ob (by assumption) | exact isHnd.ob (by assumption) | exact isUnt.ob (by assumption) | exact isSt.ob (by assumption) | exact isHist.ob (by assumption) | exact isTxt.ob (by assumption) | exact isLac.ob (by assumption) | exact isMea.ob (by assumption) | exact hset_s | exact (hset_n (by first | assumption | omega)).trans (by first | assumption | exact isLT.ob (by assumption) | exact isMt.ob (by assumption) | exact isRow.ob (by assumption) | exact isHnd.ob (by assumption) | exact isUnt.ob (by assumption) | exact isSt.ob (by assumption) | exact isHist.ob (by assumption) | exact isTxt.ob (by assumption) | exact isLac.ob (by assumption) | exact isMea.ob (by assumption) | exact hset_s | exact (hset_n (by first | assumption | omega)).trans (by first | assumption | exact isLT.ob (by assumption) | exact isMt.ob (by assumption) | exact isRow.ob (by assumption) | exact isHnd.ob (by assumption) | exact isUnt.ob (by assumption) | exact isSt.ob (by assumption) | exact isHist.ob (by assumption) | exact isTxt.ob (by assumption) | exact isLac.ob (by assumption) | exact isMea.ob (by assumption) | exact hset_s | exact (hset_n (by first | assumption | omega)).trans (by first | assumption | exact isLT.ob (by assumption) | exact isMt.ob (by assumption) | exact isRow.ob (by assumption) | exact isHnd.ob (by assumption) | exact isUnt.ob (by assumption) | exact isSt.ob (by assumption) | exact isHist.ob (by assumption) | exact isTxt.ob (by assumption) | exact isLac.ob (by assumption) | exact isMea.ob (by assumption))))) (by rfl) ?_
  refine J_istore_n dX10_clearBuffer_9 (by decide) (by rfl) ?_
  refine J_aload_n dX10_clearBuffer_10 (by rfl) ?_
  refine J_iconst (v := 0) dX10_clearBuffer_11 (by decide) ?_
  refine J_put fp_X10_131 dX10_clearBuffer_12 (by first | assumption | exact isLT.ob (by assumption) | exact isMt.ob (by assumption) | exact isRow.ob (by assumption) | exact isHnd.ob (by assumption) | exact isUnt.ob (by assumption) | exact isSt.ob (by assumption) | exact isHist.ob (by assumption) | exact isTxt.ob (by assumption) | exact isLac.ob (by assumption) | exact isMea.ob (by assumption) | exact hset_s | exact (hset_n (by first | assumption | omega)).trans (by first | assumption | exact isLT.ob (by assumption) | exact isMt.ob (by assumption) | exact isRow.ob (by assumption) | exact isHnd.ob (by assumption) | exact isUnt.ob (by assumption) | exact isSt.ob (by assumption) | exact isHist.ob (by assumption) | exact isTxt.ob (by assumption) | exact isLac.ob (by assumption) | exact isMea.ob (by assumption) | exact hset_s | exact (hset_n (by first | assumption | omega)).trans (by first | assumption | exact isLT.ob (by assumption) | exact isMt.ob (by assumption) | exact isRow.ob (by assumption) | exact isHnd.ob (by assumption) | exact isUnt.ob (by assumption) | exact isSt.ob (by assumption) | exact isHist.ob (by assumption) | exact isTxt.ob (by assumption) | exact isLac.ob (by assumption) | exact isMea.ob (by assumption) | exact hset_s | exact (hset_n (by first | assumption | omega)).trans (by first | assumption | exact isLT.ob (by assumption) | exact isMt.ob (by assumption) | exact isRow.ob (by assumption) | exact isHnd.ob (by assumption) | exact isUnt.ob (by assumption) | exact isSt.ob (by assumption) | exact isHist.ob (by assumption) | exact isTxt.ob (by assumption) | exact isLac.ob (by assumption) | exact isMea.ob (by assumption))))) (Nat.le_of_ble_eq_true rfl) (by rfl) (by rfl) ?_
  refine J_iload_n dX10_clearBuffer_15 (by rfl) ?_
  exact J_ireturn dX10_clearBuffer_16 rfl (by rfl) (qMp_of (show opClear σ = _ from rfl) rfl (key _ _ w2 hset_s (fr_set (by omega) (by omega))).md (fr_tr k2 (fr_set (by omega) (by omega))))
set_option maxRecDepth 20000 in
theorem sp_X10_crossing (v : isMd G h y σ t hh) (k : Int32) (n : Nat) : Sp G mm_X10_crossing 1 0 0 [.ref y, .int k] h n (qMp G y h (opCrossing k σ)) := by
  refine Sp_of (by decide +kernel) (Nat.le_of_ble_eq_true rfl) ?_
  obtain ⟨xs, b, e, hd, lg, a, rc, rt, w⟩ := v
  refine J_aload_n dX10_crossing_0 (by rfl) ?_
  refine J_iconst (v := 0) dX10_crossing_1 (by decide) ?_
  refine J_thr w fp_X10_41 dX10_crossing_2 (fun h2 w2 k2 x2 => ?_)
  refine J_iload_n dX10_crossing_5 (by rfl) ?_
  refine J_if_ge (tgt := 15) dX10_crossing_6 (by decide) (fun c6 => ?_) (fun c6 => ?_)
  · obtain ⟨⟨f9, p1, q1, q2, q3, q4⟩, p9⟩ := id w2.2.1
    obtain ⟨z2, hk, rfl⟩ := i_ge0 c6
    refine J_iload_n dX10_crossing_15 (by rfl) ?_
    refine J_aload_n dX10_crossing_16 (by rfl) ?_
    refine J_get fg_X10_7 dX10_crossing_17 (by first | assumption | exact isLT.ob (by assumption) | exact isMt.ob (by assumption) | exact isRow.ob (by assumption) | exact isHnd.ob (by assumption) | exact isUnt.ob (by assumption) | exact isSt.ob (by assumption) | exact isHist.ob (by assumption) | exact isTxt.ob (by assumption) | exact isLac.ob (by assumption) | exact isMea.ob (by assumption) | exact hset_s | exact (hset_n (by first | assumption | omega)).trans (by first | assumption | exact isLT.ob (by assumption) | exact isMt.ob (by assumption) | exact isRow.ob (by assumption) | exact isHnd.ob (by assumption) | exact isUnt.ob (by assumption) | exact isSt.ob (by assumption) | exact isHist.ob (by assumption) | exact isTxt.ob (by assumption) | exact isLac.ob (by assumption) | exact isMea.ob (by assumption) | exact hset_s | exact (hset_n (by first | assumption | omega)).trans (by first | assumption | exact isLT.ob (by assumption) | exact isMt.ob (by assumption) | exact isRow.ob (by assumption) | exact isHnd.ob (by assumption) | exact isUnt.ob (by assumption) | exact isSt.ob (by assumption) | exact isHist.ob (by assumption) | exact isTxt.ob (by assumption) | exact isLac.ob (by assumption) | exact isMea.ob (by assumption) | exact hset_s | exact (hset_n (by first | assumption | omega)).trans (by first | assumption | exact isLT.ob (by assumption) | exact isMt.ob (by assumption) | exact isRow.ob (by assumption) | exact isHnd.ob (by assumption) | exact isUnt.ob (by assumption) | exact isSt.ob (by assumption) | exact isHist.ob (by assumption) | exact isTxt.ob (by assumption) | exact isLac.ob (by assumption) | exact isMea.ob (by assumption))))) (by rfl) ?_
    refine J_iconst (v := nI 0) dX10_crossing_20 (by decide) ?_
    refine J_rd dX10_crossing_21 (by first | assumption | exact isLT.ob (by assumption) | exact isMt.ob (by assumption) | exact isRow.ob (by assumption) | exact isHnd.ob (by assumption) | exact isUnt.ob (by assumption) | exact isSt.ob (by assumption) | exact isHist.ob (by assumption) | exact isTxt.ob (by assumption) | exact isLac.ob (by assumption) | exact isMea.ob (by assumption) | exact hset_s | exact (hset_n (by first | assumption | omega)).trans (by first | assumption | exact isLT.ob (by assumption) | exact isMt.ob (by assumption) | exact isRow.ob (by assumption) | exact isHnd.ob (by assumption) | exact isUnt.ob (by assumption) | exact isSt.ob (by assumption) | exact isHist.ob (by assumption) | exact isTxt.ob (by assumption) | exact isLac.ob (by assumption) | exact isMea.ob (by assumption) | exact hset_s | exact (hset_n (by first | assumption | omega)).trans (by first | assumption | exact isLT.ob (by assumption) | exact isMt.ob (by assumption) | exact isRow.ob (by assumption) | exact isHnd.ob (by assumption) | exact isUnt.ob (by assumption) | exact isSt.ob (by assumption) | exact isHist.ob (by assumption) | exact isTxt.ob (by assumption) | exact isLac.ob (by assumption) | exact isMea.ob (by assumption) | exact hset_s | exact (hset_n (by first | assumption | omega)).trans (by first | assumption | exact isLT.ob (by assumption) | exact isMt.ob (by assumption) | exact isRow.ob (by assumption) | exact isHnd.ob (by assumption) | exact isUnt.ob (by assumption) | exact isSt.ob (by assumption) | exact isHist.ob (by assumption) | exact isTxt.ob (by assumption) | exact isLac.ob (by assumption) | exact isMea.ob (by assumption))))) (by first | assumption | omega) (by decide) q2 ?_
    refine J_icmp_ge (tgt := 36) dX10_crossing_22 (by decide) (fun c22 => ?_) (fun c22 => ?_)
    · rw [nI_leI (by omega) (by omega)] at c22
      refine J_iconst (v := (-1)) dX10_crossing_36 (by decide) ?_
      exact J_ireturn dX10_crossing_37 rfl (by rfl) (qMp_of (show opCrossing (nI z2) σ = (0, cON σ.1.1 z2, σ) by unfold opCrossing; rw [if_pos c6, nI_clamp hk]) (by first | rw [cON, if_neg (by omega)] | rw [cON, if_pos (by omega)]) w2.md k2)
    · rw [nI_leI (by omega) (by omega)] at c22
      refine J_aload_n dX10_crossing_25 (by rfl) ?_
      refine J_iload_n dX10_crossing_26 (by rfl) ?_
      refine J_callV mf_X10_of lk_X10_62 mi_X10_of mv_X10_of (sp_X10_of w2.1 p1 (k := z2) (by omega) _) dX10_crossing_27 (by first | assumption | exact isLT.ob (by assumption) | exact isMt.ob (by assumption) | exact isRow.ob (by assumption) | exact isHnd.ob (by assumption) | exact isUnt.ob (by assumption) | exact isSt.ob (by assumption) | exact isHist.ob (by assumption) | exact isTxt.ob (by assumption) | exact isLac.ob (by assumption) | exact isMea.ob (by assumption) | exact hset_s | exact (hset_n (by first | assumption | omega)).trans (by first | assumption | exact isLT.ob (by assumption) | exact isMt.ob (by assumption) | exact isRow.ob (by assumption) | exact isHnd.ob (by assumption) | exact isUnt.ob (by assumption) | exact isSt.ob (by assumption) | exact isHist.ob (by assumption) | exact isTxt.ob (by assumption) | exact isLac.ob (by assumption) | exact isMea.ob (by assumption) | exact hset_s | exact (hset_n (by first | assumption | omega)).trans (by first | assumption | exact isLT.ob (by assumption) | exact isMt.ob (by assumption) | exact isRow.ob (by assumption) | exact isHnd.ob (by assumption) | exact isUnt.ob (by assumption) | exact isSt.ob (by assumption) | exact isHist.ob (by assumption) | exact isTxt.ob (by assumption) | exact isLac.ob (by assumption) | exact isMea.ob (by assumption) | exact hset_s | exact (hset_n (by first | assumption | omega)).trans (by first | assumption | exact isLT.ob (by assumption) | exact isMt.ob (by assumption) | exact isRow.ob (by assumption) | exact isHnd.ob (by assumption) | exact isUnt.ob (by assumption) | exact isSt.ob (by assumption) | exact isHist.ob (by assumption) | exact isTxt.ob (by assumption) | exact isLac.ob (by assumption) | exact isMea.ob (by assumption))))) rfl rfl (by decide) (by rfl) rfl (Nat.le_of_ble_eq_true rfl) (Nat.zero_add _) (Nat.zero_add _) (fun v27 h27 n27 q27 => ?_)
      obtain ⟨rfl, rfl⟩ := q27
      rw [q4 z2 (by omega)]
      refine J_bipush (v := 10) dX10_crossing_30 (by decide) ?_
      refine J_iadd dX10_crossing_32 ?_
      refine J_goto (tgt := 37) dX10_crossing_33 (by decide) ?_
      exact J_ireturn dX10_crossing_37 rfl (by rfl) (qMp_of (show opCrossing (nI z2) σ = (0, cON σ.1.1 z2, σ) by unfold opCrossing; rw [if_pos c6, nI_clamp hk]) (by first | rw [cON, if_neg (by omega)] | rw [cON, if_pos (by omega)]) w2.md k2)
  · refine J_aload_n dX10_crossing_9 (by rfl) ?_
    refine J_iconst (v := 1) dX10_crossing_10 (by decide) ?_
    refine J_callV mf_X10_fails lk_X10_52 mi_X10_fails mv_X10_fails (sp_X10_fails w2.1 1 _) dX10_crossing_11 (by first | assumption | exact isLT.ob (by assumption) | exact isMt.ob (by assumption) | exact isRow.ob (by assumption) | exact isHnd.ob (by assumption) | exact isUnt.ob (by assumption) | exact isSt.ob (by assumption) | exact isHist.ob (by assumption) | exact isTxt.ob (by assumption) | exact isLac.ob (by assumption) | exact isMea.ob (by assumption) | exact hset_s | exact (hset_n (by first | assumption | omega)).trans (by first | assumption | exact isLT.ob (by assumption) | exact isMt.ob (by assumption) | exact isRow.ob (by assumption) | exact isHnd.ob (by assumption) | exact isUnt.ob (by assumption) | exact isSt.ob (by assumption) | exact isHist.ob (by assumption) | exact isTxt.ob (by assumption) | exact isLac.ob (by assumption) | exact isMea.ob (by assumption) | exact hset_s | exact (hset_n (by first | assumption | omega)).trans (by first | assumption | exact isLT.ob (by assumption) | exact isMt.ob (by assumption) | exact isRow.ob (by assumption) | exact isHnd.ob (by assumption) | exact isUnt.ob (by assumption) | exact isSt.ob (by assumption) | exact isHist.ob (by assumption) | exact isTxt.ob (by assumption) | exact isLac.ob (by assumption) | exact isMea.ob (by assumption) | exact hset_s | exact (hset_n (by first | assumption | omega)).trans (by first | assumption | exact isLT.ob (by assumption) | exact isMt.ob (by assumption) | exact isRow.ob (by assumption) | exact isHnd.ob (by assumption) | exact isUnt.ob (by assumption) | exact isSt.ob (by assumption) | exact isHist.ob (by assumption) | exact isTxt.ob (by assumption) | exact isLac.ob (by assumption) | exact isMea.ob (by assumption))))) rfl rfl (by decide) (by rfl) rfl (Nat.le_of_ble_eq_true rfl) (Nat.zero_add _) (Nat.zero_add _) (fun v11 h11 n11 q11 => ?_)
    obtain ⟨rfl, a11, b11⟩ := q11
    exact J_ireturn dX10_crossing_14 rfl (by rfl) (qMp_of (show opCrossing k σ = fl 1 σ from if_neg c6) rfl (isMt_put w2 a11 b11).md (fr_tr k2 (fr_mono b11 (by omega) (by omega))))
set_option maxRecDepth 20000 in
theorem sp_X10_lies (v : isMd G h y σ t hh) (o : okS σ) (k p : Int32) (n : Nat) : Sp G mm_X10_lies 3 0 0 [.ref y, .int k, .int p] h n (qMp G y h (opLies k p σ)) := by
  refine Sp_of (by decide +kernel) (Nat.le_of_ble_eq_true rfl) ?_
  obtain ⟨xs, b, e, hd, lg, a, rc, rt, w⟩ := v
  refine J_aload_n dX10_lies_0 (by rfl) ?_
  refine J_iconst (v := 0) dX10_lies_1 (by decide) ?_
  refine J_thr w fp_X10_41 dX10_lies_2 (fun h2 w2 k2 x2 => ?_)
  obtain ⟨⟨f9, p1, q1, q2, q3, q4⟩, p9⟩ := id w2.2.1
  refine J_iload_n dX10_lies_5 (by rfl) ?_
  refine J_iconst (v := 0) dX10_lies_6 (by decide) ?_
  refine J_iconst (v := 3) dX10_lies_7 (by decide) ?_
  refine J_callS mf_X10_within lk_X10_45 ms_X10_within (sp_X10_within _ p 0 3 _) dX10_lies_8 (by decide) (by rfl) rfl (Nat.le_of_ble_eq_true rfl) (Nat.zero_add _) (Nat.zero_add _) (fun v8 h8 n8 q8 => ?_)
  obtain ⟨rfl, rfl⟩ := q8
  refine J_if_ne (tgt := 20) dX10_lies_11 (by decide) (fun c11 => ?_) (fun c11 => ?_)
  · have c11 := tru c11
    rw [i_34] at c11
    refine J_iload_n dX10_lies_20 (by rfl) ?_
    refine J_iconst (v := 0) dX10_lies_21 (by decide) ?_
    refine J_aload_n dX10_lies_22 (by rfl) ?_
    refine J_get fg_X10_7 dX10_lies_23 (by first | assumption | exact isLT.ob (by assumption) | exact isMt.ob (by assumption) | exact isRow.ob (by assumption) | exact isHnd.ob (by assumption) | exact isUnt.ob (by assumption) | exact isSt.ob (by assumption) | exact isHist.ob (by assumption) | exact isTxt.ob (by assumption) | exact isLac.ob (by assumption) | exact isMea.ob (by assumption) | exact hset_s | exact (hset_n (by first | assumption | omega)).trans (by first | assumption | exact isLT.ob (by assumption) | exact isMt.ob (by assumption) | exact isRow.ob (by assumption) | exact isHnd.ob (by assumption) | exact isUnt.ob (by assumption) | exact isSt.ob (by assumption) | exact isHist.ob (by assumption) | exact isTxt.ob (by assumption) | exact isLac.ob (by assumption) | exact isMea.ob (by assumption) | exact hset_s | exact (hset_n (by first | assumption | omega)).trans (by first | assumption | exact isLT.ob (by assumption) | exact isMt.ob (by assumption) | exact isRow.ob (by assumption) | exact isHnd.ob (by assumption) | exact isUnt.ob (by assumption) | exact isSt.ob (by assumption) | exact isHist.ob (by assumption) | exact isTxt.ob (by assumption) | exact isLac.ob (by assumption) | exact isMea.ob (by assumption) | exact hset_s | exact (hset_n (by first | assumption | omega)).trans (by first | assumption | exact isLT.ob (by assumption) | exact isMt.ob (by assumption) | exact isRow.ob (by assumption) | exact isHnd.ob (by assumption) | exact isUnt.ob (by assumption) | exact isSt.ob (by assumption) | exact isHist.ob (by assumption) | exact isTxt.ob (by assumption) | exact isLac.ob (by assumption) | exact isMea.ob (by assumption))))) (by rfl) ?_
    refine J_iconst (v := nI 0) dX10_lies_26 (by decide) ?_
    refine J_rd dX10_lies_27 (by first | assumption | exact isLT.ob (by assumption) | exact isMt.ob (by assumption) | exact isRow.ob (by assumption) | exact isHnd.ob (by assumption) | exact isUnt.ob (by assumption) | exact isSt.ob (by assumption) | exact isHist.ob (by assumption) | exact isTxt.ob (by assumption) | exact isLac.ob (by assumption) | exact isMea.ob (by assumption) | exact hset_s | exact (hset_n (by first | assumption | omega)).trans (by first | assumption | exact isLT.ob (by assumption) | exact isMt.ob (by assumption) | exact isRow.ob (by assumption) | exact isHnd.ob (by assumption) | exact isUnt.ob (by assumption) | exact isSt.ob (by assumption) | exact isHist.ob (by assumption) | exact isTxt.ob (by assumption) | exact isLac.ob (by assumption) | exact isMea.ob (by assumption) | exact hset_s | exact (hset_n (by first | assumption | omega)).trans (by first | assumption | exact isLT.ob (by assumption) | exact isMt.ob (by assumption) | exact isRow.ob (by assumption) | exact isHnd.ob (by assumption) | exact isUnt.ob (by assumption) | exact isSt.ob (by assumption) | exact isHist.ob (by assumption) | exact isTxt.ob (by assumption) | exact isLac.ob (by assumption) | exact isMea.ob (by assumption) | exact hset_s | exact (hset_n (by first | assumption | omega)).trans (by first | assumption | exact isLT.ob (by assumption) | exact isMt.ob (by assumption) | exact isRow.ob (by assumption) | exact isHnd.ob (by assumption) | exact isUnt.ob (by assumption) | exact isSt.ob (by assumption) | exact isHist.ob (by assumption) | exact isTxt.ob (by assumption) | exact isLac.ob (by assumption) | exact isMea.ob (by assumption))))) (by first | assumption | omega) (by decide) q2 ?_
    refine J_callS mf_X10_within lk_X10_45 ms_X10_within (sp_X10_within _ k 0 (nI σ.1.1.length) _) dX10_lies_28 (by decide) (by rfl) rfl (Nat.le_of_ble_eq_true rfl) (Nat.zero_add _) (Nat.zero_add _) (fun v28 h28 n28 q28 => ?_)
    obtain ⟨rfl, rfl⟩ := q28
    refine J_if_eq (tgt := 43) dX10_lies_31 (by decide) (fun c31 => ?_) (fun c31 => ?_)
    · have c31 := fls c31
      refine J_aload_n dX10_lies_43 (by rfl) ?_
      refine J_iconst (v := 2) dX10_lies_44 (by decide) ?_
      refine J_callV mf_X10_fails lk_X10_52 mi_X10_fails mv_X10_fails (sp_X10_fails w2.1 2 _) dX10_lies_45 (by first | assumption | exact isLT.ob (by assumption) | exact isMt.ob (by assumption) | exact isRow.ob (by assumption) | exact isHnd.ob (by assumption) | exact isUnt.ob (by assumption) | exact isSt.ob (by assumption) | exact isHist.ob (by assumption) | exact isTxt.ob (by assumption) | exact isLac.ob (by assumption) | exact isMea.ob (by assumption) | exact hset_s | exact (hset_n (by first | assumption | omega)).trans (by first | assumption | exact isLT.ob (by assumption) | exact isMt.ob (by assumption) | exact isRow.ob (by assumption) | exact isHnd.ob (by assumption) | exact isUnt.ob (by assumption) | exact isSt.ob (by assumption) | exact isHist.ob (by assumption) | exact isTxt.ob (by assumption) | exact isLac.ob (by assumption) | exact isMea.ob (by assumption) | exact hset_s | exact (hset_n (by first | assumption | omega)).trans (by first | assumption | exact isLT.ob (by assumption) | exact isMt.ob (by assumption) | exact isRow.ob (by assumption) | exact isHnd.ob (by assumption) | exact isUnt.ob (by assumption) | exact isSt.ob (by assumption) | exact isHist.ob (by assumption) | exact isTxt.ob (by assumption) | exact isLac.ob (by assumption) | exact isMea.ob (by assumption) | exact hset_s | exact (hset_n (by first | assumption | omega)).trans (by first | assumption | exact isLT.ob (by assumption) | exact isMt.ob (by assumption) | exact isRow.ob (by assumption) | exact isHnd.ob (by assumption) | exact isUnt.ob (by assumption) | exact isSt.ob (by assumption) | exact isHist.ob (by assumption) | exact isTxt.ob (by assumption) | exact isLac.ob (by assumption) | exact isMea.ob (by assumption))))) rfl rfl (by decide) (by rfl) rfl (Nat.le_of_ble_eq_true rfl) (Nat.zero_add _) (Nat.zero_add _) (fun v45 h45 n45 q45 => ?_)
      obtain ⟨rfl, a45, b45⟩ := q45
      exact J_ireturn dX10_lies_48 rfl (by rfl) (by first | exact qMp_of (show opLies (nI z2) (nI p2) σ = (0, nI ((lac σ.1.1 z2).1 p2), σ) by unfold opLies; rw [if_pos c11, if_pos c31, nI_clamp (n := z2) (by omega), nI_clamp (n := p2) (by omega)]) rfl u37.md (fr_tr k2 j37) | exact qMp_of (show opLies k p σ = fl 2 σ from (if_pos c11).trans (if_neg c31)) rfl (isMt_put w2 a45 b45).md (fr_tr k2 (fr_mono b45 (by omega) (by omega))))
    · have c31 := tru c31
      obtain ⟨p2, hp, rfl⟩ := i_lt4 c11
      obtain ⟨z2, hz, rfl⟩ := i_ge0 c31.1
      have e31 := (nI_leI (by omega) (by omega)).mp c31.2
      refine J_aload_n dX10_lies_34 (by rfl) ?_
      refine J_iload_n dX10_lies_35 (by rfl) ?_
      refine J_iload_n dX10_lies_36 (by rfl) ?_
      refine J_callV mf_X10_laceAt lk_X10_155 mi_X10_laceAt mv_X10_laceAt (sp_X10_laceAt w2 o e31 hp _) dX10_lies_37 (by first | assumption | exact isLT.ob (by assumption) | exact isMt.ob (by assumption) | exact isRow.ob (by assumption) | exact isHnd.ob (by assumption) | exact isUnt.ob (by assumption) | exact isSt.ob (by assumption) | exact isHist.ob (by assumption) | exact isTxt.ob (by assumption) | exact isLac.ob (by assumption) | exact isMea.ob (by assumption) | exact hset_s | exact (hset_n (by first | assumption | omega)).trans (by first | assumption | exact isLT.ob (by assumption) | exact isMt.ob (by assumption) | exact isRow.ob (by assumption) | exact isHnd.ob (by assumption) | exact isUnt.ob (by assumption) | exact isSt.ob (by assumption) | exact isHist.ob (by assumption) | exact isTxt.ob (by assumption) | exact isLac.ob (by assumption) | exact isMea.ob (by assumption) | exact hset_s | exact (hset_n (by first | assumption | omega)).trans (by first | assumption | exact isLT.ob (by assumption) | exact isMt.ob (by assumption) | exact isRow.ob (by assumption) | exact isHnd.ob (by assumption) | exact isUnt.ob (by assumption) | exact isSt.ob (by assumption) | exact isHist.ob (by assumption) | exact isTxt.ob (by assumption) | exact isLac.ob (by assumption) | exact isMea.ob (by assumption) | exact hset_s | exact (hset_n (by first | assumption | omega)).trans (by first | assumption | exact isLT.ob (by assumption) | exact isMt.ob (by assumption) | exact isRow.ob (by assumption) | exact isHnd.ob (by assumption) | exact isUnt.ob (by assumption) | exact isSt.ob (by assumption) | exact isHist.ob (by assumption) | exact isTxt.ob (by assumption) | exact isLac.ob (by assumption) | exact isMea.ob (by assumption))))) rfl rfl (by decide) (by rfl) rfl (Nat.le_of_ble_eq_true rfl) (Nat.zero_add _) (Nat.zero_add _) (fun v37 h37 n37 q37 => ?_)
      obtain ⟨rfl, u37, j37⟩ := q37
      refine J_goto (tgt := 48) dX10_lies_40 (by decide) ?_
      exact J_ireturn dX10_lies_48 rfl (by rfl) (by first | exact qMp_of (show opLies (nI z2) (nI p2) σ = (0, nI ((lac σ.1.1 z2).1 p2), σ) by unfold opLies; rw [if_pos c11, if_pos c31, nI_clamp (n := z2) (by omega), nI_clamp (n := p2) (by omega)]) rfl u37.md (fr_tr k2 j37) | exact qMp_of (show opLies k p σ = fl 2 σ from (if_pos c11).trans (if_neg c31)) rfl (isMt_put w2 a45 b45).md (fr_tr k2 (fr_mono b45 (by omega) (by omega))))
  · have c11 := fls c11
    rw [i_34] at c11
    refine J_aload_n dX10_lies_14 (by rfl) ?_
    refine J_iconst (v := 1) dX10_lies_15 (by decide) ?_
    refine J_callV mf_X10_fails lk_X10_52 mi_X10_fails mv_X10_fails (sp_X10_fails w2.1 1 _) dX10_lies_16 (by first | assumption | exact isLT.ob (by assumption) | exact isMt.ob (by assumption) | exact isRow.ob (by assumption) | exact isHnd.ob (by assumption) | exact isUnt.ob (by assumption) | exact isSt.ob (by assumption) | exact isHist.ob (by assumption) | exact isTxt.ob (by assumption) | exact isLac.ob (by assumption) | exact isMea.ob (by assumption) | exact hset_s | exact (hset_n (by first | assumption | omega)).trans (by first | assumption | exact isLT.ob (by assumption) | exact isMt.ob (by assumption) | exact isRow.ob (by assumption) | exact isHnd.ob (by assumption) | exact isUnt.ob (by assumption) | exact isSt.ob (by assumption) | exact isHist.ob (by assumption) | exact isTxt.ob (by assumption) | exact isLac.ob (by assumption) | exact isMea.ob (by assumption) | exact hset_s | exact (hset_n (by first | assumption | omega)).trans (by first | assumption | exact isLT.ob (by assumption) | exact isMt.ob (by assumption) | exact isRow.ob (by assumption) | exact isHnd.ob (by assumption) | exact isUnt.ob (by assumption) | exact isSt.ob (by assumption) | exact isHist.ob (by assumption) | exact isTxt.ob (by assumption) | exact isLac.ob (by assumption) | exact isMea.ob (by assumption) | exact hset_s | exact (hset_n (by first | assumption | omega)).trans (by first | assumption | exact isLT.ob (by assumption) | exact isMt.ob (by assumption) | exact isRow.ob (by assumption) | exact isHnd.ob (by assumption) | exact isUnt.ob (by assumption) | exact isSt.ob (by assumption) | exact isHist.ob (by assumption) | exact isTxt.ob (by assumption) | exact isLac.ob (by assumption) | exact isMea.ob (by assumption))))) rfl rfl (by decide) (by rfl) rfl (Nat.le_of_ble_eq_true rfl) (Nat.zero_add _) (Nat.zero_add _) (fun v16 h16 n16 q16 => ?_)
    obtain ⟨rfl, a16, b16⟩ := q16
    exact J_ireturn dX10_lies_19 rfl (by rfl) (qMp_of (show opLies k p σ = fl 1 σ from if_neg c11) rfl (isMt_put w2 a16 b16).md (fr_tr k2 (fr_mono b16 (by omega) (by omega))))
set_option maxRecDepth 20000 in
theorem sp_X10_winding (v : isMd G h y σ t hh) (o : okS σ) (k p : Int32) (n : Nat) : Sp G mm_X10_winding 3 0 0 [.ref y, .int k, .int p] h n (qMp G y h (opWinding k p σ)) := by
  refine Sp_of (by decide +kernel) (Nat.le_of_ble_eq_true rfl) ?_
  obtain ⟨xs, b, e, hd, lg, a, rc, rt, w⟩ := v
  refine J_aload_n dX10_winding_0 (by rfl) ?_
  refine J_iconst (v := 0) dX10_winding_1 (by decide) ?_
  refine J_thr w fp_X10_41 dX10_winding_2 (fun h2 w2 k2 x2 => ?_)
  refine J_iload_n dX10_winding_5 (by rfl) ?_
  refine J_iconst (v := 0) dX10_winding_6 (by decide) ?_
  refine J_iconst (v := 3) dX10_winding_7 (by decide) ?_
  refine J_callS mf_X10_within lk_X10_45 ms_X10_within (sp_X10_within _ k 0 3 _) dX10_winding_8 (by decide) (by rfl) rfl (Nat.le_of_ble_eq_true rfl) (Nat.zero_add _) (Nat.zero_add _) (fun v8 h8 n8 q8 => ?_)
  obtain ⟨rfl, rfl⟩ := q8
  refine J_if_eq (tgt := 32) dX10_winding_11 (by decide) (fun c11 => ?_) (fun c11 => ?_)
  · have c11 := fls c11
    rw [i_34] at c11
    refine J_aload_n dX10_winding_32 (by rfl) ?_
    refine J_iconst (v := 1) dX10_winding_33 (by decide) ?_
    refine J_callV mf_X10_fails lk_X10_52 mi_X10_fails mv_X10_fails (sp_X10_fails w2.1 1 _) dX10_winding_34 (by first | assumption | exact isLT.ob (by assumption) | exact isMt.ob (by assumption) | exact isRow.ob (by assumption) | exact isHnd.ob (by assumption) | exact isUnt.ob (by assumption) | exact isSt.ob (by assumption) | exact isHist.ob (by assumption) | exact isTxt.ob (by assumption) | exact isLac.ob (by assumption) | exact isMea.ob (by assumption) | exact hset_s | exact (hset_n (by first | assumption | omega)).trans (by first | assumption | exact isLT.ob (by assumption) | exact isMt.ob (by assumption) | exact isRow.ob (by assumption) | exact isHnd.ob (by assumption) | exact isUnt.ob (by assumption) | exact isSt.ob (by assumption) | exact isHist.ob (by assumption) | exact isTxt.ob (by assumption) | exact isLac.ob (by assumption) | exact isMea.ob (by assumption) | exact hset_s | exact (hset_n (by first | assumption | omega)).trans (by first | assumption | exact isLT.ob (by assumption) | exact isMt.ob (by assumption) | exact isRow.ob (by assumption) | exact isHnd.ob (by assumption) | exact isUnt.ob (by assumption) | exact isSt.ob (by assumption) | exact isHist.ob (by assumption) | exact isTxt.ob (by assumption) | exact isLac.ob (by assumption) | exact isMea.ob (by assumption) | exact hset_s | exact (hset_n (by first | assumption | omega)).trans (by first | assumption | exact isLT.ob (by assumption) | exact isMt.ob (by assumption) | exact isRow.ob (by assumption) | exact isHnd.ob (by assumption) | exact isUnt.ob (by assumption) | exact isSt.ob (by assumption) | exact isHist.ob (by assumption) | exact isTxt.ob (by assumption) | exact isLac.ob (by assumption) | exact isMea.ob (by assumption))))) rfl rfl (by decide) (by rfl) rfl (Nat.le_of_ble_eq_true rfl) (Nat.zero_add _) (Nat.zero_add _) (fun v34 h34 n34 q34 => ?_)
    obtain ⟨rfl, a34, b34⟩ := q34
    exact J_ireturn dX10_winding_37 rfl (by rfl) (by first | exact qMp_of (show opWinding (nI p2) (nI z2) σ = (0, (lac σ.1.1 σ.1.1.length).2 (p2 * 4 + z2) + 100, σ) by unfold opWinding; rw [if_pos ⟨c11, c20⟩, nI_clamp (n := z2) (by omega), nI_clamp (n := p2) (by omega)]) rfl u26.md (fr_tr k2 j26) | exact qMp_of (show opWinding k p σ = fl 1 σ from if_neg (no1 c11)) rfl (isMt_put w2 a34 b34).md (fr_tr k2 (fr_mono b34 (by omega) (by omega))) | exact qMp_of (show opWinding k p σ = fl 1 σ from if_neg (no2 c20)) rfl (isMt_put w2 a34 b34).md (fr_tr k2 (fr_mono b34 (by omega) (by omega))))
  · have c11 := tru c11
    rw [i_34] at c11
    refine J_iload_n dX10_winding_14 (by rfl) ?_
    refine J_iconst (v := 0) dX10_winding_15 (by decide) ?_
    refine J_iconst (v := 3) dX10_winding_16 (by decide) ?_
    refine J_callS mf_X10_within lk_X10_45 ms_X10_within (sp_X10_within _ p 0 3 _) dX10_winding_17 (by decide) (by rfl) rfl (Nat.le_of_ble_eq_true rfl) (Nat.zero_add _) (Nat.zero_add _) (fun v17 h17 n17 q17 => ?_)
    obtain ⟨rfl, rfl⟩ := q17
    refine J_if_eq (tgt := 32) dX10_winding_20 (by decide) (fun c20 => ?_) (fun c20 => ?_)
    · have c20 := fls c20
      rw [i_34] at c20
      refine J_aload_n dX10_winding_32 (by rfl) ?_
      refine J_iconst (v := 1) dX10_winding_33 (by decide) ?_
      refine J_callV mf_X10_fails lk_X10_52 mi_X10_fails mv_X10_fails (sp_X10_fails w2.1 1 _) dX10_winding_34 (by first | assumption | exact isLT.ob (by assumption) | exact isMt.ob (by assumption) | exact isRow.ob (by assumption) | exact isHnd.ob (by assumption) | exact isUnt.ob (by assumption) | exact isSt.ob (by assumption) | exact isHist.ob (by assumption) | exact isTxt.ob (by assumption) | exact isLac.ob (by assumption) | exact isMea.ob (by assumption) | exact hset_s | exact (hset_n (by first | assumption | omega)).trans (by first | assumption | exact isLT.ob (by assumption) | exact isMt.ob (by assumption) | exact isRow.ob (by assumption) | exact isHnd.ob (by assumption) | exact isUnt.ob (by assumption) | exact isSt.ob (by assumption) | exact isHist.ob (by assumption) | exact isTxt.ob (by assumption) | exact isLac.ob (by assumption) | exact isMea.ob (by assumption) | exact hset_s | exact (hset_n (by first | assumption | omega)).trans (by first | assumption | exact isLT.ob (by assumption) | exact isMt.ob (by assumption) | exact isRow.ob (by assumption) | exact isHnd.ob (by assumption) | exact isUnt.ob (by assumption) | exact isSt.ob (by assumption) | exact isHist.ob (by assumption) | exact isTxt.ob (by assumption) | exact isLac.ob (by assumption) | exact isMea.ob (by assumption) | exact hset_s | exact (hset_n (by first | assumption | omega)).trans (by first | assumption | exact isLT.ob (by assumption) | exact isMt.ob (by assumption) | exact isRow.ob (by assumption) | exact isHnd.ob (by assumption) | exact isUnt.ob (by assumption) | exact isSt.ob (by assumption) | exact isHist.ob (by assumption) | exact isTxt.ob (by assumption) | exact isLac.ob (by assumption) | exact isMea.ob (by assumption))))) rfl rfl (by decide) (by rfl) rfl (Nat.le_of_ble_eq_true rfl) (Nat.zero_add _) (Nat.zero_add _) (fun v34 h34 n34 q34 => ?_)
      obtain ⟨rfl, a34, b34⟩ := q34
      exact J_ireturn dX10_winding_37 rfl (by rfl) (by first | exact qMp_of (show opWinding (nI p2) (nI z2) σ = (0, (lac σ.1.1 σ.1.1.length).2 (p2 * 4 + z2) + 100, σ) by unfold opWinding; rw [if_pos ⟨c11, c20⟩, nI_clamp (n := z2) (by omega), nI_clamp (n := p2) (by omega)]) rfl u26.md (fr_tr k2 j26) | exact qMp_of (show opWinding k p σ = fl 1 σ from if_neg (no1 c11)) rfl (isMt_put w2 a34 b34).md (fr_tr k2 (fr_mono b34 (by omega) (by omega))) | exact qMp_of (show opWinding k p σ = fl 1 σ from if_neg (no2 c20)) rfl (isMt_put w2 a34 b34).md (fr_tr k2 (fr_mono b34 (by omega) (by omega))))
    · have c20 := tru c20
      rw [i_34] at c20
      obtain ⟨p2, hp, rfl⟩ := i_lt4 c11
      obtain ⟨z2, hz, rfl⟩ := i_lt4 c20
      refine J_aload_n dX10_winding_23 (by rfl) ?_
      refine J_iload_n dX10_winding_24 (by rfl) ?_
      refine J_iload_n dX10_winding_25 (by rfl) ?_
      refine J_callV mf_X10_windingOf lk_X10_158 mi_X10_windingOf mv_X10_windingOf (sp_X10_windingOf w2 o hp hz _) dX10_winding_26 (by first | assumption | exact isLT.ob (by assumption) | exact isMt.ob (by assumption) | exact isRow.ob (by assumption) | exact isHnd.ob (by assumption) | exact isUnt.ob (by assumption) | exact isSt.ob (by assumption) | exact isHist.ob (by assumption) | exact isTxt.ob (by assumption) | exact isLac.ob (by assumption) | exact isMea.ob (by assumption) | exact hset_s | exact (hset_n (by first | assumption | omega)).trans (by first | assumption | exact isLT.ob (by assumption) | exact isMt.ob (by assumption) | exact isRow.ob (by assumption) | exact isHnd.ob (by assumption) | exact isUnt.ob (by assumption) | exact isSt.ob (by assumption) | exact isHist.ob (by assumption) | exact isTxt.ob (by assumption) | exact isLac.ob (by assumption) | exact isMea.ob (by assumption) | exact hset_s | exact (hset_n (by first | assumption | omega)).trans (by first | assumption | exact isLT.ob (by assumption) | exact isMt.ob (by assumption) | exact isRow.ob (by assumption) | exact isHnd.ob (by assumption) | exact isUnt.ob (by assumption) | exact isSt.ob (by assumption) | exact isHist.ob (by assumption) | exact isTxt.ob (by assumption) | exact isLac.ob (by assumption) | exact isMea.ob (by assumption) | exact hset_s | exact (hset_n (by first | assumption | omega)).trans (by first | assumption | exact isLT.ob (by assumption) | exact isMt.ob (by assumption) | exact isRow.ob (by assumption) | exact isHnd.ob (by assumption) | exact isUnt.ob (by assumption) | exact isSt.ob (by assumption) | exact isHist.ob (by assumption) | exact isTxt.ob (by assumption) | exact isLac.ob (by assumption) | exact isMea.ob (by assumption))))) rfl rfl (by decide) (by rfl) rfl (Nat.le_of_ble_eq_true rfl) (Nat.zero_add _) (Nat.zero_add _) (fun v26 h26 n26 q26 => ?_)
      obtain ⟨rfl, u26, j26⟩ := q26
      refine J_goto (tgt := 37) dX10_winding_29 (by decide) ?_
      exact J_ireturn dX10_winding_37 rfl (by rfl) (by first | exact qMp_of (show opWinding (nI p2) (nI z2) σ = (0, (lac σ.1.1 σ.1.1.length).2 (p2 * 4 + z2) + 100, σ) by unfold opWinding; rw [if_pos ⟨c11, c20⟩, nI_clamp (n := z2) (by omega), nI_clamp (n := p2) (by omega)]) rfl u26.md (fr_tr k2 j26) | exact qMp_of (show opWinding k p σ = fl 1 σ from if_neg (no1 c11)) rfl (isMt_put w2 a34 b34).md (fr_tr k2 (fr_mono b34 (by omega) (by omega))) | exact qMp_of (show opWinding k p σ = fl 1 σ from if_neg (no2 c20)) rfl (isMt_put w2 a34 b34).md (fr_tr k2 (fr_mono b34 (by omega) (by omega))))
theorem sp_X10_areCells {G : GG} (h : HP) (p q : Int32) (n : Nat) : Sp G mm_X10_areCells 1 0 0 [.int p, .int q] h n (fun v h' _ => v = some (.int (if (0 ≤ p ∧ p < 4) ∧ (0 ≤ q ∧ q < 4) then 1 else 0)) ∧ h' = h) := by
  refine Sp_of (by decide +kernel) (Nat.le_of_ble_eq_true rfl) ?_
  refine J_iload_n dX10_areCells_0 (by rfl) ?_
  refine J_iconst (v := 0) dX10_areCells_1 (by decide) ?_
  refine J_iconst (v := 3) dX10_areCells_2 (by decide) ?_
  refine J_callS mf_X10_within lk_X10_45 ms_X10_within (sp_X10_within _ p 0 3 _) dX10_areCells_3 (by decide) (by rfl) rfl (Nat.le_of_ble_eq_true rfl) (Nat.zero_add _) (Nat.zero_add _) (fun v3 h3 n3 q3 => ?_)
  obtain ⟨rfl, rfl⟩ := q3
  refine J_if_eq (tgt := 22) dX10_areCells_6 (by decide) (fun c6 => ?_) (fun c6 => ?_)
  · have c6 := fls c6
    rw [i_34] at c6
    refine J_iconst (v := 0) dX10_areCells_22 (by decide) ?_
    exact J_ireturn dX10_areCells_23 rfl (by rfl) (⟨by first | exact CI (if_pos (And.intro c6 c15)).symm | exact CI (if_neg (no1 c6)).symm | exact CI (if_neg (no2 c15)).symm, rfl⟩)
  · have c6 := tru c6
    rw [i_34] at c6
    refine J_iload_n dX10_areCells_9 (by rfl) ?_
    refine J_iconst (v := 0) dX10_areCells_10 (by decide) ?_
    refine J_iconst (v := 3) dX10_areCells_11 (by decide) ?_
    refine J_callS mf_X10_within lk_X10_45 ms_X10_within (sp_X10_within _ q 0 3 _) dX10_areCells_12 (by decide) (by rfl) rfl (Nat.le_of_ble_eq_true rfl) (Nat.zero_add _) (Nat.zero_add _) (fun v12 h12 n12 q12 => ?_)
    obtain ⟨rfl, rfl⟩ := q12
    refine J_if_eq (tgt := 22) dX10_areCells_15 (by decide) (fun c15 => ?_) (fun c15 => ?_)
    · have c15 := fls c15
      rw [i_34] at c15
      refine J_iconst (v := 0) dX10_areCells_22 (by decide) ?_
      exact J_ireturn dX10_areCells_23 rfl (by rfl) (⟨by first | exact CI (if_pos (And.intro c6 c15)).symm | exact CI (if_neg (no1 c6)).symm | exact CI (if_neg (no2 c15)).symm, rfl⟩)
    · have c15 := tru c15
      rw [i_34] at c15
      refine J_iconst (v := 1) dX10_areCells_18 (by decide) ?_
      refine J_goto (tgt := 23) dX10_areCells_19 (by decide) ?_
      exact J_ireturn dX10_areCells_23 rfl (by rfl) (⟨by first | exact CI (if_pos (And.intro c6 c15)).symm | exact CI (if_neg (no1 c6)).symm | exact CI (if_neg (no2 c15)).symm, rfl⟩)
set_option maxRecDepth 20000 in
theorem sp_X10_measure (v : isMd G h y σ t hh) (o : okS σ) (k p : Int32) (n : Nat) : Sp G mm_X10_measure 3 0 0 [.ref y, .int k, .int p] h n (qMp G y h (opMeasure k p σ)) := by
  refine Sp_of (by decide +kernel) (Nat.le_of_ble_eq_true rfl) ?_
  obtain ⟨xs, b, e, hd, lg, a, rc, rt, w⟩ := v
  refine J_aload_n dX10_measure_0 (by rfl) ?_
  refine J_iconst (v := 0) dX10_measure_1 (by decide) ?_
  refine J_thr w fp_X10_41 dX10_measure_2 (fun h2 w2 k2 x2 => ?_)
  refine J_iload_n dX10_measure_5 (by rfl) ?_
  refine J_iload_n dX10_measure_6 (by rfl) ?_
  refine J_callS mf_X10_areCells lk_X10_171 ms_X10_areCells (sp_X10_areCells _ k p _) dX10_measure_7 (by decide) (by rfl) rfl (Nat.le_of_ble_eq_true rfl) (Nat.zero_add _) (Nat.zero_add _) (fun v7 h7 n7 q7 => ?_)
  obtain ⟨rfl, rfl⟩ := q7
  refine J_if_ne (tgt := 19) dX10_measure_10 (by decide) (fun c10 => ?_) (fun c10 => ?_)
  · have c10 := tru c10
    obtain ⟨p2, hp, rfl⟩ := i_lt4 c10.1
    obtain ⟨z2, hz, rfl⟩ := i_lt4 c10.2
    refine J_aload_n dX10_measure_19 (by rfl) ?_
    refine J_callV mf_X10_multiply lk_X10_175 mi_X10_multiply mv_X10_multiply (sp_X10_multiply w2 o _) dX10_measure_20 (by first | assumption | exact isLT.ob (by assumption) | exact isMt.ob (by assumption) | exact isRow.ob (by assumption) | exact isHnd.ob (by assumption) | exact isUnt.ob (by assumption) | exact isSt.ob (by assumption) | exact isHist.ob (by assumption) | exact isTxt.ob (by assumption) | exact isLac.ob (by assumption) | exact isMea.ob (by assumption) | exact hset_s | exact (hset_n (by first | assumption | omega)).trans (by first | assumption | exact isLT.ob (by assumption) | exact isMt.ob (by assumption) | exact isRow.ob (by assumption) | exact isHnd.ob (by assumption) | exact isUnt.ob (by assumption) | exact isSt.ob (by assumption) | exact isHist.ob (by assumption) | exact isTxt.ob (by assumption) | exact isLac.ob (by assumption) | exact isMea.ob (by assumption) | exact hset_s | exact (hset_n (by first | assumption | omega)).trans (by first | assumption | exact isLT.ob (by assumption) | exact isMt.ob (by assumption) | exact isRow.ob (by assumption) | exact isHnd.ob (by assumption) | exact isUnt.ob (by assumption) | exact isSt.ob (by assumption) | exact isHist.ob (by assumption) | exact isTxt.ob (by assumption) | exact isLac.ob (by assumption) | exact isMea.ob (by assumption) | exact hset_s | exact (hset_n (by first | assumption | omega)).trans (by first | assumption | exact isLT.ob (by assumption) | exact isMt.ob (by assumption) | exact isRow.ob (by assumption) | exact isHnd.ob (by assumption) | exact isUnt.ob (by assumption) | exact isSt.ob (by assumption) | exact isHist.ob (by assumption) | exact isTxt.ob (by assumption) | exact isLac.ob (by assumption) | exact isMea.ob (by assumption))))) rfl rfl (by decide) (by rfl) rfl (Nat.le_of_ble_eq_true rfl) (Nat.zero_add _) (Nat.zero_add _) (fun v20 h20 n20 q20 => ?_)
    obtain ⟨rfl, u20, ⟨f2, g1, g2⟩, j20⟩ := q20
    refine J_aload_n dX10_measure_23 (by rfl) ?_
    refine J_get fg_X10_31 dX10_measure_24 (by first | assumption | exact isLT.ob (by assumption) | exact isMt.ob (by assumption) | exact isRow.ob (by assumption) | exact isHnd.ob (by assumption) | exact isUnt.ob (by assumption) | exact isSt.ob (by assumption) | exact isHist.ob (by assumption) | exact isTxt.ob (by assumption) | exact isLac.ob (by assumption) | exact isMea.ob (by assumption) | exact hset_s | exact (hset_n (by first | assumption | omega)).trans (by first | assumption | exact isLT.ob (by assumption) | exact isMt.ob (by assumption) | exact isRow.ob (by assumption) | exact isHnd.ob (by assumption) | exact isUnt.ob (by assumption) | exact isSt.ob (by assumption) | exact isHist.ob (by assumption) | exact isTxt.ob (by assumption) | exact isLac.ob (by assumption) | exact isMea.ob (by assumption) | exact hset_s | exact (hset_n (by first | assumption | omega)).trans (by first | assumption | exact isLT.ob (by assumption) | exact isMt.ob (by assumption) | exact isRow.ob (by assumption) | exact isHnd.ob (by assumption) | exact isUnt.ob (by assumption) | exact isSt.ob (by assumption) | exact isHist.ob (by assumption) | exact isTxt.ob (by assumption) | exact isLac.ob (by assumption) | exact isMea.ob (by assumption) | exact hset_s | exact (hset_n (by first | assumption | omega)).trans (by first | assumption | exact isLT.ob (by assumption) | exact isMt.ob (by assumption) | exact isRow.ob (by assumption) | exact isHnd.ob (by assumption) | exact isUnt.ob (by assumption) | exact isSt.ob (by assumption) | exact isHist.ob (by assumption) | exact isTxt.ob (by assumption) | exact isLac.ob (by assumption) | exact isMea.ob (by assumption))))) (by rfl) ?_
    refine J_iconst (v := nI 4) dX10_measure_27 (by decide) ?_
    refine J_iload_n dX10_measure_28 (by rfl) ?_
    refine J_imul dX10_measure_29 ?_
    rw [pk_mul, Nat.mul_comm 4 p2]
    refine J_iload_n dX10_measure_30 (by rfl) ?_
    refine J_iadd dX10_measure_31 ?_
    rw [nI_add]
    refine J_rd dX10_measure_32 (by first | assumption | exact isLT.ob (by assumption) | exact isMt.ob (by assumption) | exact isRow.ob (by assumption) | exact isHnd.ob (by assumption) | exact isUnt.ob (by assumption) | exact isSt.ob (by assumption) | exact isHist.ob (by assumption) | exact isTxt.ob (by assumption) | exact isLac.ob (by assumption) | exact isMea.ob (by assumption) | exact hset_s | exact (hset_n (by first | assumption | omega)).trans (by first | assumption | exact isLT.ob (by assumption) | exact isMt.ob (by assumption) | exact isRow.ob (by assumption) | exact isHnd.ob (by assumption) | exact isUnt.ob (by assumption) | exact isSt.ob (by assumption) | exact isHist.ob (by assumption) | exact isTxt.ob (by assumption) | exact isLac.ob (by assumption) | exact isMea.ob (by assumption) | exact hset_s | exact (hset_n (by first | assumption | omega)).trans (by first | assumption | exact isLT.ob (by assumption) | exact isMt.ob (by assumption) | exact isRow.ob (by assumption) | exact isHnd.ob (by assumption) | exact isUnt.ob (by assumption) | exact isSt.ob (by assumption) | exact isHist.ob (by assumption) | exact isTxt.ob (by assumption) | exact isLac.ob (by assumption) | exact isMea.ob (by assumption) | exact hset_s | exact (hset_n (by first | assumption | omega)).trans (by first | assumption | exact isLT.ob (by assumption) | exact isMt.ob (by assumption) | exact isRow.ob (by assumption) | exact isHnd.ob (by assumption) | exact isUnt.ob (by assumption) | exact isSt.ob (by assumption) | exact isHist.ob (by assumption) | exact isTxt.ob (by assumption) | exact isLac.ob (by assumption) | exact isMea.ob (by assumption))))) (by first | assumption | omega) (by decide) (g2 _ (by omega)) ?_
    exact J_ireturn dX10_measure_33 rfl (by rfl) (qMp_of (show opMeasure (nI p2) (nI z2) σ = (0, nI (mS σ.1.1 0 σ.1.1.length (p2 * 4 + z2)), σ) by unfold opMeasure; rw [if_pos c10, nI_clamp (n := z2) (by omega), nI_clamp (n := p2) (by omega)]) rfl u20.md (fr_tr k2 j20))
  · have c10 := fls c10
    refine J_aload_n dX10_measure_13 (by rfl) ?_
    refine J_iconst (v := 1) dX10_measure_14 (by decide) ?_
    refine J_callV mf_X10_fails lk_X10_52 mi_X10_fails mv_X10_fails (sp_X10_fails w2.1 1 _) dX10_measure_15 (by first | assumption | exact isLT.ob (by assumption) | exact isMt.ob (by assumption) | exact isRow.ob (by assumption) | exact isHnd.ob (by assumption) | exact isUnt.ob (by assumption) | exact isSt.ob (by assumption) | exact isHist.ob (by assumption) | exact isTxt.ob (by assumption) | exact isLac.ob (by assumption) | exact isMea.ob (by assumption) | exact hset_s | exact (hset_n (by first | assumption | omega)).trans (by first | assumption | exact isLT.ob (by assumption) | exact isMt.ob (by assumption) | exact isRow.ob (by assumption) | exact isHnd.ob (by assumption) | exact isUnt.ob (by assumption) | exact isSt.ob (by assumption) | exact isHist.ob (by assumption) | exact isTxt.ob (by assumption) | exact isLac.ob (by assumption) | exact isMea.ob (by assumption) | exact hset_s | exact (hset_n (by first | assumption | omega)).trans (by first | assumption | exact isLT.ob (by assumption) | exact isMt.ob (by assumption) | exact isRow.ob (by assumption) | exact isHnd.ob (by assumption) | exact isUnt.ob (by assumption) | exact isSt.ob (by assumption) | exact isHist.ob (by assumption) | exact isTxt.ob (by assumption) | exact isLac.ob (by assumption) | exact isMea.ob (by assumption) | exact hset_s | exact (hset_n (by first | assumption | omega)).trans (by first | assumption | exact isLT.ob (by assumption) | exact isMt.ob (by assumption) | exact isRow.ob (by assumption) | exact isHnd.ob (by assumption) | exact isUnt.ob (by assumption) | exact isSt.ob (by assumption) | exact isHist.ob (by assumption) | exact isTxt.ob (by assumption) | exact isLac.ob (by assumption) | exact isMea.ob (by assumption))))) rfl rfl (by decide) (by rfl) rfl (Nat.le_of_ble_eq_true rfl) (Nat.zero_add _) (Nat.zero_add _) (fun v15 h15 n15 q15 => ?_)
    obtain ⟨rfl, a15, b15⟩ := q15
    exact J_ireturn dX10_measure_18 rfl (by rfl) (qMp_of (show opMeasure k p σ = fl 1 σ from if_neg c10) rfl (isMt_put w2 a15 b15).md (fr_tr k2 (fr_mono b15 (by omega) (by omega))))
set_option maxRecDepth 20000 in
theorem sp_X10_halved (v : isMd G h y σ t hh) (o : okS σ) (k p : Int32) (n : Nat) : Sp G mm_X10_halved 3 0 0 [.ref y, .int k, .int p] h n (qMp G y h (opMeasure k p σ)) := by
  refine Sp_of (by decide +kernel) (Nat.le_of_ble_eq_true rfl) ?_
  obtain ⟨xs, b, e, hd, lg, a, rc, rt, w⟩ := v
  refine J_aload_n dX10_halved_0 (by rfl) ?_
  refine J_iconst (v := 0) dX10_halved_1 (by decide) ?_
  refine J_thr w fp_X10_41 dX10_halved_2 (fun h2 w2 k2 x2 => ?_)
  refine J_iload_n dX10_halved_5 (by rfl) ?_
  refine J_iload_n dX10_halved_6 (by rfl) ?_
  refine J_callS mf_X10_areCells lk_X10_171 ms_X10_areCells (sp_X10_areCells _ k p _) dX10_halved_7 (by decide) (by rfl) rfl (Nat.le_of_ble_eq_true rfl) (Nat.zero_add _) (Nat.zero_add _) (fun v7 h7 n7 q7 => ?_)
  obtain ⟨rfl, rfl⟩ := q7
  refine J_if_ne (tgt := 19) dX10_halved_10 (by decide) (fun c10 => ?_) (fun c10 => ?_)
  · have c10 := tru c10
    obtain ⟨p2, hp, rfl⟩ := i_lt4 c10.1
    obtain ⟨z2, hz, rfl⟩ := i_lt4 c10.2
    refine J_aload_n dX10_halved_19 (by rfl) ?_
    refine J_callV mf_X10_multiplyBack lk_X10_178 mi_X10_multiplyBack mv_X10_multiplyBack (sp_X10_multiplyBack w2 o _) dX10_halved_20 (by first | assumption | exact isLT.ob (by assumption) | exact isMt.ob (by assumption) | exact isRow.ob (by assumption) | exact isHnd.ob (by assumption) | exact isUnt.ob (by assumption) | exact isSt.ob (by assumption) | exact isHist.ob (by assumption) | exact isTxt.ob (by assumption) | exact isLac.ob (by assumption) | exact isMea.ob (by assumption) | exact hset_s | exact (hset_n (by first | assumption | omega)).trans (by first | assumption | exact isLT.ob (by assumption) | exact isMt.ob (by assumption) | exact isRow.ob (by assumption) | exact isHnd.ob (by assumption) | exact isUnt.ob (by assumption) | exact isSt.ob (by assumption) | exact isHist.ob (by assumption) | exact isTxt.ob (by assumption) | exact isLac.ob (by assumption) | exact isMea.ob (by assumption) | exact hset_s | exact (hset_n (by first | assumption | omega)).trans (by first | assumption | exact isLT.ob (by assumption) | exact isMt.ob (by assumption) | exact isRow.ob (by assumption) | exact isHnd.ob (by assumption) | exact isUnt.ob (by assumption) | exact isSt.ob (by assumption) | exact isHist.ob (by assumption) | exact isTxt.ob (by assumption) | exact isLac.ob (by assumption) | exact isMea.ob (by assumption) | exact hset_s | exact (hset_n (by first | assumption | omega)).trans (by first | assumption | exact isLT.ob (by assumption) | exact isMt.ob (by assumption) | exact isRow.ob (by assumption) | exact isHnd.ob (by assumption) | exact isUnt.ob (by assumption) | exact isSt.ob (by assumption) | exact isHist.ob (by assumption) | exact isTxt.ob (by assumption) | exact isLac.ob (by assumption) | exact isMea.ob (by assumption))))) rfl rfl (by decide) (by rfl) rfl (Nat.le_of_ble_eq_true rfl) (Nat.zero_add _) (Nat.zero_add _) (fun v20 h20 n20 q20 => ?_)
    obtain ⟨rfl, u20, ⟨f2, g1, g2⟩, j20⟩ := q20
    refine J_aload_n dX10_halved_23 (by rfl) ?_
    refine J_get fg_X10_31 dX10_halved_24 (by first | assumption | exact isLT.ob (by assumption) | exact isMt.ob (by assumption) | exact isRow.ob (by assumption) | exact isHnd.ob (by assumption) | exact isUnt.ob (by assumption) | exact isSt.ob (by assumption) | exact isHist.ob (by assumption) | exact isTxt.ob (by assumption) | exact isLac.ob (by assumption) | exact isMea.ob (by assumption) | exact hset_s | exact (hset_n (by first | assumption | omega)).trans (by first | assumption | exact isLT.ob (by assumption) | exact isMt.ob (by assumption) | exact isRow.ob (by assumption) | exact isHnd.ob (by assumption) | exact isUnt.ob (by assumption) | exact isSt.ob (by assumption) | exact isHist.ob (by assumption) | exact isTxt.ob (by assumption) | exact isLac.ob (by assumption) | exact isMea.ob (by assumption) | exact hset_s | exact (hset_n (by first | assumption | omega)).trans (by first | assumption | exact isLT.ob (by assumption) | exact isMt.ob (by assumption) | exact isRow.ob (by assumption) | exact isHnd.ob (by assumption) | exact isUnt.ob (by assumption) | exact isSt.ob (by assumption) | exact isHist.ob (by assumption) | exact isTxt.ob (by assumption) | exact isLac.ob (by assumption) | exact isMea.ob (by assumption) | exact hset_s | exact (hset_n (by first | assumption | omega)).trans (by first | assumption | exact isLT.ob (by assumption) | exact isMt.ob (by assumption) | exact isRow.ob (by assumption) | exact isHnd.ob (by assumption) | exact isUnt.ob (by assumption) | exact isSt.ob (by assumption) | exact isHist.ob (by assumption) | exact isTxt.ob (by assumption) | exact isLac.ob (by assumption) | exact isMea.ob (by assumption))))) (by rfl) ?_
    refine J_iconst (v := nI 4) dX10_halved_27 (by decide) ?_
    refine J_iload_n dX10_halved_28 (by rfl) ?_
    refine J_imul dX10_halved_29 ?_
    rw [pk_mul, Nat.mul_comm 4 p2]
    refine J_iload_n dX10_halved_30 (by rfl) ?_
    refine J_iadd dX10_halved_31 ?_
    rw [nI_add]
    refine J_rd dX10_halved_32 (by first | assumption | exact isLT.ob (by assumption) | exact isMt.ob (by assumption) | exact isRow.ob (by assumption) | exact isHnd.ob (by assumption) | exact isUnt.ob (by assumption) | exact isSt.ob (by assumption) | exact isHist.ob (by assumption) | exact isTxt.ob (by assumption) | exact isLac.ob (by assumption) | exact isMea.ob (by assumption) | exact hset_s | exact (hset_n (by first | assumption | omega)).trans (by first | assumption | exact isLT.ob (by assumption) | exact isMt.ob (by assumption) | exact isRow.ob (by assumption) | exact isHnd.ob (by assumption) | exact isUnt.ob (by assumption) | exact isSt.ob (by assumption) | exact isHist.ob (by assumption) | exact isTxt.ob (by assumption) | exact isLac.ob (by assumption) | exact isMea.ob (by assumption) | exact hset_s | exact (hset_n (by first | assumption | omega)).trans (by first | assumption | exact isLT.ob (by assumption) | exact isMt.ob (by assumption) | exact isRow.ob (by assumption) | exact isHnd.ob (by assumption) | exact isUnt.ob (by assumption) | exact isSt.ob (by assumption) | exact isHist.ob (by assumption) | exact isTxt.ob (by assumption) | exact isLac.ob (by assumption) | exact isMea.ob (by assumption) | exact hset_s | exact (hset_n (by first | assumption | omega)).trans (by first | assumption | exact isLT.ob (by assumption) | exact isMt.ob (by assumption) | exact isRow.ob (by assumption) | exact isHnd.ob (by assumption) | exact isUnt.ob (by assumption) | exact isSt.ob (by assumption) | exact isHist.ob (by assumption) | exact isTxt.ob (by assumption) | exact isLac.ob (by assumption) | exact isMea.ob (by assumption))))) (by first | assumption | omega) (by decide) (g2 _ (by omega)) ?_
    exact J_ireturn dX10_halved_33 rfl (by rfl) (qMp_of (show opMeasure (nI p2) (nI z2) σ = (0, nI (mS σ.1.1 0 σ.1.1.length (p2 * 4 + z2)), σ) by unfold opMeasure; rw [if_pos c10, nI_clamp (n := z2) (by omega), nI_clamp (n := p2) (by omega)]) rfl u20.md (fr_tr k2 j20))
  · have c10 := fls c10
    refine J_aload_n dX10_halved_13 (by rfl) ?_
    refine J_iconst (v := 1) dX10_halved_14 (by decide) ?_
    refine J_callV mf_X10_fails lk_X10_52 mi_X10_fails mv_X10_fails (sp_X10_fails w2.1 1 _) dX10_halved_15 (by first | assumption | exact isLT.ob (by assumption) | exact isMt.ob (by assumption) | exact isRow.ob (by assumption) | exact isHnd.ob (by assumption) | exact isUnt.ob (by assumption) | exact isSt.ob (by assumption) | exact isHist.ob (by assumption) | exact isTxt.ob (by assumption) | exact isLac.ob (by assumption) | exact isMea.ob (by assumption) | exact hset_s | exact (hset_n (by first | assumption | omega)).trans (by first | assumption | exact isLT.ob (by assumption) | exact isMt.ob (by assumption) | exact isRow.ob (by assumption) | exact isHnd.ob (by assumption) | exact isUnt.ob (by assumption) | exact isSt.ob (by assumption) | exact isHist.ob (by assumption) | exact isTxt.ob (by assumption) | exact isLac.ob (by assumption) | exact isMea.ob (by assumption) | exact hset_s | exact (hset_n (by first | assumption | omega)).trans (by first | assumption | exact isLT.ob (by assumption) | exact isMt.ob (by assumption) | exact isRow.ob (by assumption) | exact isHnd.ob (by assumption) | exact isUnt.ob (by assumption) | exact isSt.ob (by assumption) | exact isHist.ob (by assumption) | exact isTxt.ob (by assumption) | exact isLac.ob (by assumption) | exact isMea.ob (by assumption) | exact hset_s | exact (hset_n (by first | assumption | omega)).trans (by first | assumption | exact isLT.ob (by assumption) | exact isMt.ob (by assumption) | exact isRow.ob (by assumption) | exact isHnd.ob (by assumption) | exact isUnt.ob (by assumption) | exact isSt.ob (by assumption) | exact isHist.ob (by assumption) | exact isTxt.ob (by assumption) | exact isLac.ob (by assumption) | exact isMea.ob (by assumption))))) rfl rfl (by decide) (by rfl) rfl (Nat.le_of_ble_eq_true rfl) (Nat.zero_add _) (Nat.zero_add _) (fun v15 h15 n15 q15 => ?_)
    obtain ⟨rfl, a15, b15⟩ := q15
    exact J_ireturn dX10_halved_18 rfl (by rfl) (qMp_of (show opMeasure k p σ = fl 1 σ from if_neg c10) rfl (isMt_put w2 a15 b15).md (fr_tr k2 (fr_mono b15 (by omega) (by omega))))
set_option maxRecDepth 20000 in
theorem sp_X10_count (v : isMd G h y σ t hh) (o : okS σ) (k : Int32) (n : Nat) : Sp G mm_X10_count 4 0 0 [.ref y, .int k] h n (qMp G y h (opCount k σ)) := by
  refine Sp_of (by decide +kernel) (Nat.le_of_ble_eq_true rfl) ?_
  obtain ⟨xs, b, e, hd, lg, a, rc, rt, w⟩ := v
  refine J_aload_n dX10_count_0 (by rfl) ?_
  refine J_iconst (v := 0) dX10_count_1 (by decide) ?_
  refine J_thr w fp_X10_41 dX10_count_2 (fun h2 w2 k2 x2 => ?_)
  refine J_iload_n dX10_count_5 (by rfl) ?_
  refine J_iconst (v := 0) dX10_count_6 (by decide) ?_
  refine J_bipush (v := 7) dX10_count_7 (by decide) ?_
  refine J_callS mf_X10_within lk_X10_45 ms_X10_within (sp_X10_within _ k 0 7 _) dX10_count_9 (by decide) (by rfl) rfl (Nat.le_of_ble_eq_true rfl) (Nat.zero_add _) (Nat.zero_add _) (fun v9 h9 n9 q9 => ?_)
  obtain ⟨rfl, rfl⟩ := q9
  refine J_if_eq (tgt := 23) dX10_count_12 (by decide) (fun c12 => ?_) (fun c12 => ?_)
  · have c12 := fls c12
    rw [i_78] at c12
    refine J_aload_n dX10_count_23 (by rfl) ?_
    refine J_iconst (v := 1) dX10_count_24 (by decide) ?_
    refine J_callV mf_X10_fails lk_X10_52 mi_X10_fails mv_X10_fails (sp_X10_fails w2.1 1 _) dX10_count_25 (by first | assumption | exact isLT.ob (by assumption) | exact isMt.ob (by assumption) | exact isRow.ob (by assumption) | exact isHnd.ob (by assumption) | exact isUnt.ob (by assumption) | exact isSt.ob (by assumption) | exact isHist.ob (by assumption) | exact isTxt.ob (by assumption) | exact isLac.ob (by assumption) | exact isMea.ob (by assumption) | exact hset_s | exact (hset_n (by first | assumption | omega)).trans (by first | assumption | exact isLT.ob (by assumption) | exact isMt.ob (by assumption) | exact isRow.ob (by assumption) | exact isHnd.ob (by assumption) | exact isUnt.ob (by assumption) | exact isSt.ob (by assumption) | exact isHist.ob (by assumption) | exact isTxt.ob (by assumption) | exact isLac.ob (by assumption) | exact isMea.ob (by assumption) | exact hset_s | exact (hset_n (by first | assumption | omega)).trans (by first | assumption | exact isLT.ob (by assumption) | exact isMt.ob (by assumption) | exact isRow.ob (by assumption) | exact isHnd.ob (by assumption) | exact isUnt.ob (by assumption) | exact isSt.ob (by assumption) | exact isHist.ob (by assumption) | exact isTxt.ob (by assumption) | exact isLac.ob (by assumption) | exact isMea.ob (by assumption) | exact hset_s | exact (hset_n (by first | assumption | omega)).trans (by first | assumption | exact isLT.ob (by assumption) | exact isMt.ob (by assumption) | exact isRow.ob (by assumption) | exact isHnd.ob (by assumption) | exact isUnt.ob (by assumption) | exact isSt.ob (by assumption) | exact isHist.ob (by assumption) | exact isTxt.ob (by assumption) | exact isLac.ob (by assumption) | exact isMea.ob (by assumption))))) rfl rfl (by decide) (by rfl) rfl (Nat.le_of_ble_eq_true rfl) (Nat.zero_add _) (Nat.zero_add _) (fun v25 h25 n25 q25 => ?_)
    obtain ⟨rfl, a25, b25⟩ := q25
    exact J_ireturn dX10_count_28 rfl (by rfl) (by first | exact qMp_of (show opCount (nI z2) σ = (0, cnt z2 σ, σ) by unfold opCount; rw [if_pos c12, nI_clamp (n := z2) (by omega)]) rfl u17 (fr_tr k2 j17) | exact qMp_of (show opCount k σ = fl 1 σ from if_neg c12) rfl (isMt_put w2 a25 b25).md (fr_tr k2 (fr_mono b25 (by omega) (by omega))))
  · have c12 := tru c12
    rw [i_78] at c12
    obtain ⟨z2, hz, rfl⟩ := i_lt8 c12
    refine J_aload_n dX10_count_15 (by rfl) ?_
    refine J_iload_n dX10_count_16 (by rfl) ?_
    refine J_callV mf_X10_tellsCount lk_X10_187 mi_X10_tellsCount mv_X10_tellsCount (sp_X10_tellsCount w2.md o hz _) dX10_count_17 (by first | assumption | exact isLT.ob (by assumption) | exact isMt.ob (by assumption) | exact isRow.ob (by assumption) | exact isHnd.ob (by assumption) | exact isUnt.ob (by assumption) | exact isSt.ob (by assumption) | exact isHist.ob (by assumption) | exact isTxt.ob (by assumption) | exact isLac.ob (by assumption) | exact isMea.ob (by assumption) | exact hset_s | exact (hset_n (by first | assumption | omega)).trans (by first | assumption | exact isLT.ob (by assumption) | exact isMt.ob (by assumption) | exact isRow.ob (by assumption) | exact isHnd.ob (by assumption) | exact isUnt.ob (by assumption) | exact isSt.ob (by assumption) | exact isHist.ob (by assumption) | exact isTxt.ob (by assumption) | exact isLac.ob (by assumption) | exact isMea.ob (by assumption) | exact hset_s | exact (hset_n (by first | assumption | omega)).trans (by first | assumption | exact isLT.ob (by assumption) | exact isMt.ob (by assumption) | exact isRow.ob (by assumption) | exact isHnd.ob (by assumption) | exact isUnt.ob (by assumption) | exact isSt.ob (by assumption) | exact isHist.ob (by assumption) | exact isTxt.ob (by assumption) | exact isLac.ob (by assumption) | exact isMea.ob (by assumption) | exact hset_s | exact (hset_n (by first | assumption | omega)).trans (by first | assumption | exact isLT.ob (by assumption) | exact isMt.ob (by assumption) | exact isRow.ob (by assumption) | exact isHnd.ob (by assumption) | exact isUnt.ob (by assumption) | exact isSt.ob (by assumption) | exact isHist.ob (by assumption) | exact isTxt.ob (by assumption) | exact isLac.ob (by assumption) | exact isMea.ob (by assumption))))) rfl rfl (by decide) (by rfl) rfl (Nat.le_of_ble_eq_true rfl) (Nat.zero_add _) (Nat.zero_add _) (fun v17 h17 n17 q17 => ?_)
    obtain ⟨rfl, u17, j17⟩ := q17
    refine J_goto (tgt := 28) dX10_count_20 (by decide) ?_
    exact J_ireturn dX10_count_28 rfl (by rfl) (by first | exact qMp_of (show opCount (nI z2) σ = (0, cnt z2 σ, σ) by unfold opCount; rw [if_pos c12, nI_clamp (n := z2) (by omega)]) rfl u17 (fr_tr k2 j17) | exact qMp_of (show opCount k σ = fl 1 σ from if_neg c12) rfl (isMt_put w2 a25 b25).md (fr_tr k2 (fr_mono b25 (by omega) (by omega))))
set_option maxRecDepth 20000 in
theorem sp_X10_whyNot (v : isMd G h y σ t hh) (o : okS σ) (m k : Int32) (n : Nat) : Sp G mm_X10_whyNot 2 0 0 [.ref y, .int m, .int k] h n (qMp G y h (opWhy m k σ)) := by
  refine Sp_of (by decide +kernel) (Nat.le_of_ble_eq_true rfl) ?_
  obtain ⟨xs, b, e, hd, lg, a, rc, rt, w⟩ := v
  have hx := o.1.1
  refine J_aload_n dX10_whyNot_0 (by rfl) ?_
  refine J_iconst (v := 0) dX10_whyNot_1 (by decide) ?_
  refine J_thr w fp_X10_41 dX10_whyNot_2 (fun h2 w2 k2 x2 => ?_)
  refine J_iload_n dX10_whyNot_5 (by rfl) ?_
  refine J_callS mf_X10_isMove lk_X10_112 ms_X10_isMove (sp_X10_isMove _ m _) dX10_whyNot_6 (by decide) (by rfl) rfl (Nat.le_of_ble_eq_true rfl) (Nat.zero_add _) (Nat.zero_add _) (fun v6 h6 n6 q6 => ?_)
  obtain ⟨rfl, rfl⟩ := q6
  refine J_if_eq (tgt := 16) dX10_whyNot_9 (by decide) (fun c9 => ?_) (fun c9 => ?_)
  · have c9 := fls c9
    refine J_aload_n dX10_whyNot_16 (by rfl) ?_
    refine J_iconst (v := 1) dX10_whyNot_17 (by decide) ?_
    refine J_callV mf_X10_fails lk_X10_52 mi_X10_fails mv_X10_fails (sp_X10_fails w2.1 1 _) dX10_whyNot_18 (by first | assumption | exact isLT.ob (by assumption) | exact isMt.ob (by assumption) | exact isRow.ob (by assumption) | exact isHnd.ob (by assumption) | exact isUnt.ob (by assumption) | exact isSt.ob (by assumption) | exact isHist.ob (by assumption) | exact isTxt.ob (by assumption) | exact isLac.ob (by assumption) | exact isMea.ob (by assumption) | exact hset_s | exact (hset_n (by first | assumption | omega)).trans (by first | assumption | exact isLT.ob (by assumption) | exact isMt.ob (by assumption) | exact isRow.ob (by assumption) | exact isHnd.ob (by assumption) | exact isUnt.ob (by assumption) | exact isSt.ob (by assumption) | exact isHist.ob (by assumption) | exact isTxt.ob (by assumption) | exact isLac.ob (by assumption) | exact isMea.ob (by assumption) | exact hset_s | exact (hset_n (by first | assumption | omega)).trans (by first | assumption | exact isLT.ob (by assumption) | exact isMt.ob (by assumption) | exact isRow.ob (by assumption) | exact isHnd.ob (by assumption) | exact isUnt.ob (by assumption) | exact isSt.ob (by assumption) | exact isHist.ob (by assumption) | exact isTxt.ob (by assumption) | exact isLac.ob (by assumption) | exact isMea.ob (by assumption) | exact hset_s | exact (hset_n (by first | assumption | omega)).trans (by first | assumption | exact isLT.ob (by assumption) | exact isMt.ob (by assumption) | exact isRow.ob (by assumption) | exact isHnd.ob (by assumption) | exact isUnt.ob (by assumption) | exact isSt.ob (by assumption) | exact isHist.ob (by assumption) | exact isTxt.ob (by assumption) | exact isLac.ob (by assumption) | exact isMea.ob (by assumption))))) rfl rfl (by decide) (by rfl) rfl (Nat.le_of_ble_eq_true rfl) (Nat.zero_add _) (Nat.zero_add _) (fun v18 h18 n18 q18 => ?_)
    obtain ⟨rfl, a18, b18⟩ := q18
    exact J_ireturn dX10_whyNot_21 rfl (by rfl) (by first | exact qMp_of (show opWhy m k σ = fl 1 σ from if_neg (no1 c9)) rfl (isMt_put w2 a18 b18).md (fr_tr k2 (fr_mono b18 (by omega) (by omega))) | exact qMp_of (show opWhy m k σ = fl 1 σ from if_neg (no2 c13)) rfl (isMt_put w2 a18 b18).md (fr_tr k2 (fr_mono b18 (by omega) (by omega))))
  · have c9 := tru c9
    refine J_iload_n dX10_whyNot_12 (by rfl) ?_
    refine J_if_ge (tgt := 22) dX10_whyNot_13 (by decide) (fun c13 => ?_) (fun c13 => ?_)
    · obtain ⟨m2, hm, rfl⟩ := i_le2 c9
      obtain ⟨z2, hk, rfl⟩ := i_ge0 c13
      refine J_aload_n dX10_whyNot_22 (by rfl) ?_
      refine J_callV mf_X10_takeRow lk_X10_115 mi_X10_takeRow mv_X10_takeRow (sp_X10_takeRow w2 _) dX10_whyNot_23 (by first | assumption | exact isLT.ob (by assumption) | exact isMt.ob (by assumption) | exact isRow.ob (by assumption) | exact isHnd.ob (by assumption) | exact isUnt.ob (by assumption) | exact isSt.ob (by assumption) | exact isHist.ob (by assumption) | exact isTxt.ob (by assumption) | exact isLac.ob (by assumption) | exact isMea.ob (by assumption) | exact hset_s | exact (hset_n (by first | assumption | omega)).trans (by first | assumption | exact isLT.ob (by assumption) | exact isMt.ob (by assumption) | exact isRow.ob (by assumption) | exact isHnd.ob (by assumption) | exact isUnt.ob (by assumption) | exact isSt.ob (by assumption) | exact isHist.ob (by assumption) | exact isTxt.ob (by assumption) | exact isLac.ob (by assumption) | exact isMea.ob (by assumption) | exact hset_s | exact (hset_n (by first | assumption | omega)).trans (by first | assumption | exact isLT.ob (by assumption) | exact isMt.ob (by assumption) | exact isRow.ob (by assumption) | exact isHnd.ob (by assumption) | exact isUnt.ob (by assumption) | exact isSt.ob (by assumption) | exact isHist.ob (by assumption) | exact isTxt.ob (by assumption) | exact isLac.ob (by assumption) | exact isMea.ob (by assumption) | exact hset_s | exact (hset_n (by first | assumption | omega)).trans (by first | assumption | exact isLT.ob (by assumption) | exact isMt.ob (by assumption) | exact isRow.ob (by assumption) | exact isHnd.ob (by assumption) | exact isUnt.ob (by assumption) | exact isSt.ob (by assumption) | exact isHist.ob (by assumption) | exact isTxt.ob (by assumption) | exact isLac.ob (by assumption) | exact isMea.ob (by assumption))))) rfl rfl (by decide) (by rfl) rfl (Nat.le_of_ble_eq_true rfl) (Nat.zero_add _) (Nat.zero_add _) (fun v23 h23 n23 q23 => ?_)
      obtain ⟨rfl, u23, j23⟩ := q23
      refine J_aload_n dX10_whyNot_26 (by rfl) ?_
      refine J_iload_n dX10_whyNot_27 (by rfl) ?_
      refine J_iload_n dX10_whyNot_28 (by rfl) ?_
      refine J_callV mf_X10_reason lk_X10_78 mi_X10_reason mv_X10_reason (sp_X10_reason u23.1 u23.2.2.1 hx hm hk _) dX10_whyNot_29 (by first | assumption | exact isLT.ob (by assumption) | exact isMt.ob (by assumption) | exact isRow.ob (by assumption) | exact isHnd.ob (by assumption) | exact isUnt.ob (by assumption) | exact isSt.ob (by assumption) | exact isHist.ob (by assumption) | exact isTxt.ob (by assumption) | exact isLac.ob (by assumption) | exact isMea.ob (by assumption) | exact hset_s | exact (hset_n (by first | assumption | omega)).trans (by first | assumption | exact isLT.ob (by assumption) | exact isMt.ob (by assumption) | exact isRow.ob (by assumption) | exact isHnd.ob (by assumption) | exact isUnt.ob (by assumption) | exact isSt.ob (by assumption) | exact isHist.ob (by assumption) | exact isTxt.ob (by assumption) | exact isLac.ob (by assumption) | exact isMea.ob (by assumption) | exact hset_s | exact (hset_n (by first | assumption | omega)).trans (by first | assumption | exact isLT.ob (by assumption) | exact isMt.ob (by assumption) | exact isRow.ob (by assumption) | exact isHnd.ob (by assumption) | exact isUnt.ob (by assumption) | exact isSt.ob (by assumption) | exact isHist.ob (by assumption) | exact isTxt.ob (by assumption) | exact isLac.ob (by assumption) | exact isMea.ob (by assumption) | exact hset_s | exact (hset_n (by first | assumption | omega)).trans (by first | assumption | exact isLT.ob (by assumption) | exact isMt.ob (by assumption) | exact isRow.ob (by assumption) | exact isHnd.ob (by assumption) | exact isUnt.ob (by assumption) | exact isSt.ob (by assumption) | exact isHist.ob (by assumption) | exact isTxt.ob (by assumption) | exact isLac.ob (by assumption) | exact isMea.ob (by assumption))))) rfl rfl (by decide) (by rfl) rfl (Nat.le_of_ble_eq_true rfl) (Nat.zero_add _) (Nat.zero_add _) (fun v29 h29 n29 q29 => ?_)
      obtain ⟨rfl, rfl⟩ := q29
      exact J_ireturn dX10_whyNot_32 rfl (by rfl) (qMp_of (show opWhy (nI m2) (nI z2) σ = (0, rsn σ.1.1 m2 z2, σ) by unfold opWhy; rw [if_pos ⟨c9, c13⟩, nI_clamp (n := m2) (by omega), nI_clamp (n := z2) (by omega)]) rfl u23.md (fr_tr k2 j23))
    · refine J_aload_n dX10_whyNot_16 (by rfl) ?_
      refine J_iconst (v := 1) dX10_whyNot_17 (by decide) ?_
      refine J_callV mf_X10_fails lk_X10_52 mi_X10_fails mv_X10_fails (sp_X10_fails w2.1 1 _) dX10_whyNot_18 (by first | assumption | exact isLT.ob (by assumption) | exact isMt.ob (by assumption) | exact isRow.ob (by assumption) | exact isHnd.ob (by assumption) | exact isUnt.ob (by assumption) | exact isSt.ob (by assumption) | exact isHist.ob (by assumption) | exact isTxt.ob (by assumption) | exact isLac.ob (by assumption) | exact isMea.ob (by assumption) | exact hset_s | exact (hset_n (by first | assumption | omega)).trans (by first | assumption | exact isLT.ob (by assumption) | exact isMt.ob (by assumption) | exact isRow.ob (by assumption) | exact isHnd.ob (by assumption) | exact isUnt.ob (by assumption) | exact isSt.ob (by assumption) | exact isHist.ob (by assumption) | exact isTxt.ob (by assumption) | exact isLac.ob (by assumption) | exact isMea.ob (by assumption) | exact hset_s | exact (hset_n (by first | assumption | omega)).trans (by first | assumption | exact isLT.ob (by assumption) | exact isMt.ob (by assumption) | exact isRow.ob (by assumption) | exact isHnd.ob (by assumption) | exact isUnt.ob (by assumption) | exact isSt.ob (by assumption) | exact isHist.ob (by assumption) | exact isTxt.ob (by assumption) | exact isLac.ob (by assumption) | exact isMea.ob (by assumption) | exact hset_s | exact (hset_n (by first | assumption | omega)).trans (by first | assumption | exact isLT.ob (by assumption) | exact isMt.ob (by assumption) | exact isRow.ob (by assumption) | exact isHnd.ob (by assumption) | exact isUnt.ob (by assumption) | exact isSt.ob (by assumption) | exact isHist.ob (by assumption) | exact isTxt.ob (by assumption) | exact isLac.ob (by assumption) | exact isMea.ob (by assumption))))) rfl rfl (by decide) (by rfl) rfl (Nat.le_of_ble_eq_true rfl) (Nat.zero_add _) (Nat.zero_add _) (fun v18 h18 n18 q18 => ?_)
      obtain ⟨rfl, a18, b18⟩ := q18
      exact J_ireturn dX10_whyNot_21 rfl (by rfl) (by first | exact qMp_of (show opWhy m k σ = fl 1 σ from if_neg (no1 c9)) rfl (isMt_put w2 a18 b18).md (fr_tr k2 (fr_mono b18 (by omega) (by omega))) | exact qMp_of (show opWhy m k σ = fl 1 σ from if_neg (no2 c13)) rfl (isMt_put w2 a18 b18).md (fr_tr k2 (fr_mono b18 (by omega) (by omega))))
set_option maxRecDepth 20000 in
theorem sp_X10_untangled (v : isMd G h y σ t hh) (o : okS σ) (k : Int32) (n : Nat) : Sp G mm_X10_untangled 5 0 0 [.ref y, .int k] h n (qMp G y h (opUnt k σ)) := by
  refine Sp_of (by decide +kernel) (Nat.le_of_ble_eq_true rfl) ?_
  obtain ⟨xs, b, e, hd, lg, a, rc, rt, w⟩ := v
  refine J_aload_n dX10_untangled_0 (by rfl) ?_
  refine J_iconst (v := 0) dX10_untangled_1 (by decide) ?_
  refine J_thr w fp_X10_41 dX10_untangled_2 (fun h2 w2 k2 x2 => ?_)
  refine J_iload_n dX10_untangled_5 (by rfl) ?_
  refine J_iconst (v := 0) dX10_untangled_6 (by decide) ?_
  refine J_iconst (v := 3) dX10_untangled_7 (by decide) ?_
  refine J_callS mf_X10_within lk_X10_45 ms_X10_within (sp_X10_within _ k 0 3 _) dX10_untangled_8 (by decide) (by rfl) rfl (Nat.le_of_ble_eq_true rfl) (Nat.zero_add _) (Nat.zero_add _) (fun v8 h8 n8 q8 => ?_)
  obtain ⟨rfl, rfl⟩ := q8
  refine J_if_eq (tgt := 22) dX10_untangled_11 (by decide) (fun c11 => ?_) (fun c11 => ?_)
  · have c11 := fls c11
    rw [i_34] at c11
    refine J_aload_n dX10_untangled_22 (by rfl) ?_
    refine J_iconst (v := 1) dX10_untangled_23 (by decide) ?_
    refine J_callV mf_X10_fails lk_X10_52 mi_X10_fails mv_X10_fails (sp_X10_fails w2.1 1 _) dX10_untangled_24 (by first | assumption | exact isLT.ob (by assumption) | exact isMt.ob (by assumption) | exact isRow.ob (by assumption) | exact isHnd.ob (by assumption) | exact isUnt.ob (by assumption) | exact isSt.ob (by assumption) | exact isHist.ob (by assumption) | exact isTxt.ob (by assumption) | exact isLac.ob (by assumption) | exact isMea.ob (by assumption) | exact hset_s | exact (hset_n (by first | assumption | omega)).trans (by first | assumption | exact isLT.ob (by assumption) | exact isMt.ob (by assumption) | exact isRow.ob (by assumption) | exact isHnd.ob (by assumption) | exact isUnt.ob (by assumption) | exact isSt.ob (by assumption) | exact isHist.ob (by assumption) | exact isTxt.ob (by assumption) | exact isLac.ob (by assumption) | exact isMea.ob (by assumption) | exact hset_s | exact (hset_n (by first | assumption | omega)).trans (by first | assumption | exact isLT.ob (by assumption) | exact isMt.ob (by assumption) | exact isRow.ob (by assumption) | exact isHnd.ob (by assumption) | exact isUnt.ob (by assumption) | exact isSt.ob (by assumption) | exact isHist.ob (by assumption) | exact isTxt.ob (by assumption) | exact isLac.ob (by assumption) | exact isMea.ob (by assumption) | exact hset_s | exact (hset_n (by first | assumption | omega)).trans (by first | assumption | exact isLT.ob (by assumption) | exact isMt.ob (by assumption) | exact isRow.ob (by assumption) | exact isHnd.ob (by assumption) | exact isUnt.ob (by assumption) | exact isSt.ob (by assumption) | exact isHist.ob (by assumption) | exact isTxt.ob (by assumption) | exact isLac.ob (by assumption) | exact isMea.ob (by assumption))))) rfl rfl (by decide) (by rfl) rfl (Nat.le_of_ble_eq_true rfl) (Nat.zero_add _) (Nat.zero_add _) (fun v24 h24 n24 q24 => ?_)
    obtain ⟨rfl, a24, b24⟩ := q24
    exact J_ireturn dX10_untangled_27 rfl (by rfl) (by first | exact qMp_of (show opUnt (nI z2) σ = (0, uns (utg σ.1.1) z2, σ) by unfold opUnt; rw [if_pos c11, nI_clamp (n := z2) (by omega)]) rfl u16 (fr_tr k2 j16) | exact qMp_of (show opUnt k σ = fl 1 σ from if_neg c11) rfl (isMt_put w2 a24 b24).md (fr_tr k2 (fr_mono b24 (by omega) (by omega))))
  · have c11 := tru c11
    rw [i_34] at c11
    obtain ⟨z2, hz, rfl⟩ := i_lt4 c11
    refine J_aload_n dX10_untangled_14 (by rfl) ?_
    refine J_iload_n dX10_untangled_15 (by rfl) ?_
    refine J_callV mf_X10_tellsUntangled lk_X10_196 mi_X10_tellsUntangled mv_X10_tellsUntangled (sp_X10_tellsUntangled w2.md o hz _) dX10_untangled_16 (by first | assumption | exact isLT.ob (by assumption) | exact isMt.ob (by assumption) | exact isRow.ob (by assumption) | exact isHnd.ob (by assumption) | exact isUnt.ob (by assumption) | exact isSt.ob (by assumption) | exact isHist.ob (by assumption) | exact isTxt.ob (by assumption) | exact isLac.ob (by assumption) | exact isMea.ob (by assumption) | exact hset_s | exact (hset_n (by first | assumption | omega)).trans (by first | assumption | exact isLT.ob (by assumption) | exact isMt.ob (by assumption) | exact isRow.ob (by assumption) | exact isHnd.ob (by assumption) | exact isUnt.ob (by assumption) | exact isSt.ob (by assumption) | exact isHist.ob (by assumption) | exact isTxt.ob (by assumption) | exact isLac.ob (by assumption) | exact isMea.ob (by assumption) | exact hset_s | exact (hset_n (by first | assumption | omega)).trans (by first | assumption | exact isLT.ob (by assumption) | exact isMt.ob (by assumption) | exact isRow.ob (by assumption) | exact isHnd.ob (by assumption) | exact isUnt.ob (by assumption) | exact isSt.ob (by assumption) | exact isHist.ob (by assumption) | exact isTxt.ob (by assumption) | exact isLac.ob (by assumption) | exact isMea.ob (by assumption) | exact hset_s | exact (hset_n (by first | assumption | omega)).trans (by first | assumption | exact isLT.ob (by assumption) | exact isMt.ob (by assumption) | exact isRow.ob (by assumption) | exact isHnd.ob (by assumption) | exact isUnt.ob (by assumption) | exact isSt.ob (by assumption) | exact isHist.ob (by assumption) | exact isTxt.ob (by assumption) | exact isLac.ob (by assumption) | exact isMea.ob (by assumption))))) rfl rfl (by decide) (by rfl) rfl (Nat.le_of_ble_eq_true rfl) (Nat.zero_add _) (Nat.zero_add _) (fun v16 h16 n16 q16 => ?_)
    obtain ⟨rfl, u16, j16⟩ := q16
    refine J_goto (tgt := 27) dX10_untangled_19 (by decide) ?_
    exact J_ireturn dX10_untangled_27 rfl (by rfl) (by first | exact qMp_of (show opUnt (nI z2) σ = (0, uns (utg σ.1.1) z2, σ) by unfold opUnt; rw [if_pos c11, nI_clamp (n := z2) (by omega)]) rfl u16 (fr_tr k2 j16) | exact qMp_of (show opUnt k σ = fl 1 σ from if_neg c11) rfl (isMt_put w2 a24 b24).md (fr_tr k2 (fr_mono b24 (by omega) (by omega))))
set_option maxRecDepth 20000 in
theorem sp_X10_left (v : isMd G h y σ t hh) (o : okS σ) (k : Int32) (n : Nat) : Sp G mm_X10_left 5 0 0 [.ref y, .int k] h n (qMp G y h (opLeft k σ)) := by
  refine Sp_of (by decide +kernel) (Nat.le_of_ble_eq_true rfl) ?_
  obtain ⟨xs, b, e, hd, lg, a, rc, rt, w⟩ := v
  refine J_aload_n dX10_left_0 (by rfl) ?_
  refine J_iconst (v := 0) dX10_left_1 (by decide) ?_
  refine J_thr w fp_X10_41 dX10_left_2 (fun h2 w2 k2 x2 => ?_)
  refine J_iload_n dX10_left_5 (by rfl) ?_
  refine J_if_ge (tgt := 17) dX10_left_6 (by decide) (fun c6 => ?_) (fun c6 => ?_)
  · obtain ⟨z2, hk, rfl⟩ := i_ge0 c6
    refine J_aload_n dX10_left_17 (by rfl) ?_
    refine J_iload_n dX10_left_18 (by rfl) ?_
    refine J_callV mf_X10_tellsLeft lk_X10_199 mi_X10_tellsLeft mv_X10_tellsLeft (sp_X10_tellsLeft w2.md o hk _) dX10_left_19 (by first | assumption | exact isLT.ob (by assumption) | exact isMt.ob (by assumption) | exact isRow.ob (by assumption) | exact isHnd.ob (by assumption) | exact isUnt.ob (by assumption) | exact isSt.ob (by assumption) | exact isHist.ob (by assumption) | exact isTxt.ob (by assumption) | exact isLac.ob (by assumption) | exact isMea.ob (by assumption) | exact hset_s | exact (hset_n (by first | assumption | omega)).trans (by first | assumption | exact isLT.ob (by assumption) | exact isMt.ob (by assumption) | exact isRow.ob (by assumption) | exact isHnd.ob (by assumption) | exact isUnt.ob (by assumption) | exact isSt.ob (by assumption) | exact isHist.ob (by assumption) | exact isTxt.ob (by assumption) | exact isLac.ob (by assumption) | exact isMea.ob (by assumption) | exact hset_s | exact (hset_n (by first | assumption | omega)).trans (by first | assumption | exact isLT.ob (by assumption) | exact isMt.ob (by assumption) | exact isRow.ob (by assumption) | exact isHnd.ob (by assumption) | exact isUnt.ob (by assumption) | exact isSt.ob (by assumption) | exact isHist.ob (by assumption) | exact isTxt.ob (by assumption) | exact isLac.ob (by assumption) | exact isMea.ob (by assumption) | exact hset_s | exact (hset_n (by first | assumption | omega)).trans (by first | assumption | exact isLT.ob (by assumption) | exact isMt.ob (by assumption) | exact isRow.ob (by assumption) | exact isHnd.ob (by assumption) | exact isUnt.ob (by assumption) | exact isSt.ob (by assumption) | exact isHist.ob (by assumption) | exact isTxt.ob (by assumption) | exact isLac.ob (by assumption) | exact isMea.ob (by assumption))))) rfl rfl (by decide) (by rfl) rfl (Nat.le_of_ble_eq_true rfl) (Nat.zero_add _) (Nat.zero_add _) (fun v19 h19 n19 q19 => ?_)
    obtain ⟨rfl, u19, j19⟩ := q19
    exact J_ireturn dX10_left_22 rfl (by rfl) (by first | exact qMp_of (show opLeft (nI z2) σ = (0, lfs (utg σ.1.1) z2, σ) by unfold opLeft; rw [if_pos c6, nI_clamp (n := z2) (by omega)]) rfl u19 (fr_tr k2 j19) | exact qMp_of (show opLeft k σ = fl 1 σ from if_neg c6) rfl (isMt_put w2 a11 b11).md (fr_tr k2 (fr_mono b11 (by omega) (by omega))))
  · refine J_aload_n dX10_left_9 (by rfl) ?_
    refine J_iconst (v := 1) dX10_left_10 (by decide) ?_
    refine J_callV mf_X10_fails lk_X10_52 mi_X10_fails mv_X10_fails (sp_X10_fails w2.1 1 _) dX10_left_11 (by first | assumption | exact isLT.ob (by assumption) | exact isMt.ob (by assumption) | exact isRow.ob (by assumption) | exact isHnd.ob (by assumption) | exact isUnt.ob (by assumption) | exact isSt.ob (by assumption) | exact isHist.ob (by assumption) | exact isTxt.ob (by assumption) | exact isLac.ob (by assumption) | exact isMea.ob (by assumption) | exact hset_s | exact (hset_n (by first | assumption | omega)).trans (by first | assumption | exact isLT.ob (by assumption) | exact isMt.ob (by assumption) | exact isRow.ob (by assumption) | exact isHnd.ob (by assumption) | exact isUnt.ob (by assumption) | exact isSt.ob (by assumption) | exact isHist.ob (by assumption) | exact isTxt.ob (by assumption) | exact isLac.ob (by assumption) | exact isMea.ob (by assumption) | exact hset_s | exact (hset_n (by first | assumption | omega)).trans (by first | assumption | exact isLT.ob (by assumption) | exact isMt.ob (by assumption) | exact isRow.ob (by assumption) | exact isHnd.ob (by assumption) | exact isUnt.ob (by assumption) | exact isSt.ob (by assumption) | exact isHist.ob (by assumption) | exact isTxt.ob (by assumption) | exact isLac.ob (by assumption) | exact isMea.ob (by assumption) | exact hset_s | exact (hset_n (by first | assumption | omega)).trans (by first | assumption | exact isLT.ob (by assumption) | exact isMt.ob (by assumption) | exact isRow.ob (by assumption) | exact isHnd.ob (by assumption) | exact isUnt.ob (by assumption) | exact isSt.ob (by assumption) | exact isHist.ob (by assumption) | exact isTxt.ob (by assumption) | exact isLac.ob (by assumption) | exact isMea.ob (by assumption))))) rfl rfl (by decide) (by rfl) rfl (Nat.le_of_ble_eq_true rfl) (Nat.zero_add _) (Nat.zero_add _) (fun v11 h11 n11 q11 => ?_)
    obtain ⟨rfl, a11, b11⟩ := q11
    refine J_goto (tgt := 22) dX10_left_14 (by decide) ?_
    exact J_ireturn dX10_left_22 rfl (by rfl) (by first | exact qMp_of (show opLeft (nI z2) σ = (0, lfs (utg σ.1.1) z2, σ) by unfold opLeft; rw [if_pos c6, nI_clamp (n := z2) (by omega)]) rfl u19 (fr_tr k2 j19) | exact qMp_of (show opLeft k σ = fl 1 σ from if_neg c6) rfl (isMt_put w2 a11 b11).md (fr_tr k2 (fr_mono b11 (by omega) (by omega))))
set_option maxRecDepth 20000 in
theorem sp_X10_same (v : isMd G h y σ t hh) (o : okS σ) (n : Nat) : Sp G mm_X10_same 5 0 0 [.ref y] h n (qMp G y h (opSame σ)) := by
  refine Sp_of (by decide +kernel) (Nat.le_of_ble_eq_true rfl) ?_
  obtain ⟨xs, b, e, hd, lg, a, rc, rt, w⟩ := v
  refine J_aload_n dX10_same_0 (by rfl) ?_
  refine J_iconst (v := 0) dX10_same_1 (by decide) ?_
  refine J_thr w fp_X10_41 dX10_same_2 (fun h2 w2 k2 x2 => ?_)
  refine J_aload_n dX10_same_5 (by rfl) ?_
  refine J_get fg_X10_37 dX10_same_6 (by first | assumption | exact isLT.ob (by assumption) | exact isMt.ob (by assumption) | exact isRow.ob (by assumption) | exact isHnd.ob (by assumption) | exact isUnt.ob (by assumption) | exact isSt.ob (by assumption) | exact isHist.ob (by assumption) | exact isTxt.ob (by assumption) | exact isLac.ob (by assumption) | exact isMea.ob (by assumption) | exact hset_s | exact (hset_n (by first | assumption | omega)).trans (by first | assumption | exact isLT.ob (by assumption) | exact isMt.ob (by assumption) | exact isRow.ob (by assumption) | exact isHnd.ob (by assumption) | exact isUnt.ob (by assumption) | exact isSt.ob (by assumption) | exact isHist.ob (by assumption) | exact isTxt.ob (by assumption) | exact isLac.ob (by assumption) | exact isMea.ob (by assumption) | exact hset_s | exact (hset_n (by first | assumption | omega)).trans (by first | assumption | exact isLT.ob (by assumption) | exact isMt.ob (by assumption) | exact isRow.ob (by assumption) | exact isHnd.ob (by assumption) | exact isUnt.ob (by assumption) | exact isSt.ob (by assumption) | exact isHist.ob (by assumption) | exact isTxt.ob (by assumption) | exact isLac.ob (by assumption) | exact isMea.ob (by assumption) | exact hset_s | exact (hset_n (by first | assumption | omega)).trans (by first | assumption | exact isLT.ob (by assumption) | exact isMt.ob (by assumption) | exact isRow.ob (by assumption) | exact isHnd.ob (by assumption) | exact isUnt.ob (by assumption) | exact isSt.ob (by assumption) | exact isHist.ob (by assumption) | exact isTxt.ob (by assumption) | exact isLac.ob (by assumption) | exact isMea.ob (by assumption))))) (by rfl) ?_
  refine J_if_eq (tgt := 19) dX10_same_9 (by decide) (fun c9 => ?_) (fun c9 => ?_)
  · have c9 := fls c9
    refine J_aload_n dX10_same_19 (by rfl) ?_
    refine J_iconst (v := 1) dX10_same_20 (by decide) ?_
    refine J_callV mf_X10_fails lk_X10_52 mi_X10_fails mv_X10_fails (sp_X10_fails w2.1 1 _) dX10_same_21 (by first | assumption | exact isLT.ob (by assumption) | exact isMt.ob (by assumption) | exact isRow.ob (by assumption) | exact isHnd.ob (by assumption) | exact isUnt.ob (by assumption) | exact isSt.ob (by assumption) | exact isHist.ob (by assumption) | exact isTxt.ob (by assumption) | exact isLac.ob (by assumption) | exact isMea.ob (by assumption) | exact hset_s | exact (hset_n (by first | assumption | omega)).trans (by first | assumption | exact isLT.ob (by assumption) | exact isMt.ob (by assumption) | exact isRow.ob (by assumption) | exact isHnd.ob (by assumption) | exact isUnt.ob (by assumption) | exact isSt.ob (by assumption) | exact isHist.ob (by assumption) | exact isTxt.ob (by assumption) | exact isLac.ob (by assumption) | exact isMea.ob (by assumption) | exact hset_s | exact (hset_n (by first | assumption | omega)).trans (by first | assumption | exact isLT.ob (by assumption) | exact isMt.ob (by assumption) | exact isRow.ob (by assumption) | exact isHnd.ob (by assumption) | exact isUnt.ob (by assumption) | exact isSt.ob (by assumption) | exact isHist.ob (by assumption) | exact isTxt.ob (by assumption) | exact isLac.ob (by assumption) | exact isMea.ob (by assumption) | exact hset_s | exact (hset_n (by first | assumption | omega)).trans (by first | assumption | exact isLT.ob (by assumption) | exact isMt.ob (by assumption) | exact isRow.ob (by assumption) | exact isHnd.ob (by assumption) | exact isUnt.ob (by assumption) | exact isSt.ob (by assumption) | exact isHist.ob (by assumption) | exact isTxt.ob (by assumption) | exact isLac.ob (by assumption) | exact isMea.ob (by assumption))))) rfl rfl (by decide) (by rfl) rfl (Nat.le_of_ble_eq_true rfl) (Nat.zero_add _) (Nat.zero_add _) (fun v21 h21 n21 q21 => ?_)
    obtain ⟨rfl, a21, b21⟩ := q21
    exact J_ireturn dX10_same_24 rfl (by rfl) (by first | exact qMp_of (show opSame σ = (0, sme (utg (trn s.1 ++ σ.1.1)), σ) by unfold opSame; rw [hs]) rfl u13 (fr_tr k2 j13) | exact qMp_of (show opSame σ = fl 1 σ by unfold opSame; rw [Option.not_isSome_iff_eq_none.mp c9]) rfl (isMt_put w2 a21 b21).md (fr_tr k2 (fr_mono b21 (by omega) (by omega))))
  · have c9 := tru c9
    obtain ⟨s, hs⟩ := Option.isSome_iff_exists.mp c9
    refine J_aload_n dX10_same_12 (by rfl) ?_
    refine J_callV mf_X10_tellsSame lk_X10_202 mi_X10_tellsSame mv_X10_tellsSame (sp_X10_tellsSame w2.md o hs _) dX10_same_13 (by first | assumption | exact isLT.ob (by assumption) | exact isMt.ob (by assumption) | exact isRow.ob (by assumption) | exact isHnd.ob (by assumption) | exact isUnt.ob (by assumption) | exact isSt.ob (by assumption) | exact isHist.ob (by assumption) | exact isTxt.ob (by assumption) | exact isLac.ob (by assumption) | exact isMea.ob (by assumption) | exact hset_s | exact (hset_n (by first | assumption | omega)).trans (by first | assumption | exact isLT.ob (by assumption) | exact isMt.ob (by assumption) | exact isRow.ob (by assumption) | exact isHnd.ob (by assumption) | exact isUnt.ob (by assumption) | exact isSt.ob (by assumption) | exact isHist.ob (by assumption) | exact isTxt.ob (by assumption) | exact isLac.ob (by assumption) | exact isMea.ob (by assumption) | exact hset_s | exact (hset_n (by first | assumption | omega)).trans (by first | assumption | exact isLT.ob (by assumption) | exact isMt.ob (by assumption) | exact isRow.ob (by assumption) | exact isHnd.ob (by assumption) | exact isUnt.ob (by assumption) | exact isSt.ob (by assumption) | exact isHist.ob (by assumption) | exact isTxt.ob (by assumption) | exact isLac.ob (by assumption) | exact isMea.ob (by assumption) | exact hset_s | exact (hset_n (by first | assumption | omega)).trans (by first | assumption | exact isLT.ob (by assumption) | exact isMt.ob (by assumption) | exact isRow.ob (by assumption) | exact isHnd.ob (by assumption) | exact isUnt.ob (by assumption) | exact isSt.ob (by assumption) | exact isHist.ob (by assumption) | exact isTxt.ob (by assumption) | exact isLac.ob (by assumption) | exact isMea.ob (by assumption))))) rfl rfl (by decide) (by rfl) rfl (Nat.le_of_ble_eq_true rfl) (Nat.zero_add _) (Nat.zero_add _) (fun v13 h13 n13 q13 => ?_)
    obtain ⟨rfl, u13, j13⟩ := q13
    refine J_goto (tgt := 24) dX10_same_16 (by decide) ?_
    exact J_ireturn dX10_same_24 rfl (by rfl) (by first | exact qMp_of (show opSame σ = (0, sme (utg (trn s.1 ++ σ.1.1)), σ) by unfold opSame; rw [hs]) rfl u13 (fr_tr k2 j13) | exact qMp_of (show opSame σ = fl 1 σ by unfold opSame; rw [Option.not_isSome_iff_eq_none.mp c9]) rfl (isMt_put w2 a21 b21).md (fr_tr k2 (fr_mono b21 (by omega) (by omega))))
set_option maxRecDepth 20000 in
theorem sp_X10_possible (v : isMd G h y σ t hh) (o : okS σ) (m : Int32) (n : Nat) : Sp G mm_X10_possible 4 0 0 [.ref y, .int m] h n (qMp G y h (opPossible m σ)) := by
  refine Sp_of (by decide +kernel) (Nat.le_of_ble_eq_true rfl) ?_
  obtain ⟨xs, b, e, hd, lg, a, rc, rt, w⟩ := v
  refine J_aload_n dX10_possible_0 (by rfl) ?_
  refine J_iconst (v := 0) dX10_possible_1 (by decide) ?_
  refine J_thr w fp_X10_41 dX10_possible_2 (fun h2 w2 k2 x2 => ?_)
  refine J_iload_n dX10_possible_5 (by rfl) ?_
  refine J_callS mf_X10_isMove lk_X10_112 ms_X10_isMove (sp_X10_isMove _ m _) dX10_possible_6 (by decide) (by rfl) rfl (Nat.le_of_ble_eq_true rfl) (Nat.zero_add _) (Nat.zero_add _) (fun v6 h6 n6 q6 => ?_)
  obtain ⟨rfl, rfl⟩ := q6
  refine J_if_eq (tgt := 20) dX10_possible_9 (by decide) (fun c9 => ?_) (fun c9 => ?_)
  · have c9 := fls c9
    refine J_aload_n dX10_possible_20 (by rfl) ?_
    refine J_iconst (v := 1) dX10_possible_21 (by decide) ?_
    refine J_callV mf_X10_fails lk_X10_52 mi_X10_fails mv_X10_fails (sp_X10_fails w2.1 1 _) dX10_possible_22 (by first | assumption | exact isLT.ob (by assumption) | exact isMt.ob (by assumption) | exact isRow.ob (by assumption) | exact isHnd.ob (by assumption) | exact isUnt.ob (by assumption) | exact isSt.ob (by assumption) | exact isHist.ob (by assumption) | exact isTxt.ob (by assumption) | exact isLac.ob (by assumption) | exact isMea.ob (by assumption) | exact hset_s | exact (hset_n (by first | assumption | omega)).trans (by first | assumption | exact isLT.ob (by assumption) | exact isMt.ob (by assumption) | exact isRow.ob (by assumption) | exact isHnd.ob (by assumption) | exact isUnt.ob (by assumption) | exact isSt.ob (by assumption) | exact isHist.ob (by assumption) | exact isTxt.ob (by assumption) | exact isLac.ob (by assumption) | exact isMea.ob (by assumption) | exact hset_s | exact (hset_n (by first | assumption | omega)).trans (by first | assumption | exact isLT.ob (by assumption) | exact isMt.ob (by assumption) | exact isRow.ob (by assumption) | exact isHnd.ob (by assumption) | exact isUnt.ob (by assumption) | exact isSt.ob (by assumption) | exact isHist.ob (by assumption) | exact isTxt.ob (by assumption) | exact isLac.ob (by assumption) | exact isMea.ob (by assumption) | exact hset_s | exact (hset_n (by first | assumption | omega)).trans (by first | assumption | exact isLT.ob (by assumption) | exact isMt.ob (by assumption) | exact isRow.ob (by assumption) | exact isHnd.ob (by assumption) | exact isUnt.ob (by assumption) | exact isSt.ob (by assumption) | exact isHist.ob (by assumption) | exact isTxt.ob (by assumption) | exact isLac.ob (by assumption) | exact isMea.ob (by assumption))))) rfl rfl (by decide) (by rfl) rfl (Nat.le_of_ble_eq_true rfl) (Nat.zero_add _) (Nat.zero_add _) (fun v22 h22 n22 q22 => ?_)
    obtain ⟨rfl, a22, b22⟩ := q22
    exact J_ireturn dX10_possible_25 rfl (by rfl) (by first | exact qMp_of (show opPossible (nI m2) σ = (0, nI (plc σ.1.1 m2), σ) by unfold opPossible; rw [if_pos c9, nI_clamp (n := m2) (by omega)]) rfl u14 (fr_tr k2 j14) | exact qMp_of (show opPossible m σ = fl 1 σ from if_neg c9) rfl (isMt_put w2 a22 b22).md (fr_tr k2 (fr_mono b22 (by omega) (by omega))))
  · have c9 := tru c9
    obtain ⟨m2, hm, rfl⟩ := i_le2 c9
    refine J_aload_n dX10_possible_12 (by rfl) ?_
    refine J_iload_n dX10_possible_13 (by rfl) ?_
    refine J_callV mf_X10_tellsPossible lk_X10_208 mi_X10_tellsPossible mv_X10_tellsPossible (sp_X10_tellsPossible w2.md o hm _) dX10_possible_14 (by first | assumption | exact isLT.ob (by assumption) | exact isMt.ob (by assumption) | exact isRow.ob (by assumption) | exact isHnd.ob (by assumption) | exact isUnt.ob (by assumption) | exact isSt.ob (by assumption) | exact isHist.ob (by assumption) | exact isTxt.ob (by assumption) | exact isLac.ob (by assumption) | exact isMea.ob (by assumption) | exact hset_s | exact (hset_n (by first | assumption | omega)).trans (by first | assumption | exact isLT.ob (by assumption) | exact isMt.ob (by assumption) | exact isRow.ob (by assumption) | exact isHnd.ob (by assumption) | exact isUnt.ob (by assumption) | exact isSt.ob (by assumption) | exact isHist.ob (by assumption) | exact isTxt.ob (by assumption) | exact isLac.ob (by assumption) | exact isMea.ob (by assumption) | exact hset_s | exact (hset_n (by first | assumption | omega)).trans (by first | assumption | exact isLT.ob (by assumption) | exact isMt.ob (by assumption) | exact isRow.ob (by assumption) | exact isHnd.ob (by assumption) | exact isUnt.ob (by assumption) | exact isSt.ob (by assumption) | exact isHist.ob (by assumption) | exact isTxt.ob (by assumption) | exact isLac.ob (by assumption) | exact isMea.ob (by assumption) | exact hset_s | exact (hset_n (by first | assumption | omega)).trans (by first | assumption | exact isLT.ob (by assumption) | exact isMt.ob (by assumption) | exact isRow.ob (by assumption) | exact isHnd.ob (by assumption) | exact isUnt.ob (by assumption) | exact isSt.ob (by assumption) | exact isHist.ob (by assumption) | exact isTxt.ob (by assumption) | exact isLac.ob (by assumption) | exact isMea.ob (by assumption))))) rfl rfl (by decide) (by rfl) rfl (Nat.le_of_ble_eq_true rfl) (Nat.zero_add _) (Nat.zero_add _) (fun v14 h14 n14 q14 => ?_)
    obtain ⟨rfl, u14, j14⟩ := q14
    refine J_goto (tgt := 25) dX10_possible_17 (by decide) ?_
    exact J_ireturn dX10_possible_25 rfl (by rfl) (by first | exact qMp_of (show opPossible (nI m2) σ = (0, nI (plc σ.1.1 m2), σ) by unfold opPossible; rw [if_pos c9, nI_clamp (n := m2) (by omega)]) rfl u14 (fr_tr k2 j14) | exact qMp_of (show opPossible m σ = fl 1 σ from if_neg c9) rfl (isMt_put w2 a22 b22).md (fr_tr k2 (fr_mono b22 (by omega) (by omega))))
def opBest (σ : Sg) : Nat × Int32 × Sg := (0, best σ.1.1, σ)
set_option maxRecDepth 20000 in
theorem sp_X10_bestMove (v : isMd G h y σ t hh) (o : okS σ) (n : Nat) : Sp G mm_X10_bestMove 5 0 0 [.ref y] h n (qMp G y h (opBest σ)) := by
  refine Sp_of (by decide +kernel) (Nat.le_of_ble_eq_true rfl) ?_
  obtain ⟨xs, b, e, hd, lg, a, rc, rt, w⟩ := v
  refine J_aload_n dX10_bestMove_0 (by rfl) ?_
  refine J_iconst (v := 0) dX10_bestMove_1 (by decide) ?_
  refine J_thr w fp_X10_41 dX10_bestMove_2 (fun h2 w2 k2 x2 => ?_)
  refine J_aload_n dX10_bestMove_5 (by rfl) ?_
  refine J_callV mf_X10_tellsBest lk_X10_211 mi_X10_tellsBest mv_X10_tellsBest (sp_X10_tellsBest w2.md o _) dX10_bestMove_6 (by first | assumption | exact isLT.ob (by assumption) | exact isMt.ob (by assumption) | exact isRow.ob (by assumption) | exact isHnd.ob (by assumption) | exact isUnt.ob (by assumption) | exact isSt.ob (by assumption) | exact isHist.ob (by assumption) | exact isTxt.ob (by assumption) | exact isLac.ob (by assumption) | exact isMea.ob (by assumption) | exact hset_s | exact (hset_n (by first | assumption | omega)).trans (by first | assumption | exact isLT.ob (by assumption) | exact isMt.ob (by assumption) | exact isRow.ob (by assumption) | exact isHnd.ob (by assumption) | exact isUnt.ob (by assumption) | exact isSt.ob (by assumption) | exact isHist.ob (by assumption) | exact isTxt.ob (by assumption) | exact isLac.ob (by assumption) | exact isMea.ob (by assumption) | exact hset_s | exact (hset_n (by first | assumption | omega)).trans (by first | assumption | exact isLT.ob (by assumption) | exact isMt.ob (by assumption) | exact isRow.ob (by assumption) | exact isHnd.ob (by assumption) | exact isUnt.ob (by assumption) | exact isSt.ob (by assumption) | exact isHist.ob (by assumption) | exact isTxt.ob (by assumption) | exact isLac.ob (by assumption) | exact isMea.ob (by assumption) | exact hset_s | exact (hset_n (by first | assumption | omega)).trans (by first | assumption | exact isLT.ob (by assumption) | exact isMt.ob (by assumption) | exact isRow.ob (by assumption) | exact isHnd.ob (by assumption) | exact isUnt.ob (by assumption) | exact isSt.ob (by assumption) | exact isHist.ob (by assumption) | exact isTxt.ob (by assumption) | exact isLac.ob (by assumption) | exact isMea.ob (by assumption))))) rfl rfl (by decide) (by rfl) rfl (Nat.le_of_ble_eq_true rfl) (Nat.zero_add _) (Nat.zero_add _) (fun v6 h6 n6 q6 => ?_)
  obtain ⟨rfl, u6, j6⟩ := q6
  exact J_ireturn dX10_bestMove_9 rfl (by rfl) (qMp_of (show opBest σ = (0, best σ.1.1, σ) from rfl) rfl u6 (fr_tr k2 j6))
set_option maxRecDepth 20000 in
theorem sp_X10_slack (v : isMd G h y σ t hh) (o : okS σ) (n : Nat) : Sp G mm_X10_slack 4 0 0 [.ref y] h n (fun v h' _ => v = some (.double (slk σ.1.1)) ∧ (∃ hh, isMd G h' y σ (nI 0) hh) ∧ fr y (y + 10) h h') := by
  refine Sp_of (by decide +kernel) (Nat.le_of_ble_eq_true rfl) ?_
  obtain ⟨xs, b, e, hd, lg, a, rc, rt, w⟩ := v
  refine J_aload_n dX10_slack_0 (by rfl) ?_
  refine J_iconst (v := 0) dX10_slack_1 (by decide) ?_
  refine J_thr w fp_X10_41 dX10_slack_2 (fun h2 w2 k2 x2 => ?_)
  refine J_aload_n dX10_slack_5 (by rfl) ?_
  refine J_callV mf_X10_share lk_X10_214 mi_X10_share mv_X10_share (sp_X10_share w2.md o _) dX10_slack_6 (by first | assumption | exact isLT.ob (by assumption) | exact isMt.ob (by assumption) | exact isRow.ob (by assumption) | exact isHnd.ob (by assumption) | exact isUnt.ob (by assumption) | exact isSt.ob (by assumption) | exact isHist.ob (by assumption) | exact isTxt.ob (by assumption) | exact isLac.ob (by assumption) | exact isMea.ob (by assumption) | exact hset_s | exact (hset_n (by first | assumption | omega)).trans (by first | assumption | exact isLT.ob (by assumption) | exact isMt.ob (by assumption) | exact isRow.ob (by assumption) | exact isHnd.ob (by assumption) | exact isUnt.ob (by assumption) | exact isSt.ob (by assumption) | exact isHist.ob (by assumption) | exact isTxt.ob (by assumption) | exact isLac.ob (by assumption) | exact isMea.ob (by assumption) | exact hset_s | exact (hset_n (by first | assumption | omega)).trans (by first | assumption | exact isLT.ob (by assumption) | exact isMt.ob (by assumption) | exact isRow.ob (by assumption) | exact isHnd.ob (by assumption) | exact isUnt.ob (by assumption) | exact isSt.ob (by assumption) | exact isHist.ob (by assumption) | exact isTxt.ob (by assumption) | exact isLac.ob (by assumption) | exact isMea.ob (by assumption) | exact hset_s | exact (hset_n (by first | assumption | omega)).trans (by first | assumption | exact isLT.ob (by assumption) | exact isMt.ob (by assumption) | exact isRow.ob (by assumption) | exact isHnd.ob (by assumption) | exact isUnt.ob (by assumption) | exact isSt.ob (by assumption) | exact isHist.ob (by assumption) | exact isTxt.ob (by assumption) | exact isLac.ob (by assumption) | exact isMea.ob (by assumption))))) rfl rfl (by decide) (by rfl) rfl (Nat.le_of_ble_eq_true rfl) (Nat.zero_add _) (Nat.zero_add _) (fun v6 h6 n6 q6 => ?_)
  obtain ⟨rfl, u6, j6⟩ := q6
  exact J_dreturn dX10_slack_9 rfl (⟨rfl, ⟨_, u6⟩, fr_tr k2 j6⟩)
end MD
/-! what stays true of the state -/
theorem okS_sv {σ : Sg} (o : okS σ) {s : List Int32 × Nat} (hs : okT s) : okS (sv6 σ s) := by
  refine ⟨hs, fun t ht => ?_, o.2.2⟩
  rcases List.mem_cons.mp (List.mem_of_mem_take ht) with rfl | q
  · exact o.1
  · exact o.2.1 t q
theorem ok_cross {σ : Sg} (o : okS σ) (c : Int32) : okS (opCross c σ).2.2 := by
  unfold opCross
  split
  · rename_i hc
    split
    · exact o
    · refine okS_sv o ⟨app_allX o.1.1 ?_, by show (σ.1.1 ++ [c]).length ≤ 30; rw [List.length_append]; show _ + 1 ≤ 30; omega⟩
      rw [allX_mem]
      intro x hx
      rw [List.mem_singleton.mp hx]
      obtain ⟨a, b, d⟩ := hc
      rw [Int32.le_iff_toInt_le, show (-3 : Int32).toInt = -3 by decide] at a
      rw [Int32.le_iff_toInt_le, show (3 : Int32).toInt = 3 by decide] at b
      unfold isX
      rcases (show c.toInt = 1 ∨ c.toInt = 2 ∨ c.toInt = 3 ∨ c.toInt = -1 ∨ c.toInt = -2 ∨ c.toInt = -3 ∨ c.toInt = 0 by omega) with e | e | e | e | e | e | e
      · exact Or.inl (Int32.toInt_inj.mp (e.trans (by decide)))
      · exact Or.inr (Or.inl (Int32.toInt_inj.mp (e.trans (by decide))))
      · exact Or.inr (Or.inr (Or.inl (Int32.toInt_inj.mp (e.trans (by decide)))))
      · exact Or.inr (Or.inr (Or.inr (Or.inl (Int32.toInt_inj.mp (e.trans (by decide))))))
      · exact Or.inr (Or.inr (Or.inr (Or.inr (Or.inl (Int32.toInt_inj.mp (e.trans (by decide)))))))
      · exact Or.inr (Or.inr (Or.inr (Or.inr (Or.inr (Int32.toInt_inj.mp (e.trans (by decide)))))))
      · exact absurd (Int32.toInt_inj.mp (e.trans (by decide))) d
  · exact o
theorem isX_of {c : Int32} (h : -3 ≤ c ∧ c ≤ 3 ∧ ¬ c = 0) : isX c := by
  have o : okS ((([] : List Int32), 0), [], [], none) := ⟨⟨fun k hk => absurd hk (Nat.not_lt_zero _), Nat.zero_le _⟩, (fun t ht => by cases ht), (fun t ht => by cases ht)⟩
  have := ok_cross o c
  unfold opCross at this
  rw [if_pos h, if_neg (by show ¬ 30 ≤ ([] : List Int32).length; decide)] at this
  exact this.1.1 0 (show 0 < 1 from Nat.one_pos)
theorem take_allX {xs : List Int32} {k : Nat} (h : allX xs) : allX (xs.take k) := by
  rw [allX_mem] at *
  exact fun x hx => h x (List.mem_of_mem_take hx)
theorem ok_open {σ : Sg} (o : okS σ) : okS (opOpen σ).2.2 := by
  unfold opOpen
  split
  · exact o
  · exact okS_sv o ⟨take_allX o.1.1, by show (σ.1.1.take _).length ≤ 30; rw [List.length_take]; have := o.1.2; omega⟩
theorem ok_move {σ : Sg} (o : okS σ) (m k : Int32) : okS (opMove m k σ).2.2 := by
  unfold opMove
  split
  · rename_i hc
    split
    · rename_i hr
      obtain ⟨m2, hm, rfl⟩ := i_le2 hc.1
      rw [nI_clamp (n := m2) (by omega)] at *
      exact okS_sv o ⟨mk_allX o.1.1 hm (rsn_fit hr), Nat.le_trans (mk_le _ _ _) o.1.2⟩
    · exact o
  · exact o
theorem ins_allX {xs : List Int32} {k : Nat} {c : Int32} (h : allX xs) (hc : isX c) : allX (insP xs k c) := by
  rw [allX_mem] at *
  intro x hx
  unfold insP at hx
  rcases List.mem_append.mp hx with q | q
  · exact h x (List.mem_of_mem_take q)
  · rcases List.mem_append.mp q with q | q
    · rcases List.mem_cons.mp q with rfl | q
      · exact hc
      · rw [List.mem_singleton.mp q]; exact neg_isX hc
    · exact h x (List.mem_of_mem_drop q)
theorem ok_pair {σ : Sg} (o : okS σ) (k c : Int32) : okS (opPair k c σ).2.2 := by
  unfold opPair
  split
  · rename_i hc
    split
    · exact o
    · rename_i hl
      obtain ⟨z, hz, rfl⟩ := i_ge0 hc.1.1
      rw [nI_clamp hz] at *
      have hxl := o.1.2
      have e := (nI_leI (by omega) (by omega)).mp hc.1.2
      exact okS_sv o ⟨ins_allX o.1.1 (isX_of hc.2), by show (insP σ.1.1 z c).length ≤ 30; rw [insP_len e]; omega⟩
  · exact o
theorem red_allX {xs : List Int32} (h : allX xs) : allX (red xs) := by
  have key : ∀ (ys a : List Int32), (∀ x, x ∈ ys → isX x) → (∀ x, x ∈ a → isX x) → ∀ x, x ∈ ys.foldl cst a → isX x := by
    intro ys
    induction ys with
    | nil => intro a _ ha x hx; exact ha x hx
    | cons z ys ih =>
      intro a hy ha x hx
      refine ih (cst a z) (fun x hx => hy x (List.mem_cons_of_mem _ hx)) (fun x hx => ?_) x hx
      unfold cst at hx
      split at hx
      · exact ha x (List.mem_of_mem_take hx)
      · rcases List.mem_append.mp hx with q | q
        · exact ha x q
        · rw [List.mem_singleton.mp q]; exact hy z List.mem_cons_self
  rw [allX_mem] at *
  exact key xs [] h (fun x hx => by cases hx)
theorem ok_pull {σ : Sg} (o : okS σ) : okS (opPull σ).2.2 := by
  have hrl := red_len σ.1.1 σ.1.1.length
  rw [List.take_length] at hrl
  exact okS_sv o ⟨red_allX o.1.1, Nat.le_trans hrl o.1.2⟩
theorem ok_turn {σ : Sg} (o : okS σ) : okS (opTurn σ).2.2 := okS_sv o ⟨trn_allX o.1.1, by show (trn σ.1.1).length ≤ 30; rw [trn_len]; exact o.1.2⟩
theorem ok_handle {σ : Sg} (o : okS σ) : okS (opHandle σ).2.2 := by
  unfold opHandle
  split
  · exact o
  · rename_i p q hfh
    obtain ⟨hpq, hq, -⟩ := fh_lt hfh
    split
    · exact o
    · exact okS_sv o ⟨tko_allX o.1.1 hpq hq, by show (tko σ.1.1 p q).length ≤ 30; rw [tko_len hpq hq]; omega⟩
theorem ok_append {σ : Sg} (o : okS σ) (c : Int32) : okS (opAppend c σ).2.2 := by
  unfold opAppend
  split
  · split
    · exact o
    · exact ⟨o.1, o.2.1, o.2.2⟩
  · exact o
theorem ok_clear {σ : Sg} (o : okS σ) : okS (opClear σ).2.2 := ⟨o.1, o.2.1, o.2.2⟩
theorem pbT_allX (cs : List Int32) : ∀ k, ∀ x, x ∈ pbT cs k → isX x := by
  intro k
  induction k with
  | zero => intro x hx; cases hx
  | succ k ih =>
    intro x hx
    rw [pbT] at hx
    rcases List.mem_append.mp hx with q | q
    · exact ih x q
    · split at q
      · cases q
      · rename_i hc
        rw [(List.mem_replicate.mp q).2]
        exact cro_X hc
theorem ok_lace {σ : Sg} (o : okS σ) : okS (opLace σ).2.2 := by
  unfold opLace
  split
  · refine okS_sv (s := ((σ.1.1 ++ pb σ.2.2.1).take 30, σ.1.2)) o ⟨take_allX (app_allX o.1.1 (allX_mem.mpr (pbT_allX _ _))), ?_⟩
    show ((σ.1.1 ++ pb σ.2.2.1).take 30).length ≤ 30
    rw [List.length_take]
    omega
  · exact o
theorem ok_undo {σ : Sg} (o : okS σ) : okS (opUndo σ).2.2 := by
  unfold opUndo
  split
  · exact o
  · rename_i t r hs
    have h := o.2.1
    rw [hs] at h
    exact ⟨h t List.mem_cons_self, fun u hu => h u (List.mem_cons_of_mem _ hu), o.2.2⟩
theorem ok_keep {σ : Sg} (o : okS σ) : okS (opKeep σ).2.2 := ⟨o.1, o.2.1, fun t ht => by cases ht; exact o.1⟩
theorem ok_restore {σ : Sg} (o : okS σ) : okS (opRestore σ).2.2 := by
  unfold opRestore
  split
  · exact o
  · rename_i t hs
    exact okS_sv o (o.2.2 t hs)
