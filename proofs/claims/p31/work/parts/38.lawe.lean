/-! the law's own: what is due -/
def qDue (G : GG) (q r : Nat) (h : HP) (R : Nat × Int32 × Sg) : Option Value → HP → Nat → Prop := fun v h' _ => v = some (.int (if R.1 = 0 then R.2.1 else -103)) ∧ isRA G h' r R.2.2.1.1 ∧ isQA G h' q R.2.2.1.1.length R.2.2.1.2 ∧ ky 0 q h h'
theorem qDue_ok {G : GG} {q r n : Nat} {h h' : HP} {R : Nat × Int32 × Sg} {a : Int32} {σ : Sg} {v : Option Value} (e : R = (0, a, σ)) (hv : v = some (.int a)) (w : isRA G h' r σ.1.1) (u : isQA G h' q σ.1.1.length σ.1.2) (k : ky 0 q h h') : qDue G q r h R v h' n := by
  subst e
  exact ⟨hv, w, u, k⟩
theorem qDue_no {G : GG} {q r n i : Nat} {h h' : HP} {R : Nat × Int32 × Sg} {σ : Sg} {v : Option Value} (e : R = fl (i + 1) σ) (hv : v = some (.int (-103))) (w : isRA G h' r σ.1.1) (u : isQA G h' q σ.1.1.length σ.1.2) (k : ky 0 q h h') : qDue G q r h R v h' n := by
  subst e
  exact ⟨hv.trans (by rw [if_neg (show ¬ (fl (i + 1) σ).1 = 0 from Nat.succ_ne_zero i)]), w, u, k⟩
theorem isQA_set {G : GG} {h : HP} {q n m : Nat} {f : Nat → Int32} {c : va_E} (hc : c = .inl (G.2.1 0, 2, .inl f)) (h0 : f 0 = nI n) (h1 : f 1 = nI m) : isQA G (hset h q c) q n m := ⟨f, by rw [hc]; exact hset_s, h0, h1⟩
theorem cr_ok : ∀ c ∈ xl, (-3 : Int32) ≤ c ∧ c ≤ 3 ∧ ¬ c = 0 := by decide +kernel
section DU
variable {G : GG} {h : HP} {q r : Nat} {σ : Sg}
set_option maxRecDepth 20000 in
theorem sp_L_due0 (w : isRA G h r σ.1.1) (v : isQA G h q σ.1.1.length σ.1.2) (hqr : q < r) {a : Int32} (ha : isX a) (b : Int32) (n : Nat) : Sp G mm_L_due 3 1 64 [.int (nI 0), .int a, .int b, .ref q, .ref r] h n (qDue G q r h (opCross a σ)) := by
  refine Sp_of (by decide +kernel) (Nat.le_of_ble_eq_true rfl) ?_
  have w0 := w
  have v0 := v
  obtain ⟨f, h1, h2, h3⟩ := w
  obtain ⟨fq, q0, q1, q2⟩ := v
  have hc := cr_ok a ha.xl
  refine J_aload_n dL_due_0 (by rfl) ?_
  refine J_iconst (v := nI 0) dL_due_1 (by decide) ?_
  refine J_ga dL_due_2 (by first | assumption | exact isLT.ob (by assumption) | exact isRow.ob (by assumption) | exact isHnd.ob (by assumption) | exact isUnt.ob (by assumption) | exact isSt.ob (by assumption) | exact isHist.ob (by assumption) | exact isTxt.ob (by assumption) | exact isLac.ob (by assumption) | exact isMea.ob (by assumption) | exact hset_s | exact (hset_n (by first | assumption | omega)).trans (by first | assumption | exact isLT.ob (by assumption) | exact isRow.ob (by assumption) | exact isHnd.ob (by assumption) | exact isUnt.ob (by assumption) | exact isSt.ob (by assumption) | exact isHist.ob (by assumption) | exact isTxt.ob (by assumption) | exact isLac.ob (by assumption) | exact isMea.ob (by assumption) | exact hset_s | exact (hset_n (by first | assumption | omega)).trans (by first | assumption | exact isLT.ob (by assumption) | exact isRow.ob (by assumption) | exact isHnd.ob (by assumption) | exact isUnt.ob (by assumption) | exact isSt.ob (by assumption) | exact isHist.ob (by assumption) | exact isTxt.ob (by assumption) | exact isLac.ob (by assumption) | exact isMea.ob (by assumption) | exact hset_s | exact (hset_n (by first | assumption | omega)).trans (by first | assumption | exact isLT.ob (by assumption) | exact isRow.ob (by assumption) | exact isHnd.ob (by assumption) | exact isUnt.ob (by assumption) | exact isSt.ob (by assumption) | exact isHist.ob (by assumption) | exact isTxt.ob (by assumption) | exact isLac.ob (by assumption) | exact isMea.ob (by assumption))))) (by first | assumption | omega) (by omega) ?_
  rw [q1]
  refine J_istore dL_due_3 (by decide) (by rfl) ?_
  refine J_iload_n dL_due_5 (by rfl) ?_
  refine J_tableIn (off := 38) (tgt := 44) dL_due_6 (by decide) (by decide) (by decide) (by decide) ?_
  refine J_iload dL_due_44 (by rfl) ?_
  refine J_bipush (v := nI 30) dL_due_46 (by decide) ?_
  refine J_icmp_ne (tgt := 54) dL_due_48 (by decide) (fun c48 => ?_) (fun c48 => ?_)
  · rw [nI_eq (by omega) (by omega)] at c48
    refine J_aload dL_due_54 (by rfl) ?_
    refine J_iload dL_due_56 (by rfl) ?_
    refine J_iload_n dL_due_58 (by rfl) ?_
    refine J_pa dL_due_59 (by first | assumption | exact isLT.ob (by assumption) | exact isRow.ob (by assumption) | exact isHnd.ob (by assumption) | exact isUnt.ob (by assumption) | exact isSt.ob (by assumption) | exact isHist.ob (by assumption) | exact isTxt.ob (by assumption) | exact isLac.ob (by assumption) | exact isMea.ob (by assumption) | exact hset_s | exact (hset_n (by first | assumption | omega)).trans (by first | assumption | exact isLT.ob (by assumption) | exact isRow.ob (by assumption) | exact isHnd.ob (by assumption) | exact isUnt.ob (by assumption) | exact isSt.ob (by assumption) | exact isHist.ob (by assumption) | exact isTxt.ob (by assumption) | exact isLac.ob (by assumption) | exact isMea.ob (by assumption) | exact hset_s | exact (hset_n (by first | assumption | omega)).trans (by first | assumption | exact isLT.ob (by assumption) | exact isRow.ob (by assumption) | exact isHnd.ob (by assumption) | exact isUnt.ob (by assumption) | exact isSt.ob (by assumption) | exact isHist.ob (by assumption) | exact isTxt.ob (by assumption) | exact isLac.ob (by assumption) | exact isMea.ob (by assumption) | exact hset_s | exact (hset_n (by first | assumption | omega)).trans (by first | assumption | exact isLT.ob (by assumption) | exact isRow.ob (by assumption) | exact isHnd.ob (by assumption) | exact isUnt.ob (by assumption) | exact isSt.ob (by assumption) | exact isHist.ob (by assumption) | exact isTxt.ob (by assumption) | exact isLac.ob (by assumption) | exact isMea.ob (by assumption))))) (by first | assumption | omega) (by omega) ?_
    refine J_aload_n dL_due_60 (by rfl) ?_
    refine J_iconst (v := nI 0) dL_due_61 (by decide) ?_
    refine J_dup2 dL_due_62 rfl rfl ?_
    refine J_ga dL_due_63 (by first | assumption | exact isLT.ob (by assumption) | exact isRow.ob (by assumption) | exact isHnd.ob (by assumption) | exact isUnt.ob (by assumption) | exact isSt.ob (by assumption) | exact isHist.ob (by assumption) | exact isTxt.ob (by assumption) | exact isLac.ob (by assumption) | exact isMea.ob (by assumption) | exact hset_s | exact (hset_n (by first | assumption | omega)).trans (by first | assumption | exact isLT.ob (by assumption) | exact isRow.ob (by assumption) | exact isHnd.ob (by assumption) | exact isUnt.ob (by assumption) | exact isSt.ob (by assumption) | exact isHist.ob (by assumption) | exact isTxt.ob (by assumption) | exact isLac.ob (by assumption) | exact isMea.ob (by assumption) | exact hset_s | exact (hset_n (by first | assumption | omega)).trans (by first | assumption | exact isLT.ob (by assumption) | exact isRow.ob (by assumption) | exact isHnd.ob (by assumption) | exact isUnt.ob (by assumption) | exact isSt.ob (by assumption) | exact isHist.ob (by assumption) | exact isTxt.ob (by assumption) | exact isLac.ob (by assumption) | exact isMea.ob (by assumption) | exact hset_s | exact (hset_n (by first | assumption | omega)).trans (by first | assumption | exact isLT.ob (by assumption) | exact isRow.ob (by assumption) | exact isHnd.ob (by assumption) | exact isUnt.ob (by assumption) | exact isSt.ob (by assumption) | exact isHist.ob (by assumption) | exact isTxt.ob (by assumption) | exact isLac.ob (by assumption) | exact isMea.ob (by assumption))))) (by first | assumption | omega) (by omega) ?_
    rw [q1]
    refine J_iconst (v := 1) dL_due_64 (by decide) ?_
    refine J_iadd dL_due_65 ?_
    rw [nI_1]
    refine J_pa dL_due_66 (by first | assumption | exact isLT.ob (by assumption) | exact isRow.ob (by assumption) | exact isHnd.ob (by assumption) | exact isUnt.ob (by assumption) | exact isSt.ob (by assumption) | exact isHist.ob (by assumption) | exact isTxt.ob (by assumption) | exact isLac.ob (by assumption) | exact isMea.ob (by assumption) | exact hset_s | exact (hset_n (by first | assumption | omega)).trans (by first | assumption | exact isLT.ob (by assumption) | exact isRow.ob (by assumption) | exact isHnd.ob (by assumption) | exact isUnt.ob (by assumption) | exact isSt.ob (by assumption) | exact isHist.ob (by assumption) | exact isTxt.ob (by assumption) | exact isLac.ob (by assumption) | exact isMea.ob (by assumption) | exact hset_s | exact (hset_n (by first | assumption | omega)).trans (by first | assumption | exact isLT.ob (by assumption) | exact isRow.ob (by assumption) | exact isHnd.ob (by assumption) | exact isUnt.ob (by assumption) | exact isSt.ob (by assumption) | exact isHist.ob (by assumption) | exact isTxt.ob (by assumption) | exact isLac.ob (by assumption) | exact isMea.ob (by assumption) | exact hset_s | exact (hset_n (by first | assumption | omega)).trans (by first | assumption | exact isLT.ob (by assumption) | exact isRow.ob (by assumption) | exact isHnd.ob (by assumption) | exact isUnt.ob (by assumption) | exact isSt.ob (by assumption) | exact isHist.ob (by assumption) | exact isTxt.ob (by assumption) | exact isLac.ob (by assumption) | exact isMea.ob (by assumption))))) (by first | assumption | omega) (by omega) ?_
    refine J_aload_n dL_due_67 (by rfl) ?_
    refine J_iconst (v := nI 0) dL_due_68 (by decide) ?_
    refine J_ga dL_due_69 (by first | assumption | exact isLT.ob (by assumption) | exact isRow.ob (by assumption) | exact isHnd.ob (by assumption) | exact isUnt.ob (by assumption) | exact isSt.ob (by assumption) | exact isHist.ob (by assumption) | exact isTxt.ob (by assumption) | exact isLac.ob (by assumption) | exact isMea.ob (by assumption) | exact hset_s | exact (hset_n (by first | assumption | omega)).trans (by first | assumption | exact isLT.ob (by assumption) | exact isRow.ob (by assumption) | exact isHnd.ob (by assumption) | exact isUnt.ob (by assumption) | exact isSt.ob (by assumption) | exact isHist.ob (by assumption) | exact isTxt.ob (by assumption) | exact isLac.ob (by assumption) | exact isMea.ob (by assumption) | exact hset_s | exact (hset_n (by first | assumption | omega)).trans (by first | assumption | exact isLT.ob (by assumption) | exact isRow.ob (by assumption) | exact isHnd.ob (by assumption) | exact isUnt.ob (by assumption) | exact isSt.ob (by assumption) | exact isHist.ob (by assumption) | exact isTxt.ob (by assumption) | exact isLac.ob (by assumption) | exact isMea.ob (by assumption) | exact hset_s | exact (hset_n (by first | assumption | omega)).trans (by first | assumption | exact isLT.ob (by assumption) | exact isRow.ob (by assumption) | exact isHnd.ob (by assumption) | exact isUnt.ob (by assumption) | exact isSt.ob (by assumption) | exact isHist.ob (by assumption) | exact isTxt.ob (by assumption) | exact isLac.ob (by assumption) | exact isMea.ob (by assumption))))) (by first | assumption | omega) (by omega) ?_
    rw [upd_s]
    exact J_ireturn dL_due_70 rfl (by rfl) (qDue_ok (show opCross a σ = (0, nI (σ.1.1.length + 1), sv6 σ (σ.1.1 ++ [a], σ.1.2)) by unfold opCross; rw [if_pos hc, if_neg (by omega)]) rfl ⟨_, (hset_n (by omega)).trans hset_s, by show (σ.1.1 ++ [a]).length ≤ 30; rw [List.length_append]; show _ + 1 ≤ 30; omega, row_push h3 a⟩ (isQA_set rfl (by rw [upd_s]; show _ = nI (σ.1.1 ++ [a]).length; rw [List.length_append]; rfl) (by rw [upd_n (by omega)]; exact q2)) (ky_tr (ky_set (Or.inr (by omega))) (ky_set (Or.inr (by omega)))))
  · rw [nI_eq (by omega) (by omega)] at c48
    refine J_bipush (v := (-103)) dL_due_51 (by decide) ?_
    exact J_ireturn dL_due_53 rfl (by rfl) (qDue_no (i := 1) (show opCross a σ = fl 2 σ by unfold opCross; rw [if_pos hc, if_pos (by omega)]) rfl w0 v0 ky_rf)
set_option maxRecDepth 20000 in
theorem sp_L_due1 (w : isRA G h r σ.1.1) (v : isQA G h q σ.1.1.length σ.1.2) (hqr : q < r) (a b : Int32) (n : Nat) : Sp G mm_L_due 3 1 64 [.int (nI 1), .int a, .int b, .ref q, .ref r] h n (qDue G q r h (opOpen σ)) := by
  refine Sp_of (by decide +kernel) (Nat.le_of_ble_eq_true rfl) ?_
  have w0 := w
  have v0 := v
  obtain ⟨f, h1, h2, h3⟩ := w
  obtain ⟨fq, q0, q1, q2⟩ := v
  refine J_aload_n dL_due_0 (by rfl) ?_
  refine J_iconst (v := nI 0) dL_due_1 (by decide) ?_
  refine J_ga dL_due_2 (by first | assumption | exact isLT.ob (by assumption) | exact isRow.ob (by assumption) | exact isHnd.ob (by assumption) | exact isUnt.ob (by assumption) | exact isSt.ob (by assumption) | exact isHist.ob (by assumption) | exact isTxt.ob (by assumption) | exact isLac.ob (by assumption) | exact isMea.ob (by assumption) | exact hset_s | exact (hset_n (by first | assumption | omega)).trans (by first | assumption | exact isLT.ob (by assumption) | exact isRow.ob (by assumption) | exact isHnd.ob (by assumption) | exact isUnt.ob (by assumption) | exact isSt.ob (by assumption) | exact isHist.ob (by assumption) | exact isTxt.ob (by assumption) | exact isLac.ob (by assumption) | exact isMea.ob (by assumption) | exact hset_s | exact (hset_n (by first | assumption | omega)).trans (by first | assumption | exact isLT.ob (by assumption) | exact isRow.ob (by assumption) | exact isHnd.ob (by assumption) | exact isUnt.ob (by assumption) | exact isSt.ob (by assumption) | exact isHist.ob (by assumption) | exact isTxt.ob (by assumption) | exact isLac.ob (by assumption) | exact isMea.ob (by assumption) | exact hset_s | exact (hset_n (by first | assumption | omega)).trans (by first | assumption | exact isLT.ob (by assumption) | exact isRow.ob (by assumption) | exact isHnd.ob (by assumption) | exact isUnt.ob (by assumption) | exact isSt.ob (by assumption) | exact isHist.ob (by assumption) | exact isTxt.ob (by assumption) | exact isLac.ob (by assumption) | exact isMea.ob (by assumption))))) (by first | assumption | omega) (by omega) ?_
  rw [q1]
  refine J_istore dL_due_3 (by decide) (by rfl) ?_
  refine J_iload_n dL_due_5 (by rfl) ?_
  refine J_tableIn (off := 65) (tgt := 71) dL_due_6 (by decide) (by decide) (by decide) (by decide) ?_
  refine J_iload dL_due_71 (by rfl) ?_
  refine J_if_ne (tgt := 79) dL_due_73 (by decide) (fun c73 => ?_) (fun c73 => ?_)
  · rw [nI_z (by omega) (by omega)] at c73
    refine J_aload_n dL_due_79 (by rfl) ?_
    refine J_iconst (v := nI 0) dL_due_80 (by decide) ?_
    refine J_dup2 dL_due_81 rfl rfl ?_
    refine J_ga dL_due_82 (by first | assumption | exact isLT.ob (by assumption) | exact isRow.ob (by assumption) | exact isHnd.ob (by assumption) | exact isUnt.ob (by assumption) | exact isSt.ob (by assumption) | exact isHist.ob (by assumption) | exact isTxt.ob (by assumption) | exact isLac.ob (by assumption) | exact isMea.ob (by assumption) | exact hset_s | exact (hset_n (by first | assumption | omega)).trans (by first | assumption | exact isLT.ob (by assumption) | exact isRow.ob (by assumption) | exact isHnd.ob (by assumption) | exact isUnt.ob (by assumption) | exact isSt.ob (by assumption) | exact isHist.ob (by assumption) | exact isTxt.ob (by assumption) | exact isLac.ob (by assumption) | exact isMea.ob (by assumption) | exact hset_s | exact (hset_n (by first | assumption | omega)).trans (by first | assumption | exact isLT.ob (by assumption) | exact isRow.ob (by assumption) | exact isHnd.ob (by assumption) | exact isUnt.ob (by assumption) | exact isSt.ob (by assumption) | exact isHist.ob (by assumption) | exact isTxt.ob (by assumption) | exact isLac.ob (by assumption) | exact isMea.ob (by assumption) | exact hset_s | exact (hset_n (by first | assumption | omega)).trans (by first | assumption | exact isLT.ob (by assumption) | exact isRow.ob (by assumption) | exact isHnd.ob (by assumption) | exact isUnt.ob (by assumption) | exact isSt.ob (by assumption) | exact isHist.ob (by assumption) | exact isTxt.ob (by assumption) | exact isLac.ob (by assumption) | exact isMea.ob (by assumption))))) (by first | assumption | omega) (by omega) ?_
    rw [q1]
    refine J_iconst (v := nI 1) dL_due_83 (by decide) ?_
    refine J_isub dL_due_84 ?_
    rw [pk_sub (by omega)]
    refine J_pa dL_due_85 (by first | assumption | exact isLT.ob (by assumption) | exact isRow.ob (by assumption) | exact isHnd.ob (by assumption) | exact isUnt.ob (by assumption) | exact isSt.ob (by assumption) | exact isHist.ob (by assumption) | exact isTxt.ob (by assumption) | exact isLac.ob (by assumption) | exact isMea.ob (by assumption) | exact hset_s | exact (hset_n (by first | assumption | omega)).trans (by first | assumption | exact isLT.ob (by assumption) | exact isRow.ob (by assumption) | exact isHnd.ob (by assumption) | exact isUnt.ob (by assumption) | exact isSt.ob (by assumption) | exact isHist.ob (by assumption) | exact isTxt.ob (by assumption) | exact isLac.ob (by assumption) | exact isMea.ob (by assumption) | exact hset_s | exact (hset_n (by first | assumption | omega)).trans (by first | assumption | exact isLT.ob (by assumption) | exact isRow.ob (by assumption) | exact isHnd.ob (by assumption) | exact isUnt.ob (by assumption) | exact isSt.ob (by assumption) | exact isHist.ob (by assumption) | exact isTxt.ob (by assumption) | exact isLac.ob (by assumption) | exact isMea.ob (by assumption) | exact hset_s | exact (hset_n (by first | assumption | omega)).trans (by first | assumption | exact isLT.ob (by assumption) | exact isRow.ob (by assumption) | exact isHnd.ob (by assumption) | exact isUnt.ob (by assumption) | exact isSt.ob (by assumption) | exact isHist.ob (by assumption) | exact isTxt.ob (by assumption) | exact isLac.ob (by assumption) | exact isMea.ob (by assumption))))) (by first | assumption | omega) (by omega) ?_
    refine J_aload dL_due_86 (by rfl) ?_
    refine J_iload dL_due_88 (by rfl) ?_
    refine J_iconst (v := nI 1) dL_due_90 (by decide) ?_
    refine J_isub dL_due_91 ?_
    rw [pk_sub (by omega)]
    refine J_ga dL_due_92 (by first | assumption | exact isLT.ob (by assumption) | exact isRow.ob (by assumption) | exact isHnd.ob (by assumption) | exact isUnt.ob (by assumption) | exact isSt.ob (by assumption) | exact isHist.ob (by assumption) | exact isTxt.ob (by assumption) | exact isLac.ob (by assumption) | exact isMea.ob (by assumption) | exact hset_s | exact (hset_n (by first | assumption | omega)).trans (by first | assumption | exact isLT.ob (by assumption) | exact isRow.ob (by assumption) | exact isHnd.ob (by assumption) | exact isUnt.ob (by assumption) | exact isSt.ob (by assumption) | exact isHist.ob (by assumption) | exact isTxt.ob (by assumption) | exact isLac.ob (by assumption) | exact isMea.ob (by assumption) | exact hset_s | exact (hset_n (by first | assumption | omega)).trans (by first | assumption | exact isLT.ob (by assumption) | exact isRow.ob (by assumption) | exact isHnd.ob (by assumption) | exact isUnt.ob (by assumption) | exact isSt.ob (by assumption) | exact isHist.ob (by assumption) | exact isTxt.ob (by assumption) | exact isLac.ob (by assumption) | exact isMea.ob (by assumption) | exact hset_s | exact (hset_n (by first | assumption | omega)).trans (by first | assumption | exact isLT.ob (by assumption) | exact isRow.ob (by assumption) | exact isHnd.ob (by assumption) | exact isUnt.ob (by assumption) | exact isSt.ob (by assumption) | exact isHist.ob (by assumption) | exact isTxt.ob (by assumption) | exact isLac.ob (by assumption) | exact isMea.ob (by assumption))))) (by first | assumption | omega) (by omega) ?_
    rw [h3 _ (by omega)]
    refine J_istore dL_due_93 (by decide) (by rfl) ?_
    refine J_aload dL_due_95 (by rfl) ?_
    refine J_iload dL_due_97 (by rfl) ?_
    refine J_iconst (v := nI 1) dL_due_99 (by decide) ?_
    refine J_isub dL_due_100 ?_
    rw [pk_sub (by omega)]
    refine J_iconst (v := 0) dL_due_101 (by decide) ?_
    refine J_pa dL_due_102 (by first | assumption | exact isLT.ob (by assumption) | exact isRow.ob (by assumption) | exact isHnd.ob (by assumption) | exact isUnt.ob (by assumption) | exact isSt.ob (by assumption) | exact isHist.ob (by assumption) | exact isTxt.ob (by assumption) | exact isLac.ob (by assumption) | exact isMea.ob (by assumption) | exact hset_s | exact (hset_n (by first | assumption | omega)).trans (by first | assumption | exact isLT.ob (by assumption) | exact isRow.ob (by assumption) | exact isHnd.ob (by assumption) | exact isUnt.ob (by assumption) | exact isSt.ob (by assumption) | exact isHist.ob (by assumption) | exact isTxt.ob (by assumption) | exact isLac.ob (by assumption) | exact isMea.ob (by assumption) | exact hset_s | exact (hset_n (by first | assumption | omega)).trans (by first | assumption | exact isLT.ob (by assumption) | exact isRow.ob (by assumption) | exact isHnd.ob (by assumption) | exact isUnt.ob (by assumption) | exact isSt.ob (by assumption) | exact isHist.ob (by assumption) | exact isTxt.ob (by assumption) | exact isLac.ob (by assumption) | exact isMea.ob (by assumption) | exact hset_s | exact (hset_n (by first | assumption | omega)).trans (by first | assumption | exact isLT.ob (by assumption) | exact isRow.ob (by assumption) | exact isHnd.ob (by assumption) | exact isUnt.ob (by assumption) | exact isSt.ob (by assumption) | exact isHist.ob (by assumption) | exact isTxt.ob (by assumption) | exact isLac.ob (by assumption) | exact isMea.ob (by assumption))))) (by first | assumption | omega) (by omega) ?_
    refine J_iload dL_due_103 (by rfl) ?_
    refine J_bipush (v := 10) dL_due_105 (by decide) ?_
    refine J_iadd dL_due_107 ?_
    exact J_ireturn dL_due_108 rfl (by rfl) (qDue_ok (show opOpen σ = (0, σ.1.1.getD (σ.1.1.length - 1) 0 + 10, sv6 σ (σ.1.1.take (σ.1.1.length - 1), σ.1.2)) by unfold opOpen; rw [if_neg c73]) rfl ⟨_, hset_s, by show (σ.1.1.take (σ.1.1.length - 1)).length ≤ 30; rw [List.length_take]; omega, fun i hi => by
      have hi : i < (σ.1.1.take (σ.1.1.length - 1)).length := hi
      rw [List.length_take] at hi
      show _ = (σ.1.1.take (σ.1.1.length - 1)).getD i 0
      rw [upd_n (by omega), getD_take, if_pos (by omega)]
      exact h3 i (by omega)⟩ ⟨_, (hset_n (by omega)).trans hset_s, by rw [upd_s]; show _ = nI (σ.1.1.take (σ.1.1.length - 1)).length; rw [List.length_take]; congr 1; omega, by rw [upd_n (by omega)]; exact q2⟩ (ky_tr (ky_set (Or.inr (by omega))) (ky_set (Or.inr (by omega)))))
  · rw [nI_z (by omega) (by omega)] at c73
    refine J_bipush (v := (-103)) dL_due_76 (by decide) ?_
    exact J_ireturn dL_due_78 rfl (by rfl) (qDue_no (i := 0) (show opOpen σ = fl 1 σ by unfold opOpen; rw [if_pos c73]) rfl w0 v0 ky_rf)
set_option maxRecDepth 20000 in
theorem sp_L_due2 (o : okS σ) (w : isRA G h r σ.1.1) (v : isQA G h q σ.1.1.length σ.1.2) (hqr : q < r) {m k : Nat} (hm : m < 3) (hk : k < 1000) (n : Nat) : Sp G mm_L_due 3 1 64 [.int (nI 2), .int (nI m), .int (nI k), .ref q, .ref r] h n (qDue G q r h (opMove (nI m) (nI k) σ)) := by
  refine Sp_of (by decide +kernel) (Nat.le_of_ble_eq_true rfl) ?_
  have w0 := w
  have v0 := v
  obtain ⟨f, h1, h2, h3⟩ := w
  obtain ⟨fq, q0, q1, q2⟩ := v
  have hx := o.1.1
  have hc : ((0 : Int32) ≤ nI m ∧ nI m ≤ 2) ∧ (0 : Int32) ≤ nI k := ⟨⟨nI_pos' (by omega), (nI_leI (b := 2) (by omega) (by omega)).mpr (by omega)⟩, nI_pos' (by omega)⟩
  refine J_aload_n dL_due_0 (by rfl) ?_
  refine J_iconst (v := nI 0) dL_due_1 (by decide) ?_
  refine J_ga dL_due_2 (by first | assumption | exact isLT.ob (by assumption) | exact isRow.ob (by assumption) | exact isHnd.ob (by assumption) | exact isUnt.ob (by assumption) | exact isSt.ob (by assumption) | exact isHist.ob (by assumption) | exact isTxt.ob (by assumption) | exact isLac.ob (by assumption) | exact isMea.ob (by assumption) | exact hset_s | exact (hset_n (by first | assumption | omega)).trans (by first | assumption | exact isLT.ob (by assumption) | exact isRow.ob (by assumption) | exact isHnd.ob (by assumption) | exact isUnt.ob (by assumption) | exact isSt.ob (by assumption) | exact isHist.ob (by assumption) | exact isTxt.ob (by assumption) | exact isLac.ob (by assumption) | exact isMea.ob (by assumption) | exact hset_s | exact (hset_n (by first | assumption | omega)).trans (by first | assumption | exact isLT.ob (by assumption) | exact isRow.ob (by assumption) | exact isHnd.ob (by assumption) | exact isUnt.ob (by assumption) | exact isSt.ob (by assumption) | exact isHist.ob (by assumption) | exact isTxt.ob (by assumption) | exact isLac.ob (by assumption) | exact isMea.ob (by assumption) | exact hset_s | exact (hset_n (by first | assumption | omega)).trans (by first | assumption | exact isLT.ob (by assumption) | exact isRow.ob (by assumption) | exact isHnd.ob (by assumption) | exact isUnt.ob (by assumption) | exact isSt.ob (by assumption) | exact isHist.ob (by assumption) | exact isTxt.ob (by assumption) | exact isLac.ob (by assumption) | exact isMea.ob (by assumption))))) (by first | assumption | omega) (by omega) ?_
  rw [q1]
  refine J_istore dL_due_3 (by decide) (by rfl) ?_
  refine J_iload_n dL_due_5 (by rfl) ?_
  refine J_tableIn (off := 103) (tgt := 109) dL_due_6 (by decide) (by decide) (by decide) (by decide) ?_
  refine J_iload_n dL_due_109 (by rfl) ?_
  refine J_iload_n dL_due_110 (by rfl) ?_
  refine J_iload dL_due_111 (by rfl) ?_
  refine J_aload dL_due_113 (by rfl) ?_
  refine J_callS mf_L_why lk_L_103 ms_L_why (sp_L_why w0 hx hm (k := k) (by omega) _) dL_due_115 (by decide) (by rfl) rfl (Nat.le_of_ble_eq_true rfl) (Nat.zero_add _) (Nat.zero_add _) (fun v115 h115 n115 q115 => ?_)
  obtain ⟨rfl, rfl⟩ := q115
  refine J_if_eq (tgt := 124) dL_due_118 (by decide) (fun c118 => ?_) (fun c118 => ?_)
  · refine J_aload_n dL_due_124 (by rfl) ?_
    refine J_iconst (v := nI 0) dL_due_125 (by decide) ?_
    refine J_iload_n dL_due_126 (by rfl) ?_
    refine J_iload_n dL_due_127 (by rfl) ?_
    refine J_iload dL_due_128 (by rfl) ?_
    refine J_aload dL_due_130 (by rfl) ?_
    refine J_callS mf_L_makes lk_L_107 ms_L_makes (sp_L_makes w0 hx hm (rsn_fit c118) _) dL_due_132 (by decide) (by rfl) rfl (Nat.le_of_ble_eq_true rfl) (Nat.zero_add _) (Nat.zero_add _) (fun v132 h132 n132 q132 => ?_)
    obtain ⟨rfl, w132, f132⟩ := q132
    have q132 := (f132 q (by omega)).trans q0
    refine J_pa dL_due_135 (by first | assumption | exact isLT.ob (by assumption) | exact isRow.ob (by assumption) | exact isHnd.ob (by assumption) | exact isUnt.ob (by assumption) | exact isSt.ob (by assumption) | exact isHist.ob (by assumption) | exact isTxt.ob (by assumption) | exact isLac.ob (by assumption) | exact isMea.ob (by assumption) | exact hset_s | exact (hset_n (by first | assumption | omega)).trans (by first | assumption | exact isLT.ob (by assumption) | exact isRow.ob (by assumption) | exact isHnd.ob (by assumption) | exact isUnt.ob (by assumption) | exact isSt.ob (by assumption) | exact isHist.ob (by assumption) | exact isTxt.ob (by assumption) | exact isLac.ob (by assumption) | exact isMea.ob (by assumption) | exact hset_s | exact (hset_n (by first | assumption | omega)).trans (by first | assumption | exact isLT.ob (by assumption) | exact isRow.ob (by assumption) | exact isHnd.ob (by assumption) | exact isUnt.ob (by assumption) | exact isSt.ob (by assumption) | exact isHist.ob (by assumption) | exact isTxt.ob (by assumption) | exact isLac.ob (by assumption) | exact isMea.ob (by assumption) | exact hset_s | exact (hset_n (by first | assumption | omega)).trans (by first | assumption | exact isLT.ob (by assumption) | exact isRow.ob (by assumption) | exact isHnd.ob (by assumption) | exact isUnt.ob (by assumption) | exact isSt.ob (by assumption) | exact isHist.ob (by assumption) | exact isTxt.ob (by assumption) | exact isLac.ob (by assumption) | exact isMea.ob (by assumption))))) (by first | assumption | omega) (by omega) ?_
    refine J_aload_n dL_due_136 (by rfl) ?_
    refine J_iconst (v := nI 1) dL_due_137 (by decide) ?_
    refine J_dup2 dL_due_138 rfl rfl ?_
    refine J_ga dL_due_139 (by first | assumption | exact isLT.ob (by assumption) | exact isRow.ob (by assumption) | exact isHnd.ob (by assumption) | exact isUnt.ob (by assumption) | exact isSt.ob (by assumption) | exact isHist.ob (by assumption) | exact isTxt.ob (by assumption) | exact isLac.ob (by assumption) | exact isMea.ob (by assumption) | exact hset_s | exact (hset_n (by first | assumption | omega)).trans (by first | assumption | exact isLT.ob (by assumption) | exact isRow.ob (by assumption) | exact isHnd.ob (by assumption) | exact isUnt.ob (by assumption) | exact isSt.ob (by assumption) | exact isHist.ob (by assumption) | exact isTxt.ob (by assumption) | exact isLac.ob (by assumption) | exact isMea.ob (by assumption) | exact hset_s | exact (hset_n (by first | assumption | omega)).trans (by first | assumption | exact isLT.ob (by assumption) | exact isRow.ob (by assumption) | exact isHnd.ob (by assumption) | exact isUnt.ob (by assumption) | exact isSt.ob (by assumption) | exact isHist.ob (by assumption) | exact isTxt.ob (by assumption) | exact isLac.ob (by assumption) | exact isMea.ob (by assumption) | exact hset_s | exact (hset_n (by first | assumption | omega)).trans (by first | assumption | exact isLT.ob (by assumption) | exact isRow.ob (by assumption) | exact isHnd.ob (by assumption) | exact isUnt.ob (by assumption) | exact isSt.ob (by assumption) | exact isHist.ob (by assumption) | exact isTxt.ob (by assumption) | exact isLac.ob (by assumption) | exact isMea.ob (by assumption))))) (by first | assumption | omega) (by omega) ?_
    rw [upd_n (by omega), q2]
    refine J_iconst (v := 1) dL_due_140 (by decide) ?_
    refine J_iadd dL_due_141 ?_
    rw [nI_1]
    refine J_pa dL_due_142 (by first | assumption | exact isLT.ob (by assumption) | exact isRow.ob (by assumption) | exact isHnd.ob (by assumption) | exact isUnt.ob (by assumption) | exact isSt.ob (by assumption) | exact isHist.ob (by assumption) | exact isTxt.ob (by assumption) | exact isLac.ob (by assumption) | exact isMea.ob (by assumption) | exact hset_s | exact (hset_n (by first | assumption | omega)).trans (by first | assumption | exact isLT.ob (by assumption) | exact isRow.ob (by assumption) | exact isHnd.ob (by assumption) | exact isUnt.ob (by assumption) | exact isSt.ob (by assumption) | exact isHist.ob (by assumption) | exact isTxt.ob (by assumption) | exact isLac.ob (by assumption) | exact isMea.ob (by assumption) | exact hset_s | exact (hset_n (by first | assumption | omega)).trans (by first | assumption | exact isLT.ob (by assumption) | exact isRow.ob (by assumption) | exact isHnd.ob (by assumption) | exact isUnt.ob (by assumption) | exact isSt.ob (by assumption) | exact isHist.ob (by assumption) | exact isTxt.ob (by assumption) | exact isLac.ob (by assumption) | exact isMea.ob (by assumption) | exact hset_s | exact (hset_n (by first | assumption | omega)).trans (by first | assumption | exact isLT.ob (by assumption) | exact isRow.ob (by assumption) | exact isHnd.ob (by assumption) | exact isUnt.ob (by assumption) | exact isSt.ob (by assumption) | exact isHist.ob (by assumption) | exact isTxt.ob (by assumption) | exact isLac.ob (by assumption) | exact isMea.ob (by assumption))))) (by first | assumption | omega) (by omega) ?_
    refine J_aload_n dL_due_143 (by rfl) ?_
    refine J_iconst (v := nI 0) dL_due_144 (by decide) ?_
    refine J_ga dL_due_145 (by first | assumption | exact isLT.ob (by assumption) | exact isRow.ob (by assumption) | exact isHnd.ob (by assumption) | exact isUnt.ob (by assumption) | exact isSt.ob (by assumption) | exact isHist.ob (by assumption) | exact isTxt.ob (by assumption) | exact isLac.ob (by assumption) | exact isMea.ob (by assumption) | exact hset_s | exact (hset_n (by first | assumption | omega)).trans (by first | assumption | exact isLT.ob (by assumption) | exact isRow.ob (by assumption) | exact isHnd.ob (by assumption) | exact isUnt.ob (by assumption) | exact isSt.ob (by assumption) | exact isHist.ob (by assumption) | exact isTxt.ob (by assumption) | exact isLac.ob (by assumption) | exact isMea.ob (by assumption) | exact hset_s | exact (hset_n (by first | assumption | omega)).trans (by first | assumption | exact isLT.ob (by assumption) | exact isRow.ob (by assumption) | exact isHnd.ob (by assumption) | exact isUnt.ob (by assumption) | exact isSt.ob (by assumption) | exact isHist.ob (by assumption) | exact isTxt.ob (by assumption) | exact isLac.ob (by assumption) | exact isMea.ob (by assumption) | exact hset_s | exact (hset_n (by first | assumption | omega)).trans (by first | assumption | exact isLT.ob (by assumption) | exact isRow.ob (by assumption) | exact isHnd.ob (by assumption) | exact isUnt.ob (by assumption) | exact isSt.ob (by assumption) | exact isHist.ob (by assumption) | exact isTxt.ob (by assumption) | exact isLac.ob (by assumption) | exact isMea.ob (by assumption))))) (by first | assumption | omega) (by omega) ?_
    rw [upd_n (by omega), upd_s]
    exact J_ireturn dL_due_146 rfl (by rfl) (qDue_ok (show opMove (nI m) (nI k) σ = (0, nI (mk σ.1.1 m k).length, sv6 σ (mk σ.1.1 m k, σ.1.2 + 1)) by unfold opMove; rw [if_pos hc, nI_clamp (n := m) (by omega), nI_clamp (n := k) (by omega), if_pos c118]) rfl (w132.keep ((hset_n (by omega)).trans (hset_n (by omega)))) (isQA_set rfl (by rw [upd_n (by omega), upd_s]; rfl) (by rw [upd_s]; rfl)) (ky_tr (ky_fr f132 (Or.inl (by omega))) (ky_tr (ky_set (Or.inr (by omega))) (ky_set (Or.inr (by omega))))))
  · refine J_bipush (v := (-103)) dL_due_121 (by decide) ?_
    exact J_ireturn dL_due_123 rfl (by rfl) (qDue_no (i := 1) (show opMove (nI m) (nI k) σ = fl 2 σ by unfold opMove; rw [if_pos hc, nI_clamp (n := m) (by omega), nI_clamp (n := k) (by omega), if_neg c118]) rfl w0 v0 ky_rf)
theorem pdlt {k : Nat} (hk : k < 2 ^ 30) : nI k - 1 < nI k := by
  cases k with
  | zero => decide
  | succ k => rw [nI_pred]; exact (nI_ltI (by omega) (by omega)).mpr (by omega)
set_option maxRecDepth 20000 in
theorem sp_L_due3 (w : isRA G h r σ.1.1) (v : isQA G h q σ.1.1.length σ.1.2) (hqr : q < r) {a : Int32} (ha : isX a) {k : Nat} (hk : k ≤ σ.1.1.length) (n : Nat) : Sp G mm_L_due 3 1 64 [.int (nI 3), .int a, .int (nI k), .ref q, .ref r] h n (qDue G q r h (opPair (nI k) a σ)) := by
  refine Sp_of (by decide +kernel) (Nat.le_of_ble_eq_true rfl) ?_
  have w0 := w
  have v0 := v
  obtain ⟨f, h1, h2, h3⟩ := w
  obtain ⟨fq, q0, q1, q2⟩ := v
  have hc : ((0 : Int32) ≤ nI k ∧ nI k ≤ nI σ.1.1.length) ∧ (-3 ≤ a ∧ a ≤ 3 ∧ ¬ a = 0) := ⟨⟨nI_pos' (by omega), (nI_leI (by omega) (by omega)).mpr hk⟩, cr_ok a ha.xl⟩
  have loop : ∀ (j : Nat) (hh : HP) (n1 : Nat) (g : Nat → Int32), k + j ≤ σ.1.1.length → σ.1.1.length ≤ 28 → hh r = some (.inl (G.2.1 0, 32, .inl g)) → hh q = some (.inl (G.2.1 0, 2, .inl fq)) → (∀ i, k + j + 2 ≤ i → i < σ.1.1.length + 2 → g i = σ.1.1.getD (i - 2) 0) → (∀ i, i < k + j → g i = σ.1.1.getD i 0) → ky 0 q h hh → J (g0 G) mm_L_due 3 163 [(1, .int a), (2, .int (nI k)), (3, .ref q), (4, .ref r), (7, .int (nI (k + j) - 1))] [] hh n1 1 64 (RT mm_L_due (qDue G q r h (opPair (nI k) a σ))) := by
    intro j
    induction j with
    | zero =>
      intro hh n1 g hj hl g1 g2 g3 g4 hf
      refine J_iload dL_due_163 (by rfl) ?_
      refine J_iload_n dL_due_165 (by rfl) ?_
      refine J_icmp_lt (tgt := 187) dL_due_166 (by decide) (fun c166 => ?_) (fun c166 => ?_)
      · refine J_aload dL_due_187 (by rfl) ?_
        refine J_iload_n dL_due_189 (by rfl) ?_
        refine J_iload_n dL_due_190 (by rfl) ?_
        refine J_pa dL_due_191 (by first | assumption | exact isLT.ob (by assumption) | exact isRow.ob (by assumption) | exact isHnd.ob (by assumption) | exact isUnt.ob (by assumption) | exact isSt.ob (by assumption) | exact isHist.ob (by assumption) | exact isTxt.ob (by assumption) | exact isLac.ob (by assumption) | exact isMea.ob (by assumption) | exact hset_s | exact (hset_n (by first | assumption | omega)).trans (by first | assumption | exact isLT.ob (by assumption) | exact isRow.ob (by assumption) | exact isHnd.ob (by assumption) | exact isUnt.ob (by assumption) | exact isSt.ob (by assumption) | exact isHist.ob (by assumption) | exact isTxt.ob (by assumption) | exact isLac.ob (by assumption) | exact isMea.ob (by assumption) | exact hset_s | exact (hset_n (by first | assumption | omega)).trans (by first | assumption | exact isLT.ob (by assumption) | exact isRow.ob (by assumption) | exact isHnd.ob (by assumption) | exact isUnt.ob (by assumption) | exact isSt.ob (by assumption) | exact isHist.ob (by assumption) | exact isTxt.ob (by assumption) | exact isLac.ob (by assumption) | exact isMea.ob (by assumption) | exact hset_s | exact (hset_n (by first | assumption | omega)).trans (by first | assumption | exact isLT.ob (by assumption) | exact isRow.ob (by assumption) | exact isHnd.ob (by assumption) | exact isUnt.ob (by assumption) | exact isSt.ob (by assumption) | exact isHist.ob (by assumption) | exact isTxt.ob (by assumption) | exact isLac.ob (by assumption) | exact isMea.ob (by assumption))))) (by first | assumption | omega) (by omega) ?_
        refine J_aload dL_due_192 (by rfl) ?_
        refine J_iload_n dL_due_194 (by rfl) ?_
        refine J_iconst (v := nI 1) dL_due_195 (by decide) ?_
        refine J_iadd dL_due_196 ?_
        rw [nI_add]
        refine J_iload_n dL_due_197 (by rfl) ?_
        refine J_ineg dL_due_198 ?_
        refine J_pa dL_due_199 (by first | assumption | exact isLT.ob (by assumption) | exact isRow.ob (by assumption) | exact isHnd.ob (by assumption) | exact isUnt.ob (by assumption) | exact isSt.ob (by assumption) | exact isHist.ob (by assumption) | exact isTxt.ob (by assumption) | exact isLac.ob (by assumption) | exact isMea.ob (by assumption) | exact hset_s | exact (hset_n (by first | assumption | omega)).trans (by first | assumption | exact isLT.ob (by assumption) | exact isRow.ob (by assumption) | exact isHnd.ob (by assumption) | exact isUnt.ob (by assumption) | exact isSt.ob (by assumption) | exact isHist.ob (by assumption) | exact isTxt.ob (by assumption) | exact isLac.ob (by assumption) | exact isMea.ob (by assumption) | exact hset_s | exact (hset_n (by first | assumption | omega)).trans (by first | assumption | exact isLT.ob (by assumption) | exact isRow.ob (by assumption) | exact isHnd.ob (by assumption) | exact isUnt.ob (by assumption) | exact isSt.ob (by assumption) | exact isHist.ob (by assumption) | exact isTxt.ob (by assumption) | exact isLac.ob (by assumption) | exact isMea.ob (by assumption) | exact hset_s | exact (hset_n (by first | assumption | omega)).trans (by first | assumption | exact isLT.ob (by assumption) | exact isRow.ob (by assumption) | exact isHnd.ob (by assumption) | exact isUnt.ob (by assumption) | exact isSt.ob (by assumption) | exact isHist.ob (by assumption) | exact isTxt.ob (by assumption) | exact isLac.ob (by assumption) | exact isMea.ob (by assumption))))) (by first | assumption | omega) (by omega) ?_
        refine J_aload_n dL_due_200 (by rfl) ?_
        refine J_iconst (v := nI 0) dL_due_201 (by decide) ?_
        refine J_dup2 dL_due_202 rfl rfl ?_
        refine J_ga dL_due_203 (by first | assumption | exact isLT.ob (by assumption) | exact isRow.ob (by assumption) | exact isHnd.ob (by assumption) | exact isUnt.ob (by assumption) | exact isSt.ob (by assumption) | exact isHist.ob (by assumption) | exact isTxt.ob (by assumption) | exact isLac.ob (by assumption) | exact isMea.ob (by assumption) | exact hset_s | exact (hset_n (by first | assumption | omega)).trans (by first | assumption | exact isLT.ob (by assumption) | exact isRow.ob (by assumption) | exact isHnd.ob (by assumption) | exact isUnt.ob (by assumption) | exact isSt.ob (by assumption) | exact isHist.ob (by assumption) | exact isTxt.ob (by assumption) | exact isLac.ob (by assumption) | exact isMea.ob (by assumption) | exact hset_s | exact (hset_n (by first | assumption | omega)).trans (by first | assumption | exact isLT.ob (by assumption) | exact isRow.ob (by assumption) | exact isHnd.ob (by assumption) | exact isUnt.ob (by assumption) | exact isSt.ob (by assumption) | exact isHist.ob (by assumption) | exact isTxt.ob (by assumption) | exact isLac.ob (by assumption) | exact isMea.ob (by assumption) | exact hset_s | exact (hset_n (by first | assumption | omega)).trans (by first | assumption | exact isLT.ob (by assumption) | exact isRow.ob (by assumption) | exact isHnd.ob (by assumption) | exact isUnt.ob (by assumption) | exact isSt.ob (by assumption) | exact isHist.ob (by assumption) | exact isTxt.ob (by assumption) | exact isLac.ob (by assumption) | exact isMea.ob (by assumption))))) (by first | assumption | omega) (by omega) ?_
        rw [q1]
        refine J_iconst (v := nI 2) dL_due_204 (by decide) ?_
        refine J_iadd dL_due_205 ?_
        rw [nI_add]
        refine J_pa dL_due_206 (by first | assumption | exact isLT.ob (by assumption) | exact isRow.ob (by assumption) | exact isHnd.ob (by assumption) | exact isUnt.ob (by assumption) | exact isSt.ob (by assumption) | exact isHist.ob (by assumption) | exact isTxt.ob (by assumption) | exact isLac.ob (by assumption) | exact isMea.ob (by assumption) | exact hset_s | exact (hset_n (by first | assumption | omega)).trans (by first | assumption | exact isLT.ob (by assumption) | exact isRow.ob (by assumption) | exact isHnd.ob (by assumption) | exact isUnt.ob (by assumption) | exact isSt.ob (by assumption) | exact isHist.ob (by assumption) | exact isTxt.ob (by assumption) | exact isLac.ob (by assumption) | exact isMea.ob (by assumption) | exact hset_s | exact (hset_n (by first | assumption | omega)).trans (by first | assumption | exact isLT.ob (by assumption) | exact isRow.ob (by assumption) | exact isHnd.ob (by assumption) | exact isUnt.ob (by assumption) | exact isSt.ob (by assumption) | exact isHist.ob (by assumption) | exact isTxt.ob (by assumption) | exact isLac.ob (by assumption) | exact isMea.ob (by assumption) | exact hset_s | exact (hset_n (by first | assumption | omega)).trans (by first | assumption | exact isLT.ob (by assumption) | exact isRow.ob (by assumption) | exact isHnd.ob (by assumption) | exact isUnt.ob (by assumption) | exact isSt.ob (by assumption) | exact isHist.ob (by assumption) | exact isTxt.ob (by assumption) | exact isLac.ob (by assumption) | exact isMea.ob (by assumption))))) (by first | assumption | omega) (by omega) ?_
        refine J_aload_n dL_due_207 (by rfl) ?_
        refine J_iconst (v := nI 0) dL_due_208 (by decide) ?_
        refine J_ga dL_due_209 (by first | assumption | exact isLT.ob (by assumption) | exact isRow.ob (by assumption) | exact isHnd.ob (by assumption) | exact isUnt.ob (by assumption) | exact isSt.ob (by assumption) | exact isHist.ob (by assumption) | exact isTxt.ob (by assumption) | exact isLac.ob (by assumption) | exact isMea.ob (by assumption) | exact hset_s | exact (hset_n (by first | assumption | omega)).trans (by first | assumption | exact isLT.ob (by assumption) | exact isRow.ob (by assumption) | exact isHnd.ob (by assumption) | exact isUnt.ob (by assumption) | exact isSt.ob (by assumption) | exact isHist.ob (by assumption) | exact isTxt.ob (by assumption) | exact isLac.ob (by assumption) | exact isMea.ob (by assumption) | exact hset_s | exact (hset_n (by first | assumption | omega)).trans (by first | assumption | exact isLT.ob (by assumption) | exact isRow.ob (by assumption) | exact isHnd.ob (by assumption) | exact isUnt.ob (by assumption) | exact isSt.ob (by assumption) | exact isHist.ob (by assumption) | exact isTxt.ob (by assumption) | exact isLac.ob (by assumption) | exact isMea.ob (by assumption) | exact hset_s | exact (hset_n (by first | assumption | omega)).trans (by first | assumption | exact isLT.ob (by assumption) | exact isRow.ob (by assumption) | exact isHnd.ob (by assumption) | exact isUnt.ob (by assumption) | exact isSt.ob (by assumption) | exact isHist.ob (by assumption) | exact isTxt.ob (by assumption) | exact isLac.ob (by assumption) | exact isMea.ob (by assumption))))) (by first | assumption | omega) (by omega) ?_
        rw [upd_s]
        exact J_ireturn dL_due_210 rfl (by rfl) (qDue_ok (show opPair (nI k) a σ = (0, nI (σ.1.1.length + 2), sv6 σ (insP σ.1.1 k a, σ.1.2)) by unfold opPair; rw [if_pos hc, if_neg (by omega), nI_clamp (n := k) (by omega)]) rfl ⟨_, (hset_n (by omega)).trans hset_s, by show (insP σ.1.1 k a).length ≤ 30; rw [insP_len hk]; omega, fun i hi => by
          have hi : i < (insP σ.1.1 k a).length := hi
          rw [insP_len hk] at hi
          show _ = (insP σ.1.1 k a).getD i 0
          rw [insP_get hk]
          by_cases e1 : i = k + 1
          · subst e1; rw [upd_s, if_neg (by omega), if_neg (by omega), if_pos rfl]
          · rw [upd_n e1]
            by_cases e2 : i = k
            · subst e2; rw [upd_s, if_neg (by omega), if_pos rfl]
            · rw [upd_n e2]
              by_cases e3 : i < k
              · rw [if_pos e3]; exact g4 i (by omega)
              · rw [if_neg e3, if_neg e2, if_neg e1]; exact g3 i (by omega) hi⟩ (isQA_set rfl (by rw [upd_s]; show _ = nI (insP σ.1.1 k a).length; rw [insP_len hk]) (by rw [upd_n (by omega)]; exact q2)) (ky_tr hf (ky_tr (ky_set (Or.inr (by omega))) (ky_tr (ky_set (Or.inr (by omega))) (ky_set (Or.inr (by omega)))))))
      · exact absurd (pdlt (by omega)) c166
    | succ j ih =>
      intro hh n1 g hj hl g1 g2 g3 g4 hf
      rw [show k + (j + 1) = (k + j) + 1 by omega, nI_pred]
      refine J_iload dL_due_163 (by rfl) ?_
      refine J_iload_n dL_due_165 (by rfl) ?_
      refine J_icmp_lt (tgt := 187) dL_due_166 (by decide) (fun c166 => ?_) (fun c166 => ?_)
      · rw [nI_ltI (by omega) (by omega)] at c166
        exact absurd c166 (by omega)
      · rw [nI_ltI (by omega) (by omega)] at c166
        refine J_aload dL_due_169 (by rfl) ?_
        refine J_iload dL_due_171 (by rfl) ?_
        refine J_iconst (v := nI 2) dL_due_173 (by decide) ?_
        refine J_iadd dL_due_174 ?_
        rw [nI_add]
        refine J_aload dL_due_175 (by rfl) ?_
        refine J_iload dL_due_177 (by rfl) ?_
        refine J_ga dL_due_179 (by first | assumption | exact isLT.ob (by assumption) | exact isRow.ob (by assumption) | exact isHnd.ob (by assumption) | exact isUnt.ob (by assumption) | exact isSt.ob (by assumption) | exact isHist.ob (by assumption) | exact isTxt.ob (by assumption) | exact isLac.ob (by assumption) | exact isMea.ob (by assumption) | exact hset_s | exact (hset_n (by first | assumption | omega)).trans (by first | assumption | exact isLT.ob (by assumption) | exact isRow.ob (by assumption) | exact isHnd.ob (by assumption) | exact isUnt.ob (by assumption) | exact isSt.ob (by assumption) | exact isHist.ob (by assumption) | exact isTxt.ob (by assumption) | exact isLac.ob (by assumption) | exact isMea.ob (by assumption) | exact hset_s | exact (hset_n (by first | assumption | omega)).trans (by first | assumption | exact isLT.ob (by assumption) | exact isRow.ob (by assumption) | exact isHnd.ob (by assumption) | exact isUnt.ob (by assumption) | exact isSt.ob (by assumption) | exact isHist.ob (by assumption) | exact isTxt.ob (by assumption) | exact isLac.ob (by assumption) | exact isMea.ob (by assumption) | exact hset_s | exact (hset_n (by first | assumption | omega)).trans (by first | assumption | exact isLT.ob (by assumption) | exact isRow.ob (by assumption) | exact isHnd.ob (by assumption) | exact isUnt.ob (by assumption) | exact isSt.ob (by assumption) | exact isHist.ob (by assumption) | exact isTxt.ob (by assumption) | exact isLac.ob (by assumption) | exact isMea.ob (by assumption))))) (by first | assumption | omega) (by omega) ?_
        rw [g4 _ (by omega)]
        refine J_pa dL_due_180 (by first | assumption | exact isLT.ob (by assumption) | exact isRow.ob (by assumption) | exact isHnd.ob (by assumption) | exact isUnt.ob (by assumption) | exact isSt.ob (by assumption) | exact isHist.ob (by assumption) | exact isTxt.ob (by assumption) | exact isLac.ob (by assumption) | exact isMea.ob (by assumption) | exact hset_s | exact (hset_n (by first | assumption | omega)).trans (by first | assumption | exact isLT.ob (by assumption) | exact isRow.ob (by assumption) | exact isHnd.ob (by assumption) | exact isUnt.ob (by assumption) | exact isSt.ob (by assumption) | exact isHist.ob (by assumption) | exact isTxt.ob (by assumption) | exact isLac.ob (by assumption) | exact isMea.ob (by assumption) | exact hset_s | exact (hset_n (by first | assumption | omega)).trans (by first | assumption | exact isLT.ob (by assumption) | exact isRow.ob (by assumption) | exact isHnd.ob (by assumption) | exact isUnt.ob (by assumption) | exact isSt.ob (by assumption) | exact isHist.ob (by assumption) | exact isTxt.ob (by assumption) | exact isLac.ob (by assumption) | exact isMea.ob (by assumption) | exact hset_s | exact (hset_n (by first | assumption | omega)).trans (by first | assumption | exact isLT.ob (by assumption) | exact isRow.ob (by assumption) | exact isHnd.ob (by assumption) | exact isUnt.ob (by assumption) | exact isSt.ob (by assumption) | exact isHist.ob (by assumption) | exact isTxt.ob (by assumption) | exact isLac.ob (by assumption) | exact isMea.ob (by assumption))))) (by first | assumption | omega) (by omega) ?_
        refine J_iincS dL_due_181 (by rfl) (by decide) (by rfl) ?_
        refine J_goto (tgt := 163) dL_due_184 (by decide) ?_
        exact J_sub (by repeat (first | exact subl_nil | refine subl_cons rfl ?_)) (ih _ _ _ (by omega) hl hset_s ((hset_n (by omega)).trans g2) (fun i d1 d2 => by
          by_cases e : i = k + j + 2
          · subst e; rw [upd_s]; rfl
          · rw [upd_n e]; exact g3 i (by omega) d2) (fun i d1 => by rw [upd_n (by omega)]; exact g4 i (by omega)) (ky_tr hf (ky_set (Or.inr (by omega)))))
  refine J_aload_n dL_due_0 (by rfl) ?_
  refine J_iconst (v := nI 0) dL_due_1 (by decide) ?_
  refine J_ga dL_due_2 (by first | assumption | exact isLT.ob (by assumption) | exact isRow.ob (by assumption) | exact isHnd.ob (by assumption) | exact isUnt.ob (by assumption) | exact isSt.ob (by assumption) | exact isHist.ob (by assumption) | exact isTxt.ob (by assumption) | exact isLac.ob (by assumption) | exact isMea.ob (by assumption) | exact hset_s | exact (hset_n (by first | assumption | omega)).trans (by first | assumption | exact isLT.ob (by assumption) | exact isRow.ob (by assumption) | exact isHnd.ob (by assumption) | exact isUnt.ob (by assumption) | exact isSt.ob (by assumption) | exact isHist.ob (by assumption) | exact isTxt.ob (by assumption) | exact isLac.ob (by assumption) | exact isMea.ob (by assumption) | exact hset_s | exact (hset_n (by first | assumption | omega)).trans (by first | assumption | exact isLT.ob (by assumption) | exact isRow.ob (by assumption) | exact isHnd.ob (by assumption) | exact isUnt.ob (by assumption) | exact isSt.ob (by assumption) | exact isHist.ob (by assumption) | exact isTxt.ob (by assumption) | exact isLac.ob (by assumption) | exact isMea.ob (by assumption) | exact hset_s | exact (hset_n (by first | assumption | omega)).trans (by first | assumption | exact isLT.ob (by assumption) | exact isRow.ob (by assumption) | exact isHnd.ob (by assumption) | exact isUnt.ob (by assumption) | exact isSt.ob (by assumption) | exact isHist.ob (by assumption) | exact isTxt.ob (by assumption) | exact isLac.ob (by assumption) | exact isMea.ob (by assumption))))) (by first | assumption | omega) (by omega) ?_
  rw [q1]
  refine J_istore dL_due_3 (by decide) (by rfl) ?_
  refine J_iload_n dL_due_5 (by rfl) ?_
  refine J_tableIn (off := 141) (tgt := 147) dL_due_6 (by decide) (by decide) (by decide) (by decide) ?_
  refine J_iload dL_due_147 (by rfl) ?_
  refine J_bipush (v := nI 28) dL_due_149 (by decide) ?_
  refine J_icmp_le (tgt := 157) dL_due_151 (by decide) (fun c151 => ?_) (fun c151 => ?_)
  · rw [nI_leI (by omega) (by omega)] at c151
    refine J_iload dL_due_157 (by rfl) ?_
    refine J_iconst (v := 1) dL_due_159 (by decide) ?_
    refine J_isub dL_due_160 ?_
    refine J_istore dL_due_161 (by decide) (by rfl) ?_
    have ek : k + (σ.1.1.length - k) = σ.1.1.length := by omega
    have := loop (σ.1.1.length - k) h n f (by omega) (by omega) h1 q0 (fun i d1 d2 => absurd d1 (by omega)) (fun i d1 => h3 i (by omega)) ky_rf
    rw [ek] at this
    exact J_sub (by repeat (first | exact subl_nil | refine subl_cons rfl ?_)) this
  · rw [nI_leI (by omega) (by omega)] at c151
    refine J_bipush (v := (-103)) dL_due_154 (by decide) ?_
    exact J_ireturn dL_due_156 rfl (by rfl) (qDue_no (i := 1) (show opPair (nI k) a σ = fl 2 σ by unfold opPair; rw [if_pos hc, if_pos (by omega)]) rfl w0 v0 ky_rf)
set_option maxRecDepth 20000 in
theorem sp_L_due4 (w : isRA G h r σ.1.1) (v : isQA G h q σ.1.1.length σ.1.2) (hqr : q < r) (a b : Int32) (n : Nat) : Sp G mm_L_due 3 1 64 [.int (nI 4), .int a, .int b, .ref q, .ref r] h n (qDue G q r h (opPull σ)) := by
  refine Sp_of (by decide +kernel) (Nat.le_of_ble_eq_true rfl) ?_
  have w0 := w
  obtain ⟨f, h1, h2, h3⟩ := w
  obtain ⟨fq, q0, q1, q2⟩ := v
  have hrl := red_len σ.1.1 σ.1.1.length
  rw [List.take_length] at hrl
  refine J_aload_n dL_due_0 (by rfl) ?_
  refine J_iconst (v := nI 0) dL_due_1 (by decide) ?_
  refine J_ga dL_due_2 (by first | assumption | exact isLT.ob (by assumption) | exact isRow.ob (by assumption) | exact isHnd.ob (by assumption) | exact isUnt.ob (by assumption) | exact isSt.ob (by assumption) | exact isHist.ob (by assumption) | exact isTxt.ob (by assumption) | exact isLac.ob (by assumption) | exact isMea.ob (by assumption) | exact hset_s | exact (hset_n (by first | assumption | omega)).trans (by first | assumption | exact isLT.ob (by assumption) | exact isRow.ob (by assumption) | exact isHnd.ob (by assumption) | exact isUnt.ob (by assumption) | exact isSt.ob (by assumption) | exact isHist.ob (by assumption) | exact isTxt.ob (by assumption) | exact isLac.ob (by assumption) | exact isMea.ob (by assumption) | exact hset_s | exact (hset_n (by first | assumption | omega)).trans (by first | assumption | exact isLT.ob (by assumption) | exact isRow.ob (by assumption) | exact isHnd.ob (by assumption) | exact isUnt.ob (by assumption) | exact isSt.ob (by assumption) | exact isHist.ob (by assumption) | exact isTxt.ob (by assumption) | exact isLac.ob (by assumption) | exact isMea.ob (by assumption) | exact hset_s | exact (hset_n (by first | assumption | omega)).trans (by first | assumption | exact isLT.ob (by assumption) | exact isRow.ob (by assumption) | exact isHnd.ob (by assumption) | exact isUnt.ob (by assumption) | exact isSt.ob (by assumption) | exact isHist.ob (by assumption) | exact isTxt.ob (by assumption) | exact isLac.ob (by assumption) | exact isMea.ob (by assumption))))) (by first | assumption | omega) (by omega) ?_
  rw [q1]
  refine J_istore dL_due_3 (by decide) (by rfl) ?_
  refine J_iload_n dL_due_5 (by rfl) ?_
  refine J_tableIn (off := 205) (tgt := 211) dL_due_6 (by decide) (by decide) (by decide) (by decide) ?_
  refine J_aload_n dL_due_211 (by rfl) ?_
  refine J_iconst (v := nI 0) dL_due_212 (by decide) ?_
  refine J_iload dL_due_213 (by rfl) ?_
  refine J_aload dL_due_215 (by rfl) ?_
  refine J_callS mf_L_pulls lk_L_110 ms_L_pulls (sp_L_pulls w0 _) dL_due_217 (by decide) (by rfl) rfl (Nat.le_of_ble_eq_true rfl) (Nat.zero_add _) (Nat.zero_add _) (fun v217 h217 n217 q217 => ?_)
  obtain ⟨rfl, w217, f217⟩ := q217
  have q217 := (f217 q (by omega)).trans q0
  refine J_pa dL_due_220 (by first | assumption | exact isLT.ob (by assumption) | exact isRow.ob (by assumption) | exact isHnd.ob (by assumption) | exact isUnt.ob (by assumption) | exact isSt.ob (by assumption) | exact isHist.ob (by assumption) | exact isTxt.ob (by assumption) | exact isLac.ob (by assumption) | exact isMea.ob (by assumption) | exact hset_s | exact (hset_n (by first | assumption | omega)).trans (by first | assumption | exact isLT.ob (by assumption) | exact isRow.ob (by assumption) | exact isHnd.ob (by assumption) | exact isUnt.ob (by assumption) | exact isSt.ob (by assumption) | exact isHist.ob (by assumption) | exact isTxt.ob (by assumption) | exact isLac.ob (by assumption) | exact isMea.ob (by assumption) | exact hset_s | exact (hset_n (by first | assumption | omega)).trans (by first | assumption | exact isLT.ob (by assumption) | exact isRow.ob (by assumption) | exact isHnd.ob (by assumption) | exact isUnt.ob (by assumption) | exact isSt.ob (by assumption) | exact isHist.ob (by assumption) | exact isTxt.ob (by assumption) | exact isLac.ob (by assumption) | exact isMea.ob (by assumption) | exact hset_s | exact (hset_n (by first | assumption | omega)).trans (by first | assumption | exact isLT.ob (by assumption) | exact isRow.ob (by assumption) | exact isHnd.ob (by assumption) | exact isUnt.ob (by assumption) | exact isSt.ob (by assumption) | exact isHist.ob (by assumption) | exact isTxt.ob (by assumption) | exact isLac.ob (by assumption) | exact isMea.ob (by assumption))))) (by first | assumption | omega) (by omega) ?_
  refine J_iload dL_due_221 (by rfl) ?_
  refine J_aload_n dL_due_223 (by rfl) ?_
  refine J_iconst (v := nI 0) dL_due_224 (by decide) ?_
  refine J_ga dL_due_225 (by first | assumption | exact isLT.ob (by assumption) | exact isRow.ob (by assumption) | exact isHnd.ob (by assumption) | exact isUnt.ob (by assumption) | exact isSt.ob (by assumption) | exact isHist.ob (by assumption) | exact isTxt.ob (by assumption) | exact isLac.ob (by assumption) | exact isMea.ob (by assumption) | exact hset_s | exact (hset_n (by first | assumption | omega)).trans (by first | assumption | exact isLT.ob (by assumption) | exact isRow.ob (by assumption) | exact isHnd.ob (by assumption) | exact isUnt.ob (by assumption) | exact isSt.ob (by assumption) | exact isHist.ob (by assumption) | exact isTxt.ob (by assumption) | exact isLac.ob (by assumption) | exact isMea.ob (by assumption) | exact hset_s | exact (hset_n (by first | assumption | omega)).trans (by first | assumption | exact isLT.ob (by assumption) | exact isRow.ob (by assumption) | exact isHnd.ob (by assumption) | exact isUnt.ob (by assumption) | exact isSt.ob (by assumption) | exact isHist.ob (by assumption) | exact isTxt.ob (by assumption) | exact isLac.ob (by assumption) | exact isMea.ob (by assumption) | exact hset_s | exact (hset_n (by first | assumption | omega)).trans (by first | assumption | exact isLT.ob (by assumption) | exact isRow.ob (by assumption) | exact isHnd.ob (by assumption) | exact isUnt.ob (by assumption) | exact isSt.ob (by assumption) | exact isHist.ob (by assumption) | exact isTxt.ob (by assumption) | exact isLac.ob (by assumption) | exact isMea.ob (by assumption))))) (by first | assumption | omega) (by omega) ?_
  rw [upd_s]
  refine J_isub dL_due_226 ?_
  rw [pk_sub hrl]
  exact J_ireturn dL_due_227 rfl (by rfl) (qDue_ok (show opPull σ = _ from rfl) rfl (w217.keep (hset_n (by omega))) (isQA_set rfl (by rw [upd_s]; rfl) (by rw [upd_n (by omega)]; exact q2)) (ky_tr (ky_fr f217 (Or.inl (by omega))) (ky_set (Or.inr (by omega)))))
theorem trn_get {xs : List Int32} {i : Nat} (hi : i < xs.length) : (trn xs).getD i 0 = -(xs.getD (xs.length - 1 - i) 0) := by
  unfold trn
  show ((xs.map (fun x => -x)).reverse)[i]?.getD 0 = _
  rw [List.getElem?_reverse (by rw [List.length_map]; exact hi), List.length_map, List.getElem?_map, getD_lt (by omega), List.getElem?_eq_getElem (by omega)]
  rfl
theorem i32a (a b : Int32) : 2 * (a + 1) - (b + 1) = 2 * a - b + 1 := by grind
theorem i32b (a b : Int32) : 2 * a - (b + 1) = 2 * a - b + -1 := by grind
theorem twi_take {xs : List Int32} {k : Nat} (h : k < xs.length) : twi (xs.take (k + 1)) = twi (xs.take k) + if 0 < xs.getD k 0 then 1 else -1 := by
  unfold twi
  rw [ovr_take h, List.length_take, List.length_take, Nat.min_eq_left (by omega), Nat.min_eq_left (by omega)]
  split
  · rw [← nI_1, ← nI_1]; exact i32a _ _
  · rw [Nat.add_zero, ← nI_1]; exact i32b _ _
theorem i32c (a : Int32) : a + 100 + 1 = a + 1 + 100 := by grind
theorem i32d (a : Int32) : a + 100 + -1 = a + -1 + 100 := by grind
set_option maxRecDepth 20000 in
theorem sp_L_due5 (w : isRA G h r σ.1.1) (v : isQA G h q σ.1.1.length σ.1.2) (hqr : q < r) (a b : Int32) (n : Nat) : Sp G mm_L_due 3 1 64 [.int (nI 5), .int a, .int b, .ref q, .ref r] h n (qDue G q r h (opTurn σ)) := by
  refine Sp_of (by decide +kernel) (Nat.le_of_ble_eq_true rfl) ?_
  obtain ⟨f, h1, h2, h3⟩ := w
  obtain ⟨fq, q0, q1, q2⟩ := v
  have htl := trn_len σ.1.1
  have t0 : twi (List.take 0 (trn σ.1.1)) + 100 = 100 := by rw [List.take_zero]; decide
  have signs : ∀ (j k : Nat) (hh : HP) (n1 : Nat) (g : Nat → Int32), k + j = σ.1.1.length → hh r = some (.inl (G.2.1 0, 32, .inl g)) → hh q = some (.inl (G.2.1 0, 2, .inl fq)) → (∀ i, i < k → g i = (trn σ.1.1).getD i 0) → (∀ i, k ≤ i → i < σ.1.1.length → g i = σ.1.1.getD (σ.1.1.length - 1 - i) 0) → ky 0 q h hh → J (g0 G) mm_L_due 3 290 [(3, .ref q), (4, .ref r), (5, .int (nI σ.1.1.length)), (7, .int (twi ((trn σ.1.1).take k) + 100)), (8, .int (nI k))] [] hh n1 1 64 (RT mm_L_due (qDue G q r h (opTurn σ))) := by
    intro j
    induction j with
    | zero =>
      intro k hh n1 g hj g1 g2 g3 g4 hf
      refine J_iload dL_due_290 (by rfl) ?_
      refine J_iload dL_due_292 (by rfl) ?_
      refine J_icmp_ge (tgt := 332) dL_due_294 (by decide) (fun c294 => ?_) (fun c294 => ?_)
      · rw [nI_leI (by omega) (by omega)] at c294
        refine J_iload dL_due_332 (by rfl) ?_
        exact J_ireturn dL_due_334 rfl (by rfl) (qDue_ok (show opTurn σ = (0, twi (trn σ.1.1) + 100, sv6 σ (trn σ.1.1, σ.1.2)) from rfl) (by rw [List.take_of_length_le (by omega)]) ⟨g, g1, by show (trn σ.1.1).length ≤ 30; omega, fun i hi => by
          have hi : i < (trn σ.1.1).length := hi
          exact g3 i (by omega)⟩ ⟨fq, g2, by show _ = nI (trn σ.1.1).length; rw [htl]; exact q1, q2⟩ hf)
      · rw [nI_leI (by omega) (by omega)] at c294
        exact absurd (by omega) c294
    | succ j ih =>
      intro k hh n1 g hj g1 g2 g3 g4 hf
      have et := trn_get (xs := σ.1.1) (i := k) (by omega)
      have tw := twi_take (xs := trn σ.1.1) (k := k) (by omega)
      refine J_iload dL_due_290 (by rfl) ?_
      refine J_iload dL_due_292 (by rfl) ?_
      refine J_icmp_ge (tgt := 332) dL_due_294 (by decide) (fun c294 => ?_) (fun c294 => ?_)
      · rw [nI_leI (by omega) (by omega)] at c294
        exact absurd c294 (by omega)
      · rw [nI_leI (by omega) (by omega)] at c294
        refine J_aload dL_due_297 (by rfl) ?_
        refine J_iload dL_due_299 (by rfl) ?_
        refine J_aload dL_due_301 (by rfl) ?_
        refine J_iload dL_due_303 (by rfl) ?_
        refine J_ga dL_due_305 (by first | assumption | exact isLT.ob (by assumption) | exact isRow.ob (by assumption) | exact isHnd.ob (by assumption) | exact isUnt.ob (by assumption) | exact isSt.ob (by assumption) | exact isHist.ob (by assumption) | exact isTxt.ob (by assumption) | exact isLac.ob (by assumption) | exact isMea.ob (by assumption) | exact hset_s | exact (hset_n (by first | assumption | omega)).trans (by first | assumption | exact isLT.ob (by assumption) | exact isRow.ob (by assumption) | exact isHnd.ob (by assumption) | exact isUnt.ob (by assumption) | exact isSt.ob (by assumption) | exact isHist.ob (by assumption) | exact isTxt.ob (by assumption) | exact isLac.ob (by assumption) | exact isMea.ob (by assumption) | exact hset_s | exact (hset_n (by first | assumption | omega)).trans (by first | assumption | exact isLT.ob (by assumption) | exact isRow.ob (by assumption) | exact isHnd.ob (by assumption) | exact isUnt.ob (by assumption) | exact isSt.ob (by assumption) | exact isHist.ob (by assumption) | exact isTxt.ob (by assumption) | exact isLac.ob (by assumption) | exact isMea.ob (by assumption) | exact hset_s | exact (hset_n (by first | assumption | omega)).trans (by first | assumption | exact isLT.ob (by assumption) | exact isRow.ob (by assumption) | exact isHnd.ob (by assumption) | exact isUnt.ob (by assumption) | exact isSt.ob (by assumption) | exact isHist.ob (by assumption) | exact isTxt.ob (by assumption) | exact isLac.ob (by assumption) | exact isMea.ob (by assumption))))) (by first | assumption | omega) (by omega) ?_
        rw [g4 k (by omega) (by omega)]
        refine J_ineg dL_due_306 ?_
        rw [← et]
        refine J_pa dL_due_307 (by first | assumption | exact isLT.ob (by assumption) | exact isRow.ob (by assumption) | exact isHnd.ob (by assumption) | exact isUnt.ob (by assumption) | exact isSt.ob (by assumption) | exact isHist.ob (by assumption) | exact isTxt.ob (by assumption) | exact isLac.ob (by assumption) | exact isMea.ob (by assumption) | exact hset_s | exact (hset_n (by first | assumption | omega)).trans (by first | assumption | exact isLT.ob (by assumption) | exact isRow.ob (by assumption) | exact isHnd.ob (by assumption) | exact isUnt.ob (by assumption) | exact isSt.ob (by assumption) | exact isHist.ob (by assumption) | exact isTxt.ob (by assumption) | exact isLac.ob (by assumption) | exact isMea.ob (by assumption) | exact hset_s | exact (hset_n (by first | assumption | omega)).trans (by first | assumption | exact isLT.ob (by assumption) | exact isRow.ob (by assumption) | exact isHnd.ob (by assumption) | exact isUnt.ob (by assumption) | exact isSt.ob (by assumption) | exact isHist.ob (by assumption) | exact isTxt.ob (by assumption) | exact isLac.ob (by assumption) | exact isMea.ob (by assumption) | exact hset_s | exact (hset_n (by first | assumption | omega)).trans (by first | assumption | exact isLT.ob (by assumption) | exact isRow.ob (by assumption) | exact isHnd.ob (by assumption) | exact isUnt.ob (by assumption) | exact isSt.ob (by assumption) | exact isHist.ob (by assumption) | exact isTxt.ob (by assumption) | exact isLac.ob (by assumption) | exact isMea.ob (by assumption))))) (by first | assumption | omega) (by omega) ?_
        refine J_iload dL_due_308 (by rfl) ?_
        refine J_aload dL_due_310 (by rfl) ?_
        refine J_iload dL_due_312 (by rfl) ?_
        refine J_ga dL_due_314 (by first | assumption | exact isLT.ob (by assumption) | exact isRow.ob (by assumption) | exact isHnd.ob (by assumption) | exact isUnt.ob (by assumption) | exact isSt.ob (by assumption) | exact isHist.ob (by assumption) | exact isTxt.ob (by assumption) | exact isLac.ob (by assumption) | exact isMea.ob (by assumption) | exact hset_s | exact (hset_n (by first | assumption | omega)).trans (by first | assumption | exact isLT.ob (by assumption) | exact isRow.ob (by assumption) | exact isHnd.ob (by assumption) | exact isUnt.ob (by assumption) | exact isSt.ob (by assumption) | exact isHist.ob (by assumption) | exact isTxt.ob (by assumption) | exact isLac.ob (by assumption) | exact isMea.ob (by assumption) | exact hset_s | exact (hset_n (by first | assumption | omega)).trans (by first | assumption | exact isLT.ob (by assumption) | exact isRow.ob (by assumption) | exact isHnd.ob (by assumption) | exact isUnt.ob (by assumption) | exact isSt.ob (by assumption) | exact isHist.ob (by assumption) | exact isTxt.ob (by assumption) | exact isLac.ob (by assumption) | exact isMea.ob (by assumption) | exact hset_s | exact (hset_n (by first | assumption | omega)).trans (by first | assumption | exact isLT.ob (by assumption) | exact isRow.ob (by assumption) | exact isHnd.ob (by assumption) | exact isUnt.ob (by assumption) | exact isSt.ob (by assumption) | exact isHist.ob (by assumption) | exact isTxt.ob (by assumption) | exact isLac.ob (by assumption) | exact isMea.ob (by assumption))))) (by first | assumption | omega) (by omega) ?_
        rw [upd_s]
        refine J_if_le (tgt := 322) dL_due_315 (by decide) (fun c315 => ?_) (fun c315 => ?_)
        · rw [if_neg (Int32.not_lt.mpr c315)] at tw
          refine J_iconst (v := (-1)) dL_due_322 (by decide) ?_
          refine J_iadd dL_due_323 ?_
          refine J_istore dL_due_324 (by decide) (by rfl) ?_
          refine J_iincN dL_due_326 (by rfl) (by decide) (by rfl) ?_
          refine J_goto (tgt := 290) dL_due_329 (by decide) ?_
          exact J_sub (subl_cons rfl (subl_cons rfl (subl_cons rfl (subl_cons (by show some (Value.int _) = some (Value.int _); rw [tw]; first | rw [← i32c] | rw [← i32d]) (subl_cons rfl subl_nil))))) (ih (k + 1) _ _ _ (by omega) hset_s ((hset_n (by omega)).trans g2) (fun i d1 => by
            by_cases e : i = k
            · subst e; rw [upd_s]
            · rw [upd_n e]; exact g3 i (by omega)) (fun i d1 d2 => by rw [upd_n (by omega)]; exact g4 i (by omega) d2) (ky_tr hf (ky_set (Or.inr (by omega)))))
        · rw [if_pos (Int32.not_le.mp c315)] at tw
          refine J_iconst (v := 1) dL_due_318 (by decide) ?_
          refine J_goto (tgt := 323) dL_due_319 (by decide) ?_
          refine J_iadd dL_due_323 ?_
          refine J_istore dL_due_324 (by decide) (by rfl) ?_
          refine J_iincN dL_due_326 (by rfl) (by decide) (by rfl) ?_
          refine J_goto (tgt := 290) dL_due_329 (by decide) ?_
          exact J_sub (subl_cons rfl (subl_cons rfl (subl_cons rfl (subl_cons (by show some (Value.int _) = some (Value.int _); rw [tw]; first | rw [← i32c] | rw [← i32d]) (subl_cons rfl subl_nil))))) (ih (k + 1) _ _ _ (by omega) hset_s ((hset_n (by omega)).trans g2) (fun i d1 => by
            by_cases e : i = k
            · subst e; rw [upd_s]
            · rw [upd_n e]; exact g3 i (by omega)) (fun i d1 d2 => by rw [upd_n (by omega)]; exact g4 i (by omega) d2) (ky_tr hf (ky_set (Or.inr (by omega)))))
  have swap : ∀ (j k : Nat) (hh : HP) (n1 : Nat) (g : Nat → Int32), σ.1.1.length / 2 - k = j → 2 * k ≤ σ.1.1.length → 0 < σ.1.1.length → hh r = some (.inl (G.2.1 0, 32, .inl g)) → hh q = some (.inl (G.2.1 0, 2, .inl fq)) → (∀ i, i < σ.1.1.length → g i = if i < k ∨ σ.1.1.length - k ≤ i then σ.1.1.getD (σ.1.1.length - 1 - i) 0 else σ.1.1.getD i 0) → ky 0 q h hh → J (g0 G) mm_L_due 3 235 [(3, .ref q), (4, .ref r), (5, .int (nI σ.1.1.length)), (7, .int 100), (8, .int (nI k))] [] hh n1 1 64 (RT mm_L_due (qDue G q r h (opTurn σ))) := by
    intro j
    induction j using Nat.strongRecOn with
    | _ j ih =>
      intro k hh n1 g hj h2k h0 g1 g2 g3 hf
      refine J_iload dL_due_235 (by rfl) ?_
      refine J_iload dL_due_237 (by rfl) ?_
      refine J_iconst (v := nI 1) dL_due_239 (by decide) ?_
      refine J_isub dL_due_240 ?_
      rw [pk_sub (by omega)]
      refine J_iload dL_due_241 (by rfl) ?_
      refine J_isub dL_due_243 ?_
      rw [pk_sub (by omega)]
      refine J_icmp_ge (tgt := 287) dL_due_244 (by decide) (fun c244 => ?_) (fun c244 => ?_)
      · rw [nI_leI (by omega) (by omega)] at c244
        refine J_iconst (v := nI 0) dL_due_287 (by decide) ?_
        refine J_istore dL_due_288 (by decide) (by rfl) ?_
        have s0 := fun n1 => signs σ.1.1.length 0 _ n1 g (by omega) g1 g2 (fun i d => absurd d (by omega)) (fun i d1 d2 => by
          rw [g3 i d2]
          by_cases e : i < k ∨ σ.1.1.length - k ≤ i
          · rw [if_pos e]
          · rw [if_neg e]; congr 1; omega) hf
        rw [t0] at s0
        exact J_sub (by repeat (first | exact subl_nil | refine subl_cons rfl ?_)) (s0 _)
      · rw [nI_leI (by omega) (by omega)] at c244
        refine J_aload dL_due_247 (by rfl) ?_
        refine J_iload dL_due_249 (by rfl) ?_
        refine J_ga dL_due_251 (by first | assumption | exact isLT.ob (by assumption) | exact isRow.ob (by assumption) | exact isHnd.ob (by assumption) | exact isUnt.ob (by assumption) | exact isSt.ob (by assumption) | exact isHist.ob (by assumption) | exact isTxt.ob (by assumption) | exact isLac.ob (by assumption) | exact isMea.ob (by assumption) | exact hset_s | exact (hset_n (by first | assumption | omega)).trans (by first | assumption | exact isLT.ob (by assumption) | exact isRow.ob (by assumption) | exact isHnd.ob (by assumption) | exact isUnt.ob (by assumption) | exact isSt.ob (by assumption) | exact isHist.ob (by assumption) | exact isTxt.ob (by assumption) | exact isLac.ob (by assumption) | exact isMea.ob (by assumption) | exact hset_s | exact (hset_n (by first | assumption | omega)).trans (by first | assumption | exact isLT.ob (by assumption) | exact isRow.ob (by assumption) | exact isHnd.ob (by assumption) | exact isUnt.ob (by assumption) | exact isSt.ob (by assumption) | exact isHist.ob (by assumption) | exact isTxt.ob (by assumption) | exact isLac.ob (by assumption) | exact isMea.ob (by assumption) | exact hset_s | exact (hset_n (by first | assumption | omega)).trans (by first | assumption | exact isLT.ob (by assumption) | exact isRow.ob (by assumption) | exact isHnd.ob (by assumption) | exact isUnt.ob (by assumption) | exact isSt.ob (by assumption) | exact isHist.ob (by assumption) | exact isTxt.ob (by assumption) | exact isLac.ob (by assumption) | exact isMea.ob (by assumption))))) (by first | assumption | omega) (by omega) ?_
        rw [g3 k (by omega), if_neg (by omega)]
        refine J_istore dL_due_252 (by decide) (by rfl) ?_
        refine J_aload dL_due_254 (by rfl) ?_
        refine J_iload dL_due_256 (by rfl) ?_
        refine J_aload dL_due_258 (by rfl) ?_
        refine J_iload dL_due_260 (by rfl) ?_
        refine J_iconst (v := nI 1) dL_due_262 (by decide) ?_
        refine J_isub dL_due_263 ?_
        rw [pk_sub (by omega)]
        refine J_iload dL_due_264 (by rfl) ?_
        refine J_isub dL_due_266 ?_
        rw [pk_sub (by omega)]
        refine J_ga dL_due_267 (by first | assumption | exact isLT.ob (by assumption) | exact isRow.ob (by assumption) | exact isHnd.ob (by assumption) | exact isUnt.ob (by assumption) | exact isSt.ob (by assumption) | exact isHist.ob (by assumption) | exact isTxt.ob (by assumption) | exact isLac.ob (by assumption) | exact isMea.ob (by assumption) | exact hset_s | exact (hset_n (by first | assumption | omega)).trans (by first | assumption | exact isLT.ob (by assumption) | exact isRow.ob (by assumption) | exact isHnd.ob (by assumption) | exact isUnt.ob (by assumption) | exact isSt.ob (by assumption) | exact isHist.ob (by assumption) | exact isTxt.ob (by assumption) | exact isLac.ob (by assumption) | exact isMea.ob (by assumption) | exact hset_s | exact (hset_n (by first | assumption | omega)).trans (by first | assumption | exact isLT.ob (by assumption) | exact isRow.ob (by assumption) | exact isHnd.ob (by assumption) | exact isUnt.ob (by assumption) | exact isSt.ob (by assumption) | exact isHist.ob (by assumption) | exact isTxt.ob (by assumption) | exact isLac.ob (by assumption) | exact isMea.ob (by assumption) | exact hset_s | exact (hset_n (by first | assumption | omega)).trans (by first | assumption | exact isLT.ob (by assumption) | exact isRow.ob (by assumption) | exact isHnd.ob (by assumption) | exact isUnt.ob (by assumption) | exact isSt.ob (by assumption) | exact isHist.ob (by assumption) | exact isTxt.ob (by assumption) | exact isLac.ob (by assumption) | exact isMea.ob (by assumption))))) (by first | assumption | omega) (by omega) ?_
        rw [g3 _ (by omega), if_neg (by omega)]
        refine J_pa dL_due_268 (by first | assumption | exact isLT.ob (by assumption) | exact isRow.ob (by assumption) | exact isHnd.ob (by assumption) | exact isUnt.ob (by assumption) | exact isSt.ob (by assumption) | exact isHist.ob (by assumption) | exact isTxt.ob (by assumption) | exact isLac.ob (by assumption) | exact isMea.ob (by assumption) | exact hset_s | exact (hset_n (by first | assumption | omega)).trans (by first | assumption | exact isLT.ob (by assumption) | exact isRow.ob (by assumption) | exact isHnd.ob (by assumption) | exact isUnt.ob (by assumption) | exact isSt.ob (by assumption) | exact isHist.ob (by assumption) | exact isTxt.ob (by assumption) | exact isLac.ob (by assumption) | exact isMea.ob (by assumption) | exact hset_s | exact (hset_n (by first | assumption | omega)).trans (by first | assumption | exact isLT.ob (by assumption) | exact isRow.ob (by assumption) | exact isHnd.ob (by assumption) | exact isUnt.ob (by assumption) | exact isSt.ob (by assumption) | exact isHist.ob (by assumption) | exact isTxt.ob (by assumption) | exact isLac.ob (by assumption) | exact isMea.ob (by assumption) | exact hset_s | exact (hset_n (by first | assumption | omega)).trans (by first | assumption | exact isLT.ob (by assumption) | exact isRow.ob (by assumption) | exact isHnd.ob (by assumption) | exact isUnt.ob (by assumption) | exact isSt.ob (by assumption) | exact isHist.ob (by assumption) | exact isTxt.ob (by assumption) | exact isLac.ob (by assumption) | exact isMea.ob (by assumption))))) (by first | assumption | omega) (by omega) ?_
        refine J_aload dL_due_269 (by rfl) ?_
        refine J_iload dL_due_271 (by rfl) ?_
        refine J_iconst (v := nI 1) dL_due_273 (by decide) ?_
        refine J_isub dL_due_274 ?_
        rw [pk_sub (by omega)]
        refine J_iload dL_due_275 (by rfl) ?_
        refine J_isub dL_due_277 ?_
        rw [pk_sub (by omega)]
        refine J_iload dL_due_278 (by rfl) ?_
        refine J_pa dL_due_280 (by first | assumption | exact isLT.ob (by assumption) | exact isRow.ob (by assumption) | exact isHnd.ob (by assumption) | exact isUnt.ob (by assumption) | exact isSt.ob (by assumption) | exact isHist.ob (by assumption) | exact isTxt.ob (by assumption) | exact isLac.ob (by assumption) | exact isMea.ob (by assumption) | exact hset_s | exact (hset_n (by first | assumption | omega)).trans (by first | assumption | exact isLT.ob (by assumption) | exact isRow.ob (by assumption) | exact isHnd.ob (by assumption) | exact isUnt.ob (by assumption) | exact isSt.ob (by assumption) | exact isHist.ob (by assumption) | exact isTxt.ob (by assumption) | exact isLac.ob (by assumption) | exact isMea.ob (by assumption) | exact hset_s | exact (hset_n (by first | assumption | omega)).trans (by first | assumption | exact isLT.ob (by assumption) | exact isRow.ob (by assumption) | exact isHnd.ob (by assumption) | exact isUnt.ob (by assumption) | exact isSt.ob (by assumption) | exact isHist.ob (by assumption) | exact isTxt.ob (by assumption) | exact isLac.ob (by assumption) | exact isMea.ob (by assumption) | exact hset_s | exact (hset_n (by first | assumption | omega)).trans (by first | assumption | exact isLT.ob (by assumption) | exact isRow.ob (by assumption) | exact isHnd.ob (by assumption) | exact isUnt.ob (by assumption) | exact isSt.ob (by assumption) | exact isHist.ob (by assumption) | exact isTxt.ob (by assumption) | exact isLac.ob (by assumption) | exact isMea.ob (by assumption))))) (by first | assumption | omega) (by omega) ?_
        refine J_iincN dL_due_281 (by rfl) (by decide) (by rfl) ?_
        refine J_goto (tgt := 235) dL_due_284 (by decide) ?_
        exact J_sub (by repeat (first | exact subl_nil | refine subl_cons rfl ?_)) (ih (σ.1.1.length / 2 - (k + 1)) (by omega) (k + 1) _ _ _ rfl (by omega) h0 hset_s ((hset_n (by omega)).trans ((hset_n (by omega)).trans g2)) (fun i hi => by
          by_cases e : i = σ.1.1.length - 1 - k
          · subst e; rw [upd_s, if_pos (by omega)]; congr 1; omega
          · rw [upd_n e]
            by_cases e2 : i = k
            · subst e2; rw [upd_s, if_pos (by omega)]
            · rw [upd_n e2, g3 i hi]
              by_cases e3 : i < k ∨ σ.1.1.length - k ≤ i
              · rw [if_pos e3, if_pos (by omega)]
              · rw [if_neg e3, if_neg (by omega)]) (ky_tr hf (ky_tr (ky_set (Or.inr (by omega))) (ky_set (Or.inr (by omega))))))
  rcases Nat.eq_zero_or_pos σ.1.1.length with e0 | e0
  · refine J_aload_n dL_due_0 (by rfl) ?_
    refine J_iconst (v := nI 0) dL_due_1 (by decide) ?_
    refine J_ga dL_due_2 (by first | assumption | exact isLT.ob (by assumption) | exact isRow.ob (by assumption) | exact isHnd.ob (by assumption) | exact isUnt.ob (by assumption) | exact isSt.ob (by assumption) | exact isHist.ob (by assumption) | exact isTxt.ob (by assumption) | exact isLac.ob (by assumption) | exact isMea.ob (by assumption) | exact hset_s | exact (hset_n (by first | assumption | omega)).trans (by first | assumption | exact isLT.ob (by assumption) | exact isRow.ob (by assumption) | exact isHnd.ob (by assumption) | exact isUnt.ob (by assumption) | exact isSt.ob (by assumption) | exact isHist.ob (by assumption) | exact isTxt.ob (by assumption) | exact isLac.ob (by assumption) | exact isMea.ob (by assumption) | exact hset_s | exact (hset_n (by first | assumption | omega)).trans (by first | assumption | exact isLT.ob (by assumption) | exact isRow.ob (by assumption) | exact isHnd.ob (by assumption) | exact isUnt.ob (by assumption) | exact isSt.ob (by assumption) | exact isHist.ob (by assumption) | exact isTxt.ob (by assumption) | exact isLac.ob (by assumption) | exact isMea.ob (by assumption) | exact hset_s | exact (hset_n (by first | assumption | omega)).trans (by first | assumption | exact isLT.ob (by assumption) | exact isRow.ob (by assumption) | exact isHnd.ob (by assumption) | exact isUnt.ob (by assumption) | exact isSt.ob (by assumption) | exact isHist.ob (by assumption) | exact isTxt.ob (by assumption) | exact isLac.ob (by assumption) | exact isMea.ob (by assumption))))) (by first | assumption | omega) (by omega) ?_
    rw [q1]
    refine J_istore dL_due_3 (by decide) (by rfl) ?_
    refine J_iload_n dL_due_5 (by rfl) ?_
    refine J_tableIn (off := 222) (tgt := 228) dL_due_6 (by decide) (by decide) (by decide) (by decide) ?_
    refine J_bipush (v := 100) dL_due_228 (by decide) ?_
    refine J_istore dL_due_230 (by decide) (by rfl) ?_
    refine J_iconst (v := nI 0) dL_due_232 (by decide) ?_
    refine J_istore dL_due_233 (by decide) (by rfl) ?_
    refine J_iload dL_due_235 (by rfl) ?_
    refine J_iload dL_due_237 (by rfl) ?_
    refine J_iconst (v := nI 1) dL_due_239 (by decide) ?_
    refine J_isub dL_due_240 ?_
    refine J_iload dL_due_241 (by rfl) ?_
    refine J_isub dL_due_243 ?_
    rw [e0]
    refine J_icmp_ge (tgt := 287) dL_due_244 (by decide) (fun c244 => ?_) (fun c244 => ?_)
    · refine J_iconst (v := nI 0) dL_due_287 (by decide) ?_
      refine J_istore dL_due_288 (by decide) (by rfl) ?_
      have s0 := fun n1 => signs 0 0 _ n1 f (by omega) h1 q0 (fun i d => absurd d (by omega)) (fun i d1 d2 => absurd d2 (by omega)) ky_rf
      rw [t0, e0] at s0
      exact J_sub (by repeat (first | exact subl_nil | refine subl_cons rfl ?_)) (s0 _)
    · exact absurd (by decide) c244
  · refine J_aload_n dL_due_0 (by rfl) ?_
    refine J_iconst (v := nI 0) dL_due_1 (by decide) ?_
    refine J_ga dL_due_2 (by first | assumption | exact isLT.ob (by assumption) | exact isRow.ob (by assumption) | exact isHnd.ob (by assumption) | exact isUnt.ob (by assumption) | exact isSt.ob (by assumption) | exact isHist.ob (by assumption) | exact isTxt.ob (by assumption) | exact isLac.ob (by assumption) | exact isMea.ob (by assumption) | exact hset_s | exact (hset_n (by first | assumption | omega)).trans (by first | assumption | exact isLT.ob (by assumption) | exact isRow.ob (by assumption) | exact isHnd.ob (by assumption) | exact isUnt.ob (by assumption) | exact isSt.ob (by assumption) | exact isHist.ob (by assumption) | exact isTxt.ob (by assumption) | exact isLac.ob (by assumption) | exact isMea.ob (by assumption) | exact hset_s | exact (hset_n (by first | assumption | omega)).trans (by first | assumption | exact isLT.ob (by assumption) | exact isRow.ob (by assumption) | exact isHnd.ob (by assumption) | exact isUnt.ob (by assumption) | exact isSt.ob (by assumption) | exact isHist.ob (by assumption) | exact isTxt.ob (by assumption) | exact isLac.ob (by assumption) | exact isMea.ob (by assumption) | exact hset_s | exact (hset_n (by first | assumption | omega)).trans (by first | assumption | exact isLT.ob (by assumption) | exact isRow.ob (by assumption) | exact isHnd.ob (by assumption) | exact isUnt.ob (by assumption) | exact isSt.ob (by assumption) | exact isHist.ob (by assumption) | exact isTxt.ob (by assumption) | exact isLac.ob (by assumption) | exact isMea.ob (by assumption))))) (by first | assumption | omega) (by omega) ?_
    rw [q1]
    refine J_istore dL_due_3 (by decide) (by rfl) ?_
    refine J_iload_n dL_due_5 (by rfl) ?_
    refine J_tableIn (off := 222) (tgt := 228) dL_due_6 (by decide) (by decide) (by decide) (by decide) ?_
    refine J_bipush (v := 100) dL_due_228 (by decide) ?_
    refine J_istore dL_due_230 (by decide) (by rfl) ?_
    refine J_iconst (v := nI 0) dL_due_232 (by decide) ?_
    refine J_istore dL_due_233 (by decide) (by rfl) ?_
    exact J_sub (by repeat (first | exact subl_nil | refine subl_cons rfl ?_)) (swap _ 0 _ _ f rfl (by omega) e0 h1 q0 (fun i hi => by rw [if_neg (by omega)]; exact h3 i hi) ky_rf)
set_option maxRecDepth 20000 in
theorem sp_L_due6 (o : okS σ) (w : isRA G h r σ.1.1) (v : isQA G h q σ.1.1.length σ.1.2) (hqr : q < r) (a b : Int32) (n : Nat) : Sp G mm_L_due 3 1 64 [.int (nI 6), .int a, .int b, .ref q, .ref r] h n (qDue G q r h (opHandle σ)) := by
  refine Sp_of (by decide +kernel) (Nat.le_of_ble_eq_true rfl) ?_
  have w0 := w
  obtain ⟨f, h1, h2, h3⟩ := w
  obtain ⟨fq, q0, q1, q2⟩ := v
  have hx := o.1.1
  refine J_aload_n dL_due_0 (by rfl) ?_
  refine J_iconst (v := nI 0) dL_due_1 (by decide) ?_
  refine J_ga dL_due_2 (by first | assumption | exact isLT.ob (by assumption) | exact isRow.ob (by assumption) | exact isHnd.ob (by assumption) | exact isUnt.ob (by assumption) | exact isSt.ob (by assumption) | exact isHist.ob (by assumption) | exact isTxt.ob (by assumption) | exact isLac.ob (by assumption) | exact isMea.ob (by assumption) | exact hset_s | exact (hset_n (by first | assumption | omega)).trans (by first | assumption | exact isLT.ob (by assumption) | exact isRow.ob (by assumption) | exact isHnd.ob (by assumption) | exact isUnt.ob (by assumption) | exact isSt.ob (by assumption) | exact isHist.ob (by assumption) | exact isTxt.ob (by assumption) | exact isLac.ob (by assumption) | exact isMea.ob (by assumption) | exact hset_s | exact (hset_n (by first | assumption | omega)).trans (by first | assumption | exact isLT.ob (by assumption) | exact isRow.ob (by assumption) | exact isHnd.ob (by assumption) | exact isUnt.ob (by assumption) | exact isSt.ob (by assumption) | exact isHist.ob (by assumption) | exact isTxt.ob (by assumption) | exact isLac.ob (by assumption) | exact isMea.ob (by assumption) | exact hset_s | exact (hset_n (by first | assumption | omega)).trans (by first | assumption | exact isLT.ob (by assumption) | exact isRow.ob (by assumption) | exact isHnd.ob (by assumption) | exact isUnt.ob (by assumption) | exact isSt.ob (by assumption) | exact isHist.ob (by assumption) | exact isTxt.ob (by assumption) | exact isLac.ob (by assumption) | exact isMea.ob (by assumption))))) (by first | assumption | omega) (by omega) ?_
  rw [q1]
  refine J_istore dL_due_3 (by decide) (by rfl) ?_
  refine J_iload_n dL_due_5 (by rfl) ?_
  refine J_tableOut (tgt := 335) dL_due_6 (by decide) (by decide) ?_
  refine J_iload dL_due_335 (by rfl) ?_
  refine J_aload dL_due_337 (by rfl) ?_
  refine J_callS (kc' := 0) (kn' := 0) mf_L_undoes lk_L_113 ms_L_undoes (sp_L_undoes w0 hx _) dL_due_339 (by decide) (by rfl) rfl (Nat.le_of_ble_eq_true rfl) (by omega) (by omega) (fun v339 h339 n339 q339 => ?_)
  obtain ⟨k339, q339⟩ := q339
  have z339 := (k339 q (by omega) hqr).trans q0
  rcases q339 with ⟨rfl, w339, no339⟩ | ⟨p, p2, hfh, hlw, rfl, w339⟩
  · refine J_istore dL_due_342 (by decide) (by rfl) ?_
    refine J_aload_n dL_due_344 (by rfl) ?_
    refine J_iconst (v := nI 0) dL_due_345 (by decide) ?_
    refine J_iload dL_due_346 (by rfl) ?_
    refine J_if_ge (tgt := 356) dL_due_348 (by decide) (fun c348 => ?_) (fun c348 => ?_)
    · exact absurd c348 (by decide)
    · refine J_iload dL_due_351 (by rfl) ?_
      refine J_goto (tgt := 358) dL_due_353 (by decide) ?_
      refine J_pa dL_due_358 (by first | assumption | exact isLT.ob (by assumption) | exact isRow.ob (by assumption) | exact isHnd.ob (by assumption) | exact isUnt.ob (by assumption) | exact isSt.ob (by assumption) | exact isHist.ob (by assumption) | exact isTxt.ob (by assumption) | exact isLac.ob (by assumption) | exact isMea.ob (by assumption) | exact hset_s | exact (hset_n (by first | assumption | omega)).trans (by first | assumption | exact isLT.ob (by assumption) | exact isRow.ob (by assumption) | exact isHnd.ob (by assumption) | exact isUnt.ob (by assumption) | exact isSt.ob (by assumption) | exact isHist.ob (by assumption) | exact isTxt.ob (by assumption) | exact isLac.ob (by assumption) | exact isMea.ob (by assumption) | exact hset_s | exact (hset_n (by first | assumption | omega)).trans (by first | assumption | exact isLT.ob (by assumption) | exact isRow.ob (by assumption) | exact isHnd.ob (by assumption) | exact isUnt.ob (by assumption) | exact isSt.ob (by assumption) | exact isHist.ob (by assumption) | exact isTxt.ob (by assumption) | exact isLac.ob (by assumption) | exact isMea.ob (by assumption) | exact hset_s | exact (hset_n (by first | assumption | omega)).trans (by first | assumption | exact isLT.ob (by assumption) | exact isRow.ob (by assumption) | exact isHnd.ob (by assumption) | exact isUnt.ob (by assumption) | exact isSt.ob (by assumption) | exact isHist.ob (by assumption) | exact isTxt.ob (by assumption) | exact isLac.ob (by assumption) | exact isMea.ob (by assumption))))) (by first | assumption | omega) (by omega) ?_
      refine J_aload_n dL_due_359 (by rfl) ?_
      refine J_iconst (v := nI 1) dL_due_360 (by decide) ?_
      refine J_dup2 dL_due_361 rfl rfl ?_
      refine J_ga dL_due_362 (by first | assumption | exact isLT.ob (by assumption) | exact isRow.ob (by assumption) | exact isHnd.ob (by assumption) | exact isUnt.ob (by assumption) | exact isSt.ob (by assumption) | exact isHist.ob (by assumption) | exact isTxt.ob (by assumption) | exact isLac.ob (by assumption) | exact isMea.ob (by assumption) | exact hset_s | exact (hset_n (by first | assumption | omega)).trans (by first | assumption | exact isLT.ob (by assumption) | exact isRow.ob (by assumption) | exact isHnd.ob (by assumption) | exact isUnt.ob (by assumption) | exact isSt.ob (by assumption) | exact isHist.ob (by assumption) | exact isTxt.ob (by assumption) | exact isLac.ob (by assumption) | exact isMea.ob (by assumption) | exact hset_s | exact (hset_n (by first | assumption | omega)).trans (by first | assumption | exact isLT.ob (by assumption) | exact isRow.ob (by assumption) | exact isHnd.ob (by assumption) | exact isUnt.ob (by assumption) | exact isSt.ob (by assumption) | exact isHist.ob (by assumption) | exact isTxt.ob (by assumption) | exact isLac.ob (by assumption) | exact isMea.ob (by assumption) | exact hset_s | exact (hset_n (by first | assumption | omega)).trans (by first | assumption | exact isLT.ob (by assumption) | exact isRow.ob (by assumption) | exact isHnd.ob (by assumption) | exact isUnt.ob (by assumption) | exact isSt.ob (by assumption) | exact isHist.ob (by assumption) | exact isTxt.ob (by assumption) | exact isLac.ob (by assumption) | exact isMea.ob (by assumption))))) (by first | assumption | omega) (by omega) ?_
      rw [upd_n (by omega), q2]
      refine J_iload dL_due_363 (by rfl) ?_
      refine J_if_ge (tgt := 372) dL_due_365 (by decide) (fun c365 => ?_) (fun c365 => ?_)
      · exact absurd c365 (by decide)
      · refine J_iconst (v := nI 0) dL_due_368 (by decide) ?_
        refine J_goto (tgt := 373) dL_due_369 (by decide) ?_
        refine J_iadd dL_due_373 ?_
        rw [nI_add]
        refine J_pa dL_due_374 (by first | assumption | exact isLT.ob (by assumption) | exact isRow.ob (by assumption) | exact isHnd.ob (by assumption) | exact isUnt.ob (by assumption) | exact isSt.ob (by assumption) | exact isHist.ob (by assumption) | exact isTxt.ob (by assumption) | exact isLac.ob (by assumption) | exact isMea.ob (by assumption) | exact hset_s | exact (hset_n (by first | assumption | omega)).trans (by first | assumption | exact isLT.ob (by assumption) | exact isRow.ob (by assumption) | exact isHnd.ob (by assumption) | exact isUnt.ob (by assumption) | exact isSt.ob (by assumption) | exact isHist.ob (by assumption) | exact isTxt.ob (by assumption) | exact isLac.ob (by assumption) | exact isMea.ob (by assumption) | exact hset_s | exact (hset_n (by first | assumption | omega)).trans (by first | assumption | exact isLT.ob (by assumption) | exact isRow.ob (by assumption) | exact isHnd.ob (by assumption) | exact isUnt.ob (by assumption) | exact isSt.ob (by assumption) | exact isHist.ob (by assumption) | exact isTxt.ob (by assumption) | exact isLac.ob (by assumption) | exact isMea.ob (by assumption) | exact hset_s | exact (hset_n (by first | assumption | omega)).trans (by first | assumption | exact isLT.ob (by assumption) | exact isRow.ob (by assumption) | exact isHnd.ob (by assumption) | exact isUnt.ob (by assumption) | exact isSt.ob (by assumption) | exact isHist.ob (by assumption) | exact isTxt.ob (by assumption) | exact isLac.ob (by assumption) | exact isMea.ob (by assumption))))) (by first | assumption | omega) (by omega) ?_
        refine J_iload dL_due_375 (by rfl) ?_
        exact J_ireturn dL_due_377 rfl (by rfl) (qDue_no (i := 0) (show opHandle σ = fl 1 σ by
          unfold opHandle
          cases e : fh σ.1.1 with
          | none => rfl
          | some pp => exact if_pos (no339 pp.1 pp.2 e)) rfl (w339.keep ((hset_n (by omega)).trans (hset_n (by omega)))) (isQA_set rfl (by rw [upd_n (by omega), upd_s]) (by rw [upd_s]; rfl)) (ky_tr (ky_mono k339 (by omega) (by omega)) (ky_tr (ky_set (Or.inr (by omega))) (ky_set (Or.inr (by omega))))))
  · have hl9 := w339.le
    refine J_istore dL_due_342 (by decide) (by rfl) ?_
    refine J_aload_n dL_due_344 (by rfl) ?_
    refine J_iconst (v := nI 0) dL_due_345 (by decide) ?_
    refine J_iload dL_due_346 (by rfl) ?_
    refine J_if_ge (tgt := 356) dL_due_348 (by decide) (fun c348 => ?_) (fun c348 => ?_)
    · refine J_iload dL_due_356 (by rfl) ?_
      refine J_pa dL_due_358 (by first | assumption | exact isLT.ob (by assumption) | exact isRow.ob (by assumption) | exact isHnd.ob (by assumption) | exact isUnt.ob (by assumption) | exact isSt.ob (by assumption) | exact isHist.ob (by assumption) | exact isTxt.ob (by assumption) | exact isLac.ob (by assumption) | exact isMea.ob (by assumption) | exact hset_s | exact (hset_n (by first | assumption | omega)).trans (by first | assumption | exact isLT.ob (by assumption) | exact isRow.ob (by assumption) | exact isHnd.ob (by assumption) | exact isUnt.ob (by assumption) | exact isSt.ob (by assumption) | exact isHist.ob (by assumption) | exact isTxt.ob (by assumption) | exact isLac.ob (by assumption) | exact isMea.ob (by assumption) | exact hset_s | exact (hset_n (by first | assumption | omega)).trans (by first | assumption | exact isLT.ob (by assumption) | exact isRow.ob (by assumption) | exact isHnd.ob (by assumption) | exact isUnt.ob (by assumption) | exact isSt.ob (by assumption) | exact isHist.ob (by assumption) | exact isTxt.ob (by assumption) | exact isLac.ob (by assumption) | exact isMea.ob (by assumption) | exact hset_s | exact (hset_n (by first | assumption | omega)).trans (by first | assumption | exact isLT.ob (by assumption) | exact isRow.ob (by assumption) | exact isHnd.ob (by assumption) | exact isUnt.ob (by assumption) | exact isSt.ob (by assumption) | exact isHist.ob (by assumption) | exact isTxt.ob (by assumption) | exact isLac.ob (by assumption) | exact isMea.ob (by assumption))))) (by first | assumption | omega) (by omega) ?_
      refine J_aload_n dL_due_359 (by rfl) ?_
      refine J_iconst (v := nI 1) dL_due_360 (by decide) ?_
      refine J_dup2 dL_due_361 rfl rfl ?_
      refine J_ga dL_due_362 (by first | assumption | exact isLT.ob (by assumption) | exact isRow.ob (by assumption) | exact isHnd.ob (by assumption) | exact isUnt.ob (by assumption) | exact isSt.ob (by assumption) | exact isHist.ob (by assumption) | exact isTxt.ob (by assumption) | exact isLac.ob (by assumption) | exact isMea.ob (by assumption) | exact hset_s | exact (hset_n (by first | assumption | omega)).trans (by first | assumption | exact isLT.ob (by assumption) | exact isRow.ob (by assumption) | exact isHnd.ob (by assumption) | exact isUnt.ob (by assumption) | exact isSt.ob (by assumption) | exact isHist.ob (by assumption) | exact isTxt.ob (by assumption) | exact isLac.ob (by assumption) | exact isMea.ob (by assumption) | exact hset_s | exact (hset_n (by first | assumption | omega)).trans (by first | assumption | exact isLT.ob (by assumption) | exact isRow.ob (by assumption) | exact isHnd.ob (by assumption) | exact isUnt.ob (by assumption) | exact isSt.ob (by assumption) | exact isHist.ob (by assumption) | exact isTxt.ob (by assumption) | exact isLac.ob (by assumption) | exact isMea.ob (by assumption) | exact hset_s | exact (hset_n (by first | assumption | omega)).trans (by first | assumption | exact isLT.ob (by assumption) | exact isRow.ob (by assumption) | exact isHnd.ob (by assumption) | exact isUnt.ob (by assumption) | exact isSt.ob (by assumption) | exact isHist.ob (by assumption) | exact isTxt.ob (by assumption) | exact isLac.ob (by assumption) | exact isMea.ob (by assumption))))) (by first | assumption | omega) (by omega) ?_
      rw [upd_n (by omega), q2]
      refine J_iload dL_due_363 (by rfl) ?_
      refine J_if_ge (tgt := 372) dL_due_365 (by decide) (fun c365 => ?_) (fun c365 => ?_)
      · refine J_iconst (v := nI 1) dL_due_372 (by decide) ?_
        refine J_iadd dL_due_373 ?_
        rw [nI_add]
        refine J_pa dL_due_374 (by first | assumption | exact isLT.ob (by assumption) | exact isRow.ob (by assumption) | exact isHnd.ob (by assumption) | exact isUnt.ob (by assumption) | exact isSt.ob (by assumption) | exact isHist.ob (by assumption) | exact isTxt.ob (by assumption) | exact isLac.ob (by assumption) | exact isMea.ob (by assumption) | exact hset_s | exact (hset_n (by first | assumption | omega)).trans (by first | assumption | exact isLT.ob (by assumption) | exact isRow.ob (by assumption) | exact isHnd.ob (by assumption) | exact isUnt.ob (by assumption) | exact isSt.ob (by assumption) | exact isHist.ob (by assumption) | exact isTxt.ob (by assumption) | exact isLac.ob (by assumption) | exact isMea.ob (by assumption) | exact hset_s | exact (hset_n (by first | assumption | omega)).trans (by first | assumption | exact isLT.ob (by assumption) | exact isRow.ob (by assumption) | exact isHnd.ob (by assumption) | exact isUnt.ob (by assumption) | exact isSt.ob (by assumption) | exact isHist.ob (by assumption) | exact isTxt.ob (by assumption) | exact isLac.ob (by assumption) | exact isMea.ob (by assumption) | exact hset_s | exact (hset_n (by first | assumption | omega)).trans (by first | assumption | exact isLT.ob (by assumption) | exact isRow.ob (by assumption) | exact isHnd.ob (by assumption) | exact isUnt.ob (by assumption) | exact isSt.ob (by assumption) | exact isHist.ob (by assumption) | exact isTxt.ob (by assumption) | exact isLac.ob (by assumption) | exact isMea.ob (by assumption))))) (by first | assumption | omega) (by omega) ?_
        refine J_iload dL_due_375 (by rfl) ?_
        exact J_ireturn dL_due_377 rfl (by rfl) (qDue_ok (show opHandle σ = (0, nI (tko σ.1.1 p p2).length, sv6 σ (tko σ.1.1 p p2, σ.1.2 + 1)) by unfold opHandle; rw [hfh]; exact if_neg hlw) rfl (w339.keep ((hset_n (by omega)).trans (hset_n (by omega)))) (isQA_set rfl (by rw [upd_n (by omega), upd_s]; rfl) (by rw [upd_s]; rfl)) (ky_tr (ky_mono k339 (by omega) (by omega)) (ky_tr (ky_set (Or.inr (by omega))) (ky_set (Or.inr (by omega))))))
      · exact absurd (nI_pos' (by omega)) c365
    · exact absurd (nI_pos' (by omega)) c348
end DU
