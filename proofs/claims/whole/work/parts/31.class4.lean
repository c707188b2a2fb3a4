/-! the class's calls: the best move, the slack -/
theorem plc_le (xs : List Int32) (m : Nat) : plc xs m ≤ xs.length := by
  unfold plc
  exact Nat.le_trans (List.length_filter_le _ _) (by rw [List.length_range]; exact Nat.le_refl _)
theorem mk_le (xs : List Int32) (m k : Nat) : (mk xs m k).length ≤ xs.length := by
  unfold mk
  split
  · unfold delP; rw [List.length_append, List.length_take, List.length_drop]; omega
  · split <;> simp
def bsA (xs : List Int32) (n0 m : Nat) : Nat → Nat → Option Nat
  | 0, _ => none
  | j + 1, k => if rsn xs m k = 0 ∧ n0 < plc (mk xs m k) 0 then some k else bsA xs n0 m j (k + 1)
def best (xs : List Int32) : Int32 := match bsA xs (plc xs 0) 1 xs.length 0 with
  | some k => nI (31 * 1 + k)
  | none => match bsA xs (plc xs 0) 2 xs.length 0 with
    | some k => nI (31 * 2 + k)
    | none => -1
set_option maxRecDepth 20000 in
theorem sp_X9_bestMove {G : GG} {h : HP} {x : Nat} {σ : Sg} (w : isLT G h x σ) (n : Nat) : Sp G mm_X9_bestMove 5 0 0 [.ref x] h n (qLk G x h σ (best σ.1.1)) := by
  refine Sp_of (by decide +kernel) (Nat.le_of_ble_eq_true rfl) ?_
  obtain ⟨w0, w1, ⟨kx, km, w2, w2b⟩, ⟨nx, w3⟩, w4, ⟨lx, lq, w5⟩, w6, ⟨hb0, he0, w7⟩, ⟨uV, uS, uy, uu, um, uok, ub, ue, w8⟩, tx, w9⟩ := id w
  have r0 := w1.2
  have hle := r0.le
  have hp0 := plc_le σ.1.1 0
  have inner : ∀ (j k m : Nat) (h1 : HP) (n1 : Nat), k + j = σ.1.1.length → m = 1 ∨ m = 2 → isLT G h1 x σ → fr x (x + 64) h h1 → bsA σ.1.1 (plc σ.1.1 0) m j k = bsA σ.1.1 (plc σ.1.1 0) m σ.1.1.length 0 → (∀ k, bsA σ.1.1 (plc σ.1.1 0) m σ.1.1.length 0 = some k → best σ.1.1 = nI (31 * m + k)) → (bsA σ.1.1 (plc σ.1.1 0) m σ.1.1.length 0 = none → ∀ (h1 : HP) (n1 : Nat), isLT G h1 x σ → fr x (x + 64) h h1 → J (g0 G) mm_X9_bestMove 5 14 [(0, .ref x), (1, .int (nI (plc σ.1.1 0))), (2, .int (nI (m + 1)))] [] h1 n1 0 0 (RT mm_X9_bestMove (qLk G x h σ (best σ.1.1)))) → J (g0 G) mm_X9_bestMove 5 21 [(0, .ref x), (1, .int (nI (plc σ.1.1 0))), (2, .int (nI m)), (3, .int (nI k))] [] h1 n1 0 0 (RT mm_X9_bestMove (qLk G x h σ (best σ.1.1))) := by
    intro j
    induction j with
    | zero =>
      intro k m h1 n1 hj hm u1 k1 hb hs hn
      have s1 := u1.2.1
      have r1 := s1.2
      refine J_iload_n dX9_bestMove_21 (by rfl) ?_
      refine J_aload_n dX9_bestMove_22 (by rfl) ?_
      refine J_get fg_X9_10 dX9_bestMove_23 (by first | assumption | exact isLT.ob (by assumption) | exact isRow.ob (by assumption) | exact isHnd.ob (by assumption) | exact isUnt.ob (by assumption) | exact isSt.ob (by assumption) | exact isHist.ob (by assumption) | exact isTxt.ob (by assumption) | exact isLac.ob (by assumption) | exact isMea.ob (by assumption) | exact hset_s | exact (hset_n (by first | assumption | omega)).trans (by first | assumption | exact isLT.ob (by assumption) | exact isRow.ob (by assumption) | exact isHnd.ob (by assumption) | exact isUnt.ob (by assumption) | exact isSt.ob (by assumption) | exact isHist.ob (by assumption) | exact isTxt.ob (by assumption) | exact isLac.ob (by assumption) | exact isMea.ob (by assumption) | exact hset_s | exact (hset_n (by first | assumption | omega)).trans (by first | assumption | exact isLT.ob (by assumption) | exact isRow.ob (by assumption) | exact isHnd.ob (by assumption) | exact isUnt.ob (by assumption) | exact isSt.ob (by assumption) | exact isHist.ob (by assumption) | exact isTxt.ob (by assumption) | exact isLac.ob (by assumption) | exact isMea.ob (by assumption) | exact hset_s | exact (hset_n (by first | assumption | omega)).trans (by first | assumption | exact isLT.ob (by assumption) | exact isRow.ob (by assumption) | exact isHnd.ob (by assumption) | exact isUnt.ob (by assumption) | exact isSt.ob (by assumption) | exact isHist.ob (by assumption) | exact isTxt.ob (by assumption) | exact isLac.ob (by assumption) | exact isMea.ob (by assumption))))) (by rfl) ?_
      refine J_get fg_X9_85 dX9_bestMove_26 (by first | assumption | exact isLT.ob (by assumption) | exact isRow.ob (by assumption) | exact isHnd.ob (by assumption) | exact isUnt.ob (by assumption) | exact isSt.ob (by assumption) | exact isHist.ob (by assumption) | exact isTxt.ob (by assumption) | exact isLac.ob (by assumption) | exact isMea.ob (by assumption) | exact hset_s | exact (hset_n (by first | assumption | omega)).trans (by first | assumption | exact isLT.ob (by assumption) | exact isRow.ob (by assumption) | exact isHnd.ob (by assumption) | exact isUnt.ob (by assumption) | exact isSt.ob (by assumption) | exact isHist.ob (by assumption) | exact isTxt.ob (by assumption) | exact isLac.ob (by assumption) | exact isMea.ob (by assumption) | exact hset_s | exact (hset_n (by first | assumption | omega)).trans (by first | assumption | exact isLT.ob (by assumption) | exact isRow.ob (by assumption) | exact isHnd.ob (by assumption) | exact isUnt.ob (by assumption) | exact isSt.ob (by assumption) | exact isHist.ob (by assumption) | exact isTxt.ob (by assumption) | exact isLac.ob (by assumption) | exact isMea.ob (by assumption) | exact hset_s | exact (hset_n (by first | assumption | omega)).trans (by first | assumption | exact isLT.ob (by assumption) | exact isRow.ob (by assumption) | exact isHnd.ob (by assumption) | exact isUnt.ob (by assumption) | exact isSt.ob (by assumption) | exact isHist.ob (by assumption) | exact isTxt.ob (by assumption) | exact isLac.ob (by assumption) | exact isMea.ob (by assumption))))) (by rfl) ?_
      refine J_get fg_X9_88 dX9_bestMove_29 (by first | assumption | exact isLT.ob (by assumption) | exact isRow.ob (by assumption) | exact isHnd.ob (by assumption) | exact isUnt.ob (by assumption) | exact isSt.ob (by assumption) | exact isHist.ob (by assumption) | exact isTxt.ob (by assumption) | exact isLac.ob (by assumption) | exact isMea.ob (by assumption) | exact hset_s | exact (hset_n (by first | assumption | omega)).trans (by first | assumption | exact isLT.ob (by assumption) | exact isRow.ob (by assumption) | exact isHnd.ob (by assumption) | exact isUnt.ob (by assumption) | exact isSt.ob (by assumption) | exact isHist.ob (by assumption) | exact isTxt.ob (by assumption) | exact isLac.ob (by assumption) | exact isMea.ob (by assumption) | exact hset_s | exact (hset_n (by first | assumption | omega)).trans (by first | assumption | exact isLT.ob (by assumption) | exact isRow.ob (by assumption) | exact isHnd.ob (by assumption) | exact isUnt.ob (by assumption) | exact isSt.ob (by assumption) | exact isHist.ob (by assumption) | exact isTxt.ob (by assumption) | exact isLac.ob (by assumption) | exact isMea.ob (by assumption) | exact hset_s | exact (hset_n (by first | assumption | omega)).trans (by first | assumption | exact isLT.ob (by assumption) | exact isRow.ob (by assumption) | exact isHnd.ob (by assumption) | exact isUnt.ob (by assumption) | exact isSt.ob (by assumption) | exact isHist.ob (by assumption) | exact isTxt.ob (by assumption) | exact isLac.ob (by assumption) | exact isMea.ob (by assumption))))) (by rfl) ?_
      refine J_icmp_ge (tgt := 73) dX9_bestMove_32 (by decide) (fun c32 => ?_) (fun c32 => ?_)
      · rw [nI_leI (by omega) (by omega)] at c32
        refine J_iincN dX9_bestMove_73 (by rfl) (by decide) (by rfl) ?_
        refine J_goto (tgt := 14) dX9_bestMove_76 (by decide) ?_
        exact J_sub (by repeat (first | exact subl_nil | refine subl_cons rfl ?_)) (hn hb.symm _ _ u1 k1)
      · rw [nI_leI (by omega) (by omega)] at c32
        exact absurd (by omega) c32
    | succ j ih =>
      intro k m h1 n1 hj hm u1 k1 hb hs hn
      have s1 := u1.2.1
      have r1 := s1.2
      have hp1 := plc_le (mk σ.1.1 m k) 0
      have hp2 := mk_le σ.1.1 m k
      rw [bsA] at hb
      refine J_iload_n dX9_bestMove_21 (by rfl) ?_
      refine J_aload_n dX9_bestMove_22 (by rfl) ?_
      refine J_get fg_X9_10 dX9_bestMove_23 (by first | assumption | exact isLT.ob (by assumption) | exact isRow.ob (by assumption) | exact isHnd.ob (by assumption) | exact isUnt.ob (by assumption) | exact isSt.ob (by assumption) | exact isHist.ob (by assumption) | exact isTxt.ob (by assumption) | exact isLac.ob (by assumption) | exact isMea.ob (by assumption) | exact hset_s | exact (hset_n (by first | assumption | omega)).trans (by first | assumption | exact isLT.ob (by assumption) | exact isRow.ob (by assumption) | exact isHnd.ob (by assumption) | exact isUnt.ob (by assumption) | exact isSt.ob (by assumption) | exact isHist.ob (by assumption) | exact isTxt.ob (by assumption) | exact isLac.ob (by assumption) | exact isMea.ob (by assumption) | exact hset_s | exact (hset_n (by first | assumption | omega)).trans (by first | assumption | exact isLT.ob (by assumption) | exact isRow.ob (by assumption) | exact isHnd.ob (by assumption) | exact isUnt.ob (by assumption) | exact isSt.ob (by assumption) | exact isHist.ob (by assumption) | exact isTxt.ob (by assumption) | exact isLac.ob (by assumption) | exact isMea.ob (by assumption) | exact hset_s | exact (hset_n (by first | assumption | omega)).trans (by first | assumption | exact isLT.ob (by assumption) | exact isRow.ob (by assumption) | exact isHnd.ob (by assumption) | exact isUnt.ob (by assumption) | exact isSt.ob (by assumption) | exact isHist.ob (by assumption) | exact isTxt.ob (by assumption) | exact isLac.ob (by assumption) | exact isMea.ob (by assumption))))) (by rfl) ?_
      refine J_get fg_X9_85 dX9_bestMove_26 (by first | assumption | exact isLT.ob (by assumption) | exact isRow.ob (by assumption) | exact isHnd.ob (by assumption) | exact isUnt.ob (by assumption) | exact isSt.ob (by assumption) | exact isHist.ob (by assumption) | exact isTxt.ob (by assumption) | exact isLac.ob (by assumption) | exact isMea.ob (by assumption) | exact hset_s | exact (hset_n (by first | assumption | omega)).trans (by first | assumption | exact isLT.ob (by assumption) | exact isRow.ob (by assumption) | exact isHnd.ob (by assumption) | exact isUnt.ob (by assumption) | exact isSt.ob (by assumption) | exact isHist.ob (by assumption) | exact isTxt.ob (by assumption) | exact isLac.ob (by assumption) | exact isMea.ob (by assumption) | exact hset_s | exact (hset_n (by first | assumption | omega)).trans (by first | assumption | exact isLT.ob (by assumption) | exact isRow.ob (by assumption) | exact isHnd.ob (by assumption) | exact isUnt.ob (by assumption) | exact isSt.ob (by assumption) | exact isHist.ob (by assumption) | exact isTxt.ob (by assumption) | exact isLac.ob (by assumption) | exact isMea.ob (by assumption) | exact hset_s | exact (hset_n (by first | assumption | omega)).trans (by first | assumption | exact isLT.ob (by assumption) | exact isRow.ob (by assumption) | exact isHnd.ob (by assumption) | exact isUnt.ob (by assumption) | exact isSt.ob (by assumption) | exact isHist.ob (by assumption) | exact isTxt.ob (by assumption) | exact isLac.ob (by assumption) | exact isMea.ob (by assumption))))) (by rfl) ?_
      refine J_get fg_X9_88 dX9_bestMove_29 (by first | assumption | exact isLT.ob (by assumption) | exact isRow.ob (by assumption) | exact isHnd.ob (by assumption) | exact isUnt.ob (by assumption) | exact isSt.ob (by assumption) | exact isHist.ob (by assumption) | exact isTxt.ob (by assumption) | exact isLac.ob (by assumption) | exact isMea.ob (by assumption) | exact hset_s | exact (hset_n (by first | assumption | omega)).trans (by first | assumption | exact isLT.ob (by assumption) | exact isRow.ob (by assumption) | exact isHnd.ob (by assumption) | exact isUnt.ob (by assumption) | exact isSt.ob (by assumption) | exact isHist.ob (by assumption) | exact isTxt.ob (by assumption) | exact isLac.ob (by assumption) | exact isMea.ob (by assumption) | exact hset_s | exact (hset_n (by first | assumption | omega)).trans (by first | assumption | exact isLT.ob (by assumption) | exact isRow.ob (by assumption) | exact isHnd.ob (by assumption) | exact isUnt.ob (by assumption) | exact isSt.ob (by assumption) | exact isHist.ob (by assumption) | exact isTxt.ob (by assumption) | exact isLac.ob (by assumption) | exact isMea.ob (by assumption) | exact hset_s | exact (hset_n (by first | assumption | omega)).trans (by first | assumption | exact isLT.ob (by assumption) | exact isRow.ob (by assumption) | exact isHnd.ob (by assumption) | exact isUnt.ob (by assumption) | exact isSt.ob (by assumption) | exact isHist.ob (by assumption) | exact isTxt.ob (by assumption) | exact isLac.ob (by assumption) | exact isMea.ob (by assumption))))) (by rfl) ?_
      refine J_icmp_ge (tgt := 73) dX9_bestMove_32 (by decide) (fun c32 => ?_) (fun c32 => ?_)
      · rw [nI_leI (by omega) (by omega)] at c32
        exact absurd c32 (by omega)
      · rw [nI_leI (by omega) (by omega)] at c32
        refine J_aload_n dX9_bestMove_35 (by rfl) ?_
        refine J_get fg_X9_10 dX9_bestMove_36 (by first | assumption | exact isLT.ob (by assumption) | exact isRow.ob (by assumption) | exact isHnd.ob (by assumption) | exact isUnt.ob (by assumption) | exact isSt.ob (by assumption) | exact isHist.ob (by assumption) | exact isTxt.ob (by assumption) | exact isLac.ob (by assumption) | exact isMea.ob (by assumption) | exact hset_s | exact (hset_n (by first | assumption | omega)).trans (by first | assumption | exact isLT.ob (by assumption) | exact isRow.ob (by assumption) | exact isHnd.ob (by assumption) | exact isUnt.ob (by assumption) | exact isSt.ob (by assumption) | exact isHist.ob (by assumption) | exact isTxt.ob (by assumption) | exact isLac.ob (by assumption) | exact isMea.ob (by assumption) | exact hset_s | exact (hset_n (by first | assumption | omega)).trans (by first | assumption | exact isLT.ob (by assumption) | exact isRow.ob (by assumption) | exact isHnd.ob (by assumption) | exact isUnt.ob (by assumption) | exact isSt.ob (by assumption) | exact isHist.ob (by assumption) | exact isTxt.ob (by assumption) | exact isLac.ob (by assumption) | exact isMea.ob (by assumption) | exact hset_s | exact (hset_n (by first | assumption | omega)).trans (by first | assumption | exact isLT.ob (by assumption) | exact isRow.ob (by assumption) | exact isHnd.ob (by assumption) | exact isUnt.ob (by assumption) | exact isSt.ob (by assumption) | exact isHist.ob (by assumption) | exact isTxt.ob (by assumption) | exact isLac.ob (by assumption) | exact isMea.ob (by assumption))))) (by rfl) ?_
        refine J_get fg_X9_85 dX9_bestMove_39 (by first | assumption | exact isLT.ob (by assumption) | exact isRow.ob (by assumption) | exact isHnd.ob (by assumption) | exact isUnt.ob (by assumption) | exact isSt.ob (by assumption) | exact isHist.ob (by assumption) | exact isTxt.ob (by assumption) | exact isLac.ob (by assumption) | exact isMea.ob (by assumption) | exact hset_s | exact (hset_n (by first | assumption | omega)).trans (by first | assumption | exact isLT.ob (by assumption) | exact isRow.ob (by assumption) | exact isHnd.ob (by assumption) | exact isUnt.ob (by assumption) | exact isSt.ob (by assumption) | exact isHist.ob (by assumption) | exact isTxt.ob (by assumption) | exact isLac.ob (by assumption) | exact isMea.ob (by assumption) | exact hset_s | exact (hset_n (by first | assumption | omega)).trans (by first | assumption | exact isLT.ob (by assumption) | exact isRow.ob (by assumption) | exact isHnd.ob (by assumption) | exact isUnt.ob (by assumption) | exact isSt.ob (by assumption) | exact isHist.ob (by assumption) | exact isTxt.ob (by assumption) | exact isLac.ob (by assumption) | exact isMea.ob (by assumption) | exact hset_s | exact (hset_n (by first | assumption | omega)).trans (by first | assumption | exact isLT.ob (by assumption) | exact isRow.ob (by assumption) | exact isHnd.ob (by assumption) | exact isUnt.ob (by assumption) | exact isSt.ob (by assumption) | exact isHist.ob (by assumption) | exact isTxt.ob (by assumption) | exact isLac.ob (by assumption) | exact isMea.ob (by assumption))))) (by rfl) ?_
        refine J_iload_n dX9_bestMove_42 (by rfl) ?_
        refine J_iload_n dX9_bestMove_43 (by rfl) ?_
        refine J_callS mf_X4_reasonAgainst lk_X9_115 ms_X4_reasonAgainst (sp_X4_reasonAgainst r1 (m := m) (k := k) (by omega) (by omega) _) dX9_bestMove_44 (by decide) (by rfl) rfl (Nat.le_of_ble_eq_true rfl) (Nat.zero_add _) (Nat.zero_add _) (fun v44 h44 n44 q44 => ?_)
        obtain ⟨rfl, rfl⟩ := q44
        refine J_if_ne (tgt := 67) dX9_bestMove_47 (by decide) (fun c47 => ?_) (fun c47 => ?_)
        · refine J_iincN dX9_bestMove_67 (by rfl) (by decide) (by rfl) ?_
          refine J_goto (tgt := 21) dX9_bestMove_70 (by decide) ?_
          first | exact J_sub (by repeat (first | exact subl_nil | refine subl_cons rfl ?_)) (ih (k + 1) m _ _ (by omega) hm u1 k1 (by rw [if_neg (fun q => c47 q.1)] at hb; exact hb) hs hn) | exact J_sub (by repeat (first | exact subl_nil | refine subl_cons rfl ?_)) (ih (k + 1) m _ _ (by omega) hm u53 (fr_tr k1 k53) (by rw [if_neg (fun q => by omega)] at hb; exact hb) hs hn)
        · refine J_aload_n dX9_bestMove_50 (by rfl) ?_
          refine J_iload_n dX9_bestMove_51 (by rfl) ?_
          refine J_iload_n dX9_bestMove_52 (by rfl) ?_
          refine J_callV mf_X9_pairsBehind lk_X9_281 mi_X9_pairsBehind mv_X9_pairsBehind (sp_X9_pairsBehind u1 (m := m) (k := k) (by omega) c47 _) dX9_bestMove_53 (by first | assumption | exact isLT.ob (by assumption) | exact isRow.ob (by assumption) | exact isHnd.ob (by assumption) | exact isUnt.ob (by assumption) | exact isSt.ob (by assumption) | exact isHist.ob (by assumption) | exact isTxt.ob (by assumption) | exact isLac.ob (by assumption) | exact isMea.ob (by assumption) | exact hset_s | exact (hset_n (by first | assumption | omega)).trans (by first | assumption | exact isLT.ob (by assumption) | exact isRow.ob (by assumption) | exact isHnd.ob (by assumption) | exact isUnt.ob (by assumption) | exact isSt.ob (by assumption) | exact isHist.ob (by assumption) | exact isTxt.ob (by assumption) | exact isLac.ob (by assumption) | exact isMea.ob (by assumption) | exact hset_s | exact (hset_n (by first | assumption | omega)).trans (by first | assumption | exact isLT.ob (by assumption) | exact isRow.ob (by assumption) | exact isHnd.ob (by assumption) | exact isUnt.ob (by assumption) | exact isSt.ob (by assumption) | exact isHist.ob (by assumption) | exact isTxt.ob (by assumption) | exact isLac.ob (by assumption) | exact isMea.ob (by assumption) | exact hset_s | exact (hset_n (by first | assumption | omega)).trans (by first | assumption | exact isLT.ob (by assumption) | exact isRow.ob (by assumption) | exact isHnd.ob (by assumption) | exact isUnt.ob (by assumption) | exact isSt.ob (by assumption) | exact isHist.ob (by assumption) | exact isTxt.ob (by assumption) | exact isLac.ob (by assumption) | exact isMea.ob (by assumption))))) rfl rfl (by decide) (by rfl) rfl (Nat.le_of_ble_eq_true rfl) (Nat.zero_add _) (Nat.zero_add _) (fun v53 h53 n53 q53 => ?_)
          obtain ⟨rfl, u53, k53⟩ := q53
          refine J_iload_n dX9_bestMove_56 (by rfl) ?_
          refine J_icmp_le (tgt := 67) dX9_bestMove_57 (by decide) (fun c57 => ?_) (fun c57 => ?_)
          · rw [nI_leI (by omega) (by omega)] at c57
            refine J_iincN dX9_bestMove_67 (by rfl) (by decide) (by rfl) ?_
            refine J_goto (tgt := 21) dX9_bestMove_70 (by decide) ?_
            first | exact J_sub (by repeat (first | exact subl_nil | refine subl_cons rfl ?_)) (ih (k + 1) m _ _ (by omega) hm u1 k1 (by rw [if_neg (fun q => c47 q.1)] at hb; exact hb) hs hn) | exact J_sub (by repeat (first | exact subl_nil | refine subl_cons rfl ?_)) (ih (k + 1) m _ _ (by omega) hm u53 (fr_tr k1 k53) (by rw [if_neg (fun q => by omega)] at hb; exact hb) hs hn)
          · rw [nI_leI (by omega) (by omega)] at c57
            refine J_bipush (v := nI 31) dX9_bestMove_60 (by decide) ?_
            refine J_iload_n dX9_bestMove_62 (by rfl) ?_
            refine J_imul dX9_bestMove_63 ?_
            rw [pk_mul]
            refine J_iload_n dX9_bestMove_64 (by rfl) ?_
            refine J_iadd dX9_bestMove_65 ?_
            rw [nI_add]
            exact J_ireturn dX9_bestMove_66 rfl (by rfl) (⟨by rw [hs k (by rw [if_pos ⟨c47, by omega⟩] at hb; exact hb.symm)], u53, fr_tr k1 k53⟩)
  have three : bsA σ.1.1 (plc σ.1.1 0) 1 σ.1.1.length 0 = none → bsA σ.1.1 (plc σ.1.1 0) 2 σ.1.1.length 0 = none → ∀ (h1 : HP) (n1 : Nat), isLT G h1 x σ → fr x (x + 64) h h1 → J (g0 G) mm_X9_bestMove 5 14 [(0, .ref x), (1, .int (nI (plc σ.1.1 0))), (2, .int (nI 3))] [] h1 n1 0 0 (RT mm_X9_bestMove (qLk G x h σ (best σ.1.1))) := by
    intro e1 e2 h1 n1 u1 k1
    refine J_iload_n dX9_bestMove_14 (by rfl) ?_
    refine J_iconst (v := nI 2) dX9_bestMove_15 (by decide) ?_
    refine J_icmp_gt (tgt := 79) dX9_bestMove_16 (by decide) (fun c16 => ?_) (fun c16 => ?_)
    · rw [nI_ltI (by omega) (by omega)] at c16
      refine J_iconst (v := (-1)) dX9_bestMove_79 (by decide) ?_
      exact J_ireturn dX9_bestMove_80 rfl (by rfl) (⟨by unfold best; rw [e1, e2], u1, k1⟩)
    · rw [nI_ltI (by omega) (by omega)] at c16
      exact absurd (by omega) c16
  have two : bsA σ.1.1 (plc σ.1.1 0) 1 σ.1.1.length 0 = none → ∀ (h1 : HP) (n1 : Nat), isLT G h1 x σ → fr x (x + 64) h h1 → J (g0 G) mm_X9_bestMove 5 14 [(0, .ref x), (1, .int (nI (plc σ.1.1 0))), (2, .int (nI 2))] [] h1 n1 0 0 (RT mm_X9_bestMove (qLk G x h σ (best σ.1.1))) := by
    intro e1 h1 n1 u1 k1
    refine J_iload_n dX9_bestMove_14 (by rfl) ?_
    refine J_iconst (v := nI 2) dX9_bestMove_15 (by decide) ?_
    refine J_icmp_gt (tgt := 79) dX9_bestMove_16 (by decide) (fun c16 => ?_) (fun c16 => ?_)
    · rw [nI_ltI (by omega) (by omega)] at c16
      exact absurd c16 (by omega)
    · rw [nI_ltI (by omega) (by omega)] at c16
      refine J_iconst (v := nI 0) dX9_bestMove_19 (by decide) ?_
      refine J_istore_n dX9_bestMove_20 (by decide) (by rfl) ?_
      exact J_sub (by repeat (first | exact subl_nil | refine subl_cons rfl ?_)) (inner _ 0 2 _ _ (Nat.zero_add _) (Or.inr rfl) u1 k1 rfl (fun k e => by unfold best; rw [e1, e]) (three e1))
  have one : ∀ (h1 : HP) (n1 : Nat), isLT G h1 x σ → fr x (x + 64) h h1 → J (g0 G) mm_X9_bestMove 5 14 [(0, .ref x), (1, .int (nI (plc σ.1.1 0))), (2, .int (nI 1))] [] h1 n1 0 0 (RT mm_X9_bestMove (qLk G x h σ (best σ.1.1))) := by
    intro h1 n1 u1 k1
    refine J_iload_n dX9_bestMove_14 (by rfl) ?_
    refine J_iconst (v := nI 2) dX9_bestMove_15 (by decide) ?_
    refine J_icmp_gt (tgt := 79) dX9_bestMove_16 (by decide) (fun c16 => ?_) (fun c16 => ?_)
    · rw [nI_ltI (by omega) (by omega)] at c16
      exact absurd c16 (by omega)
    · rw [nI_ltI (by omega) (by omega)] at c16
      refine J_iconst (v := nI 0) dX9_bestMove_19 (by decide) ?_
      refine J_istore_n dX9_bestMove_20 (by decide) (by rfl) ?_
      exact J_sub (by repeat (first | exact subl_nil | refine subl_cons rfl ?_)) (inner _ 0 1 _ _ (Nat.zero_add _) (Or.inl rfl) u1 k1 rfl (fun k e => by unfold best; rw [e]) two)
  refine J_aload_n dX9_bestMove_0 (by rfl) ?_
  refine J_get fg_X9_10 dX9_bestMove_1 (by first | assumption | exact isLT.ob (by assumption) | exact isRow.ob (by assumption) | exact isHnd.ob (by assumption) | exact isUnt.ob (by assumption) | exact isSt.ob (by assumption) | exact isHist.ob (by assumption) | exact isTxt.ob (by assumption) | exact isLac.ob (by assumption) | exact isMea.ob (by assumption) | exact hset_s | exact (hset_n (by first | assumption | omega)).trans (by first | assumption | exact isLT.ob (by assumption) | exact isRow.ob (by assumption) | exact isHnd.ob (by assumption) | exact isUnt.ob (by assumption) | exact isSt.ob (by assumption) | exact isHist.ob (by assumption) | exact isTxt.ob (by assumption) | exact isLac.ob (by assumption) | exact isMea.ob (by assumption) | exact hset_s | exact (hset_n (by first | assumption | omega)).trans (by first | assumption | exact isLT.ob (by assumption) | exact isRow.ob (by assumption) | exact isHnd.ob (by assumption) | exact isUnt.ob (by assumption) | exact isSt.ob (by assumption) | exact isHist.ob (by assumption) | exact isTxt.ob (by assumption) | exact isLac.ob (by assumption) | exact isMea.ob (by assumption) | exact hset_s | exact (hset_n (by first | assumption | omega)).trans (by first | assumption | exact isLT.ob (by assumption) | exact isRow.ob (by assumption) | exact isHnd.ob (by assumption) | exact isUnt.ob (by assumption) | exact isSt.ob (by assumption) | exact isHist.ob (by assumption) | exact isTxt.ob (by assumption) | exact isLac.ob (by assumption) | exact isMea.ob (by assumption))))) (by rfl) ?_
  refine J_get fg_X9_85 dX9_bestMove_4 (by first | assumption | exact isLT.ob (by assumption) | exact isRow.ob (by assumption) | exact isHnd.ob (by assumption) | exact isUnt.ob (by assumption) | exact isSt.ob (by assumption) | exact isHist.ob (by assumption) | exact isTxt.ob (by assumption) | exact isLac.ob (by assumption) | exact isMea.ob (by assumption) | exact hset_s | exact (hset_n (by first | assumption | omega)).trans (by first | assumption | exact isLT.ob (by assumption) | exact isRow.ob (by assumption) | exact isHnd.ob (by assumption) | exact isUnt.ob (by assumption) | exact isSt.ob (by assumption) | exact isHist.ob (by assumption) | exact isTxt.ob (by assumption) | exact isLac.ob (by assumption) | exact isMea.ob (by assumption) | exact hset_s | exact (hset_n (by first | assumption | omega)).trans (by first | assumption | exact isLT.ob (by assumption) | exact isRow.ob (by assumption) | exact isHnd.ob (by assumption) | exact isUnt.ob (by assumption) | exact isSt.ob (by assumption) | exact isHist.ob (by assumption) | exact isTxt.ob (by assumption) | exact isLac.ob (by assumption) | exact isMea.ob (by assumption) | exact hset_s | exact (hset_n (by first | assumption | omega)).trans (by first | assumption | exact isLT.ob (by assumption) | exact isRow.ob (by assumption) | exact isHnd.ob (by assumption) | exact isUnt.ob (by assumption) | exact isSt.ob (by assumption) | exact isHist.ob (by assumption) | exact isTxt.ob (by assumption) | exact isLac.ob (by assumption) | exact isMea.ob (by assumption))))) (by rfl) ?_
  refine J_iconst (v := nI 0) dX9_bestMove_7 (by decide) ?_
  refine J_callS mf_X4_placesFor lk_X9_278 ms_X4_placesFor (sp_X4_placesFor r0 (m := 0) (by omega) _) dX9_bestMove_8 (by decide) (by rfl) rfl (Nat.le_of_ble_eq_true rfl) (Nat.zero_add _) (Nat.zero_add _) (fun v8 h8 n8 q8 => ?_)
  obtain ⟨rfl, rfl⟩ := q8
  refine J_istore_n dX9_bestMove_11 (by decide) (by rfl) ?_
  refine J_iconst (v := nI 1) dX9_bestMove_12 (by decide) ?_
  refine J_istore_n dX9_bestMove_13 (by decide) (by rfl) ?_
  exact J_sub (by repeat (first | exact subl_nil | refine subl_cons rfl ?_)) (one _ _ w fr_rf)
/-- the slack of a crossings out of b -/
def slq (a b : Nat) : UInt64 := FP.ddiv (FP.i2d (nI a)) (FP.i2d (nI b))
def slk (xs : List Int32) : UInt64 := if xs.length = 0 then 0 else slq (xs.length - (red xs).length) xs.length
def bosL : Nat → UInt64 → Int64 → UInt64 × Int64
  | 0, m, e => (m, e)
  | j + 1, m, e => if 0 ≤ Op.cmpValue (FP.dcmp m 4607182418800017408) .g then (m, e) else bosL j (FP.dmul m 4611686018427387904) (e - 1)
def n64b (r : UInt64) : Bool := decide (r &&& 0x7fffffffffffffff ≤ 0x7ff0000000000000)
theorem n64_of {r : UInt64} (h : n64b r = true) : vf_n64 r := by
  unfold vf_n64
  exact of_decide_eq_true h
def bosK : Nat → UInt64 → Bool
  | 0, _ => true
  | j + 1, m => if 0 ≤ Op.cmpValue (FP.dcmp m 4607182418800017408) .g then true else n64b (FP.dmul m 4611686018427387904) && bosK j (FP.dmul m 4611686018427387904)
def bosE (r : UInt64 × Int64) : Int64 := (r.2 <<< ((52 : Int32).toInt64 &&& 63)) + FP.d2l (FP.dmul (FP.dsub r.1 4607182418800017408) 4841369599423283200)
def bosC (s : UInt64) : Bool := if 0 < Op.cmpValue (FP.dcmp s 0) .g then bosK 64 s && n64b (FP.dsub (bosL 64 s 1023).1 4607182418800017408) && n64b (FP.dmul (FP.dsub (bosL 64 s 1023).1 4607182418800017408) 4841369599423283200) && decide (bosE (bosL 64 s 1023) = s.toInt64) else decide (s.toInt64 = 0)
set_option maxRecDepth 20000 in
theorem slq_all : ∀ b, b < 31 → 0 < b → ∀ a, a < b + 1 → n64b (slq a b) = true ∧ bosC (slq a b) = true := by decide +kernel
theorem slk_ok {xs : List Int32} (h : xs.length ≤ 30) : n64b (slk xs) = true ∧ bosC (slk xs) = true := by
  unfold slk
  split
  · decide +kernel
  · exact slq_all _ (by omega) (by omega) _ (by omega)
set_option maxRecDepth 20000 in
theorem sp_X9_slack {G : GG} {h : HP} {x : Nat} {σ : Sg} (w : isLT G h x σ) (n : Nat) : Sp G mm_X9_slack 3 0 0 [.ref x] h n (fun v h' _ => v = some (.double (slk σ.1.1)) ∧ isLT G h' x σ ∧ fr x (x + 64) h h') := by
  refine Sp_of (by decide +kernel) (Nat.le_of_ble_eq_true rfl) ?_
  obtain ⟨w0, w1, ⟨kx, km, w2, w2b⟩, ⟨nx, w3⟩, w4, ⟨lx, lq, w5⟩, w6, ⟨hb0, he0, w7⟩, ⟨uV, uS, uy, uu, um, uok, ub, ue, w8⟩, tx, w9⟩ := id w
  have r0 := w1.2
  have hle := r0.le
  have hs := n64_of (slk_ok (xs := σ.1.1) hle.1).1
  refine J_aload_n dX9_slack_0 (by rfl) ?_
  refine J_get fg_X9_10 dX9_slack_1 (by first | assumption | exact isLT.ob (by assumption) | exact isRow.ob (by assumption) | exact isHnd.ob (by assumption) | exact isUnt.ob (by assumption) | exact isSt.ob (by assumption) | exact isHist.ob (by assumption) | exact isTxt.ob (by assumption) | exact isLac.ob (by assumption) | exact isMea.ob (by assumption) | exact hset_s | exact (hset_n (by first | assumption | omega)).trans (by first | assumption | exact isLT.ob (by assumption) | exact isRow.ob (by assumption) | exact isHnd.ob (by assumption) | exact isUnt.ob (by assumption) | exact isSt.ob (by assumption) | exact isHist.ob (by assumption) | exact isTxt.ob (by assumption) | exact isLac.ob (by assumption) | exact isMea.ob (by assumption) | exact hset_s | exact (hset_n (by first | assumption | omega)).trans (by first | assumption | exact isLT.ob (by assumption) | exact isRow.ob (by assumption) | exact isHnd.ob (by assumption) | exact isUnt.ob (by assumption) | exact isSt.ob (by assumption) | exact isHist.ob (by assumption) | exact isTxt.ob (by assumption) | exact isLac.ob (by assumption) | exact isMea.ob (by assumption) | exact hset_s | exact (hset_n (by first | assumption | omega)).trans (by first | assumption | exact isLT.ob (by assumption) | exact isRow.ob (by assumption) | exact isHnd.ob (by assumption) | exact isUnt.ob (by assumption) | exact isSt.ob (by assumption) | exact isHist.ob (by assumption) | exact isTxt.ob (by assumption) | exact isLac.ob (by assumption) | exact isMea.ob (by assumption))))) (by rfl) ?_
  refine J_get fg_X9_85 dX9_slack_4 (by first | assumption | exact isLT.ob (by assumption) | exact isRow.ob (by assumption) | exact isHnd.ob (by assumption) | exact isUnt.ob (by assumption) | exact isSt.ob (by assumption) | exact isHist.ob (by assumption) | exact isTxt.ob (by assumption) | exact isLac.ob (by assumption) | exact isMea.ob (by assumption) | exact hset_s | exact (hset_n (by first | assumption | omega)).trans (by first | assumption | exact isLT.ob (by assumption) | exact isRow.ob (by assumption) | exact isHnd.ob (by assumption) | exact isUnt.ob (by assumption) | exact isSt.ob (by assumption) | exact isHist.ob (by assumption) | exact isTxt.ob (by assumption) | exact isLac.ob (by assumption) | exact isMea.ob (by assumption) | exact hset_s | exact (hset_n (by first | assumption | omega)).trans (by first | assumption | exact isLT.ob (by assumption) | exact isRow.ob (by assumption) | exact isHnd.ob (by assumption) | exact isUnt.ob (by assumption) | exact isSt.ob (by assumption) | exact isHist.ob (by assumption) | exact isTxt.ob (by assumption) | exact isLac.ob (by assumption) | exact isMea.ob (by assumption) | exact hset_s | exact (hset_n (by first | assumption | omega)).trans (by first | assumption | exact isLT.ob (by assumption) | exact isRow.ob (by assumption) | exact isHnd.ob (by assumption) | exact isUnt.ob (by assumption) | exact isSt.ob (by assumption) | exact isHist.ob (by assumption) | exact isTxt.ob (by assumption) | exact isLac.ob (by assumption) | exact isMea.ob (by assumption))))) (by rfl) ?_
  refine J_get fg_X9_88 dX9_slack_7 (by first | assumption | exact isLT.ob (by assumption) | exact isRow.ob (by assumption) | exact isHnd.ob (by assumption) | exact isUnt.ob (by assumption) | exact isSt.ob (by assumption) | exact isHist.ob (by assumption) | exact isTxt.ob (by assumption) | exact isLac.ob (by assumption) | exact isMea.ob (by assumption) | exact hset_s | exact (hset_n (by first | assumption | omega)).trans (by first | assumption | exact isLT.ob (by assumption) | exact isRow.ob (by assumption) | exact isHnd.ob (by assumption) | exact isUnt.ob (by assumption) | exact isSt.ob (by assumption) | exact isHist.ob (by assumption) | exact isTxt.ob (by assumption) | exact isLac.ob (by assumption) | exact isMea.ob (by assumption) | exact hset_s | exact (hset_n (by first | assumption | omega)).trans (by first | assumption | exact isLT.ob (by assumption) | exact isRow.ob (by assumption) | exact isHnd.ob (by assumption) | exact isUnt.ob (by assumption) | exact isSt.ob (by assumption) | exact isHist.ob (by assumption) | exact isTxt.ob (by assumption) | exact isLac.ob (by assumption) | exact isMea.ob (by assumption) | exact hset_s | exact (hset_n (by first | assumption | omega)).trans (by first | assumption | exact isLT.ob (by assumption) | exact isRow.ob (by assumption) | exact isHnd.ob (by assumption) | exact isUnt.ob (by assumption) | exact isSt.ob (by assumption) | exact isHist.ob (by assumption) | exact isTxt.ob (by assumption) | exact isLac.ob (by assumption) | exact isMea.ob (by assumption))))) (by rfl) ?_
  refine J_istore_n dX9_slack_10 (by decide) (by rfl) ?_
  refine J_iload_n dX9_slack_11 (by rfl) ?_
  refine J_if_ne (tgt := 17) dX9_slack_12 (by decide) (fun c12 => ?_) (fun c12 => ?_)
  · rw [nI_z (by omega) (by omega)] at c12
    have e12 : slk σ.1.1 = slq (σ.1.1.length - (red σ.1.1).length) σ.1.1.length := if_neg c12
    rw [e12] at hs
    refine J_aload_n dX9_slack_17 (by rfl) ?_
    refine J_get fg_X9_70 dX9_slack_18 (by first | assumption | exact isLT.ob (by assumption) | exact isRow.ob (by assumption) | exact isHnd.ob (by assumption) | exact isUnt.ob (by assumption) | exact isSt.ob (by assumption) | exact isHist.ob (by assumption) | exact isTxt.ob (by assumption) | exact isLac.ob (by assumption) | exact isMea.ob (by assumption) | exact hset_s | exact (hset_n (by first | assumption | omega)).trans (by first | assumption | exact isLT.ob (by assumption) | exact isRow.ob (by assumption) | exact isHnd.ob (by assumption) | exact isUnt.ob (by assumption) | exact isSt.ob (by assumption) | exact isHist.ob (by assumption) | exact isTxt.ob (by assumption) | exact isLac.ob (by assumption) | exact isMea.ob (by assumption) | exact hset_s | exact (hset_n (by first | assumption | omega)).trans (by first | assumption | exact isLT.ob (by assumption) | exact isRow.ob (by assumption) | exact isHnd.ob (by assumption) | exact isUnt.ob (by assumption) | exact isSt.ob (by assumption) | exact isHist.ob (by assumption) | exact isTxt.ob (by assumption) | exact isLac.ob (by assumption) | exact isMea.ob (by assumption) | exact hset_s | exact (hset_n (by first | assumption | omega)).trans (by first | assumption | exact isLT.ob (by assumption) | exact isRow.ob (by assumption) | exact isHnd.ob (by assumption) | exact isUnt.ob (by assumption) | exact isSt.ob (by assumption) | exact isHist.ob (by assumption) | exact isTxt.ob (by assumption) | exact isLac.ob (by assumption) | exact isMea.ob (by assumption))))) (by rfl) ?_
    refine J_aload_n dX9_slack_21 (by rfl) ?_
    refine J_get fg_X9_10 dX9_slack_22 (by first | assumption | exact isLT.ob (by assumption) | exact isRow.ob (by assumption) | exact isHnd.ob (by assumption) | exact isUnt.ob (by assumption) | exact isSt.ob (by assumption) | exact isHist.ob (by assumption) | exact isTxt.ob (by assumption) | exact isLac.ob (by assumption) | exact isMea.ob (by assumption) | exact hset_s | exact (hset_n (by first | assumption | omega)).trans (by first | assumption | exact isLT.ob (by assumption) | exact isRow.ob (by assumption) | exact isHnd.ob (by assumption) | exact isUnt.ob (by assumption) | exact isSt.ob (by assumption) | exact isHist.ob (by assumption) | exact isTxt.ob (by assumption) | exact isLac.ob (by assumption) | exact isMea.ob (by assumption) | exact hset_s | exact (hset_n (by first | assumption | omega)).trans (by first | assumption | exact isLT.ob (by assumption) | exact isRow.ob (by assumption) | exact isHnd.ob (by assumption) | exact isUnt.ob (by assumption) | exact isSt.ob (by assumption) | exact isHist.ob (by assumption) | exact isTxt.ob (by assumption) | exact isLac.ob (by assumption) | exact isMea.ob (by assumption) | exact hset_s | exact (hset_n (by first | assumption | omega)).trans (by first | assumption | exact isLT.ob (by assumption) | exact isRow.ob (by assumption) | exact isHnd.ob (by assumption) | exact isUnt.ob (by assumption) | exact isSt.ob (by assumption) | exact isHist.ob (by assumption) | exact isTxt.ob (by assumption) | exact isLac.ob (by assumption) | exact isMea.ob (by assumption))))) (by rfl) ?_
    refine J_get fg_X9_85 dX9_slack_25 (by first | assumption | exact isLT.ob (by assumption) | exact isRow.ob (by assumption) | exact isHnd.ob (by assumption) | exact isUnt.ob (by assumption) | exact isSt.ob (by assumption) | exact isHist.ob (by assumption) | exact isTxt.ob (by assumption) | exact isLac.ob (by assumption) | exact isMea.ob (by assumption) | exact hset_s | exact (hset_n (by first | assumption | omega)).trans (by first | assumption | exact isLT.ob (by assumption) | exact isRow.ob (by assumption) | exact isHnd.ob (by assumption) | exact isUnt.ob (by assumption) | exact isSt.ob (by assumption) | exact isHist.ob (by assumption) | exact isTxt.ob (by assumption) | exact isLac.ob (by assumption) | exact isMea.ob (by assumption) | exact hset_s | exact (hset_n (by first | assumption | omega)).trans (by first | assumption | exact isLT.ob (by assumption) | exact isRow.ob (by assumption) | exact isHnd.ob (by assumption) | exact isUnt.ob (by assumption) | exact isSt.ob (by assumption) | exact isHist.ob (by assumption) | exact isTxt.ob (by assumption) | exact isLac.ob (by assumption) | exact isMea.ob (by assumption) | exact hset_s | exact (hset_n (by first | assumption | omega)).trans (by first | assumption | exact isLT.ob (by assumption) | exact isRow.ob (by assumption) | exact isHnd.ob (by assumption) | exact isUnt.ob (by assumption) | exact isSt.ob (by assumption) | exact isHist.ob (by assumption) | exact isTxt.ob (by assumption) | exact isLac.ob (by assumption) | exact isMea.ob (by assumption))))) (by rfl) ?_
    refine J_callV mf_X5_become lk_X9_149 mi_X5_become mv_X5_become (sp_X5_become w9 r0 (by omega) (by omega) _) dX9_slack_28 (by first | assumption | exact isLT.ob (by assumption) | exact isRow.ob (by assumption) | exact isHnd.ob (by assumption) | exact isUnt.ob (by assumption) | exact isSt.ob (by assumption) | exact isHist.ob (by assumption) | exact isTxt.ob (by assumption) | exact isLac.ob (by assumption) | exact isMea.ob (by assumption) | exact hset_s | exact (hset_n (by first | assumption | omega)).trans (by first | assumption | exact isLT.ob (by assumption) | exact isRow.ob (by assumption) | exact isHnd.ob (by assumption) | exact isUnt.ob (by assumption) | exact isSt.ob (by assumption) | exact isHist.ob (by assumption) | exact isTxt.ob (by assumption) | exact isLac.ob (by assumption) | exact isMea.ob (by assumption) | exact hset_s | exact (hset_n (by first | assumption | omega)).trans (by first | assumption | exact isLT.ob (by assumption) | exact isRow.ob (by assumption) | exact isHnd.ob (by assumption) | exact isUnt.ob (by assumption) | exact isSt.ob (by assumption) | exact isHist.ob (by assumption) | exact isTxt.ob (by assumption) | exact isLac.ob (by assumption) | exact isMea.ob (by assumption) | exact hset_s | exact (hset_n (by first | assumption | omega)).trans (by first | assumption | exact isLT.ob (by assumption) | exact isRow.ob (by assumption) | exact isHnd.ob (by assumption) | exact isUnt.ob (by assumption) | exact isSt.ob (by assumption) | exact isHist.ob (by assumption) | exact isTxt.ob (by assumption) | exact isLac.ob (by assumption) | exact isMea.ob (by assumption))))) rfl rfl (by decide) (by rfl) rfl (Nat.le_of_ble_eq_true rfl) (Nat.zero_add _) (Nat.zero_add _) (fun v28 h28 n28 q28 => ?_)
    obtain ⟨rfl, a28, b28⟩ := q28
    have u28 := (isLT_trial w a28 b28).1
    have k28 := (isLT_trial w a28 b28).2
    refine J_aload_n dX9_slack_31 (by rfl) ?_
    refine J_get fg_X9_70 dX9_slack_32 (by first | assumption | exact isLT.ob (by assumption) | exact isRow.ob (by assumption) | exact isHnd.ob (by assumption) | exact isUnt.ob (by assumption) | exact isSt.ob (by assumption) | exact isHist.ob (by assumption) | exact isTxt.ob (by assumption) | exact isLac.ob (by assumption) | exact isMea.ob (by assumption) | exact hset_s | exact (hset_n (by first | assumption | omega)).trans (by first | assumption | exact isLT.ob (by assumption) | exact isRow.ob (by assumption) | exact isHnd.ob (by assumption) | exact isUnt.ob (by assumption) | exact isSt.ob (by assumption) | exact isHist.ob (by assumption) | exact isTxt.ob (by assumption) | exact isLac.ob (by assumption) | exact isMea.ob (by assumption) | exact hset_s | exact (hset_n (by first | assumption | omega)).trans (by first | assumption | exact isLT.ob (by assumption) | exact isRow.ob (by assumption) | exact isHnd.ob (by assumption) | exact isUnt.ob (by assumption) | exact isSt.ob (by assumption) | exact isHist.ob (by assumption) | exact isTxt.ob (by assumption) | exact isLac.ob (by assumption) | exact isMea.ob (by assumption) | exact hset_s | exact (hset_n (by first | assumption | omega)).trans (by first | assumption | exact isLT.ob (by assumption) | exact isRow.ob (by assumption) | exact isHnd.ob (by assumption) | exact isUnt.ob (by assumption) | exact isSt.ob (by assumption) | exact isHist.ob (by assumption) | exact isTxt.ob (by assumption) | exact isLac.ob (by assumption) | exact isMea.ob (by assumption))))) (by rfl) ?_
    refine J_callV mf_X5_cancelAll lk_X9_138 mi_X5_cancelAll mv_X5_cancelAll (sp_X5_cancelAll a28 _) dX9_slack_35 (by first | assumption | exact isLT.ob (by assumption) | exact isRow.ob (by assumption) | exact isHnd.ob (by assumption) | exact isUnt.ob (by assumption) | exact isSt.ob (by assumption) | exact isHist.ob (by assumption) | exact isTxt.ob (by assumption) | exact isLac.ob (by assumption) | exact isMea.ob (by assumption) | exact hset_s | exact (hset_n (by first | assumption | omega)).trans (by first | assumption | exact isLT.ob (by assumption) | exact isRow.ob (by assumption) | exact isHnd.ob (by assumption) | exact isUnt.ob (by assumption) | exact isSt.ob (by assumption) | exact isHist.ob (by assumption) | exact isTxt.ob (by assumption) | exact isLac.ob (by assumption) | exact isMea.ob (by assumption) | exact hset_s | exact (hset_n (by first | assumption | omega)).trans (by first | assumption | exact isLT.ob (by assumption) | exact isRow.ob (by assumption) | exact isHnd.ob (by assumption) | exact isUnt.ob (by assumption) | exact isSt.ob (by assumption) | exact isHist.ob (by assumption) | exact isTxt.ob (by assumption) | exact isLac.ob (by assumption) | exact isMea.ob (by assumption) | exact hset_s | exact (hset_n (by first | assumption | omega)).trans (by first | assumption | exact isLT.ob (by assumption) | exact isRow.ob (by assumption) | exact isHnd.ob (by assumption) | exact isUnt.ob (by assumption) | exact isSt.ob (by assumption) | exact isHist.ob (by assumption) | exact isTxt.ob (by assumption) | exact isLac.ob (by assumption) | exact isMea.ob (by assumption))))) rfl rfl (by decide) (by rfl) rfl (Nat.le_of_ble_eq_true rfl) (Nat.zero_add _) (Nat.zero_add _) (fun v35 h35 n35 q35 => ?_)
    obtain ⟨rfl, a35, b35⟩ := q35
    have u35 := (isLT_trial u28 a35 b35).1
    have k35 := fr_tr k28 (isLT_trial u28 a35 b35).2
    refine J_i2d dX9_slack_38 ?_
    refine J_iload_n dX9_slack_39 (by rfl) ?_
    refine J_i2d dX9_slack_40 ?_
    refine J_ddiv dX9_slack_41 hs ?_
    exact J_dreturn dX9_slack_42 rfl (⟨by rw [e12]; rfl, u35, k35⟩)
  · rw [nI_z (by omega) (by omega)] at c12
    refine J_dconst0 dX9_slack_15 ?_
    exact J_dreturn dX9_slack_16 rfl (⟨by unfold slk; rw [if_pos c12], w, fr_rf⟩)
set_option maxRecDepth 20000 in
theorem sp_X9_bitsOfShare {G : GG} (h : HP) {s : UInt64} (hs : bosC s = true) (n : Nat) : Sp G mm_X9_bitsOfShare 0 0 0 [.double s] h n (fun v h' _ => v = some (.long s.toInt64) ∧ h' = h) := by
  refine Sp_of (by decide +kernel) (Nat.le_of_ble_eq_true rfl) ?_
  by_cases e : 0 < Op.cmpValue (FP.dcmp s 0) .g
  · unfold bosC at hs
    rw [if_pos e] at hs
    simp only [Bool.and_eq_true, decide_eq_true_eq] at hs
    obtain ⟨⟨⟨hs1, hs2⟩, hs3⟩, hs4⟩ := hs
    have fin : ∀ (m : UInt64) (e1 : Int64) (i n1 : Nat), (m, e1) = bosL 64 s 1023 → J (g0 G) mm_X9_bitsOfShare 0 49 [(0, .double s), (2, .double m), (4, .long e1), (6, .int (nI i))] [] h n1 0 0 (RT mm_X9_bitsOfShare (fun v h' _ => v = some (.long s.toInt64) ∧ h' = h)) := by
      intro m e1 i n1 he
      rw [← he] at hs2 hs3 hs4
      have g2 := n64_of hs2
      have g3 := n64_of hs3
      refine J_lload dX9_bitsOfShare_49 (by rfl) ?_
      refine J_bipush (v := 52) dX9_bitsOfShare_51 (by decide) ?_
      refine J_lshl dX9_bitsOfShare_53 ?_
      refine J_dload_n dX9_bitsOfShare_54 (by rfl) ?_
      refine J_dconst1 dX9_bitsOfShare_55 ?_
      refine J_dsub dX9_bitsOfShare_56 (by assumption) ?_
      refine J_ldc2d dX9_bitsOfShare_57 kc_X9_320 ?_
      refine J_dmul dX9_bitsOfShare_60 (by assumption) ?_
      refine J_d2l dX9_bitsOfShare_61 ?_
      refine J_ladd dX9_bitsOfShare_62 ?_
      exact J_lreturn dX9_bitsOfShare_63 rfl (⟨congrArg (fun z => some (Value.long z)) hs4, rfl⟩)
    have loop : ∀ (j i : Nat) (m : UInt64) (e1 : Int64) (n1 : Nat), i + j = 64 → bosK j m = true → bosL j m e1 = bosL 64 s 1023 → J (g0 G) mm_X9_bitsOfShare 0 18 [(0, .double s), (2, .double m), (4, .long e1), (6, .int (nI i))] [] h n1 0 0 (RT mm_X9_bitsOfShare (fun v h' _ => v = some (.long s.toInt64) ∧ h' = h)) := by
      intro j
      induction j with
      | zero =>
        intro i m e1 n1 hj hk hb
        refine J_iload dX9_bitsOfShare_18 (by rfl) ?_
        refine J_bipush (v := nI 64) dX9_bitsOfShare_20 (by decide) ?_
        refine J_icmp_ge (tgt := 49) dX9_bitsOfShare_22 (by decide) (fun c22 => ?_) (fun c22 => ?_)
        · rw [nI_leI (by omega) (by omega)] at c22
          exact J_sub (by repeat (first | exact subl_nil | refine subl_cons rfl ?_)) (fin m e1 i _ hb)
        · rw [nI_leI (by omega) (by omega)] at c22
          exact absurd (by omega) c22
      | succ j ih =>
        intro i m e1 n1 hj hk hb
        rw [bosK] at hk
        rw [bosL] at hb
        refine J_iload dX9_bitsOfShare_18 (by rfl) ?_
        refine J_bipush (v := nI 64) dX9_bitsOfShare_20 (by decide) ?_
        refine J_icmp_ge (tgt := 49) dX9_bitsOfShare_22 (by decide) (fun c22 => ?_) (fun c22 => ?_)
        · rw [nI_leI (by omega) (by omega)] at c22
          exact absurd c22 (by omega)
        · rw [nI_leI (by omega) (by omega)] at c22
          refine J_dload_n dX9_bitsOfShare_25 (by rfl) ?_
          refine J_dconst1 dX9_bitsOfShare_26 ?_
          refine J_dcmp dX9_bitsOfShare_27 ?_
          refine J_if_ge (tgt := 49) dX9_bitsOfShare_28 (by decide) (fun c28 => ?_) (fun c28 => ?_)
          · rw [if_pos c28] at hb
            exact J_sub (by repeat (first | exact subl_nil | refine subl_cons rfl ?_)) (fin m e1 i _ hb)
          · rw [if_neg c28] at hk hb
            simp only [Bool.and_eq_true] at hk
            obtain ⟨hk1, hk2⟩ := hk
            have g1 := n64_of hk1
            refine J_dload_n dX9_bitsOfShare_31 (by rfl) ?_
            refine J_ldc2d dX9_bitsOfShare_32 kc_X9_318 ?_
            refine J_dmul dX9_bitsOfShare_35 (by assumption) ?_
            refine J_dstore_n dX9_bitsOfShare_36 (by decide) (by rfl) ?_
            refine J_lload dX9_bitsOfShare_37 (by rfl) ?_
            refine J_lconst (v := 1) dX9_bitsOfShare_39 (by decide) ?_
            refine J_lsub dX9_bitsOfShare_40 ?_
            refine J_lstore dX9_bitsOfShare_41 (by decide) (by rfl) ?_
            refine J_iincN dX9_bitsOfShare_43 (by rfl) (by decide) (by rfl) ?_
            refine J_goto (tgt := 18) dX9_bitsOfShare_46 (by decide) ?_
            exact J_sub (by repeat (first | exact subl_nil | refine subl_cons rfl ?_)) (ih (i + 1) _ _ _ (by omega) hk2 hb)
    refine J_dload_n dX9_bitsOfShare_0 (by rfl) ?_
    refine J_dconst0 dX9_bitsOfShare_1 ?_
    refine J_dcmp dX9_bitsOfShare_2 ?_
    refine J_if_gt (tgt := 8) dX9_bitsOfShare_3 (by decide) (fun c3 => ?_) (fun c3 => ?_)
    · refine J_dload_n dX9_bitsOfShare_8 (by rfl) ?_
      refine J_dstore_n dX9_bitsOfShare_9 (by decide) (by rfl) ?_
      refine J_ldc2 dX9_bitsOfShare_10 kc_X9_316 ?_
      refine J_lstore dX9_bitsOfShare_13 (by decide) (by rfl) ?_
      refine J_iconst (v := nI 0) dX9_bitsOfShare_15 (by decide) ?_
      refine J_istore dX9_bitsOfShare_16 (by decide) (by rfl) ?_
      exact J_sub (by repeat (first | exact subl_nil | refine subl_cons rfl ?_)) (loop 64 0 s 1023 _ (by omega) hs1 rfl)
    · exact absurd e c3
  · unfold bosC at hs
    rw [if_neg e] at hs
    have hs := of_decide_eq_true hs
    refine J_dload_n dX9_bitsOfShare_0 (by rfl) ?_
    refine J_dconst0 dX9_bitsOfShare_1 ?_
    refine J_dcmp dX9_bitsOfShare_2 ?_
    refine J_if_gt (tgt := 8) dX9_bitsOfShare_3 (by decide) (fun c3 => ?_) (fun c3 => ?_)
    · exact absurd c3 e
    · refine J_lconst (v := 0) dX9_bitsOfShare_6 (by decide) ?_
      exact J_lreturn dX9_bitsOfShare_7 rfl (⟨congrArg (fun z => some (Value.long z)) hs.symm, rfl⟩)
