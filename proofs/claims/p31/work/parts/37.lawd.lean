/-! the law's own: how many places, the best move -/
set_option maxRecDepth 20000 in
theorem sp_L_possibles {G : GG} {h : HP} {r : Nat} {xs : List Int32} (w : isRA G h r xs) (hx : allX xs) {m : Nat} (hm : m < 3) (n : Nat) : Sp G mm_L_possibles 2 0 0 [.int (nI m), .int (nI xs.length), .ref r] h n (fun v h' _ => v = some (.int (nI (plc xs m))) ∧ h' = h) := by
  refine Sp_of (by decide +kernel) (Nat.le_of_ble_eq_true rfl) ?_
  have hl := w.le
  have loop : ∀ (j k n1 : Nat), k + j = xs.length → J (g0 G) mm_L_possibles 2 5 [(0, .int (nI m)), (1, .int (nI xs.length)), (2, .ref r), (3, .int (nI (plcT xs m k))), (4, .int (nI k))] [] h n1 0 0 (RT mm_L_possibles (fun v h' _ => v = some (.int (nI (plc xs m))) ∧ h' = h)) := by
    intro j
    induction j with
    | zero =>
      intro k n1 hj
      obtain rfl : k = xs.length := by omega
      refine J_iload dL_possibles_5 (by rfl) ?_
      refine J_iload_n dL_possibles_7 (by rfl) ?_
      refine J_icmp_ge (tgt := 36) dL_possibles_8 (by decide) (fun c8 => ?_) (fun c8 => ?_)
      · rw [nI_leI (by omega) (by omega)] at c8
        refine J_iload_n dL_possibles_36 (by rfl) ?_
        exact J_ireturn dL_possibles_37 rfl (by rfl) (⟨rfl, rfl⟩)
      · rw [nI_leI (by omega) (by omega)] at c8
        exact absurd (by omega) c8
    | succ j ih =>
      intro k n1 hj
      refine J_iload dL_possibles_5 (by rfl) ?_
      refine J_iload_n dL_possibles_7 (by rfl) ?_
      refine J_icmp_ge (tgt := 36) dL_possibles_8 (by decide) (fun c8 => ?_) (fun c8 => ?_)
      · rw [nI_leI (by omega) (by omega)] at c8
        exact absurd c8 (by omega)
      · rw [nI_leI (by omega) (by omega)] at c8
        refine J_iload_n dL_possibles_11 (by rfl) ?_
        refine J_iload_n dL_possibles_12 (by rfl) ?_
        refine J_iload dL_possibles_13 (by rfl) ?_
        refine J_iload_n dL_possibles_15 (by rfl) ?_
        refine J_aload_n dL_possibles_16 (by rfl) ?_
        refine J_callS mf_L_why lk_L_103 ms_L_why (sp_L_why w hx hm (k := k) (by omega) _) dL_possibles_17 (by decide) (by rfl) rfl (Nat.le_of_ble_eq_true rfl) (Nat.zero_add _) (Nat.zero_add _) (fun v17 h17 n17 q17 => ?_)
        obtain ⟨rfl, rfl⟩ := q17
        refine J_if_ne (tgt := 27) dL_possibles_20 (by decide) (fun c20 => ?_) (fun c20 => ?_)
        · refine J_iconst (v := nI 0) dL_possibles_27 (by decide) ?_
          refine J_iadd dL_possibles_28 ?_
          rw [nI_add]
          refine J_istore_n dL_possibles_29 (by decide) (by rfl) ?_
          refine J_iincN dL_possibles_30 (by rfl) (by decide) (by rfl) ?_
          refine J_goto (tgt := 5) dL_possibles_33 (by decide) ?_
          first | exact J_sub (subl_cons rfl (subl_cons rfl (subl_cons rfl (subl_cons (by show some (Value.int (nI _)) = some (Value.int (nI _)); rw [plcT_s, if_neg c20]) (subl_cons rfl subl_nil))))) (ih (k + 1) _ (by omega)) | exact J_sub (subl_cons rfl (subl_cons rfl (subl_cons rfl (subl_cons (by show some (Value.int (nI _)) = some (Value.int (nI _)); rw [plcT_s, if_pos c20]) (subl_cons rfl subl_nil))))) (ih (k + 1) _ (by omega))
        · refine J_iconst (v := nI 1) dL_possibles_23 (by decide) ?_
          refine J_goto (tgt := 28) dL_possibles_24 (by decide) ?_
          refine J_iadd dL_possibles_28 ?_
          rw [nI_add]
          refine J_istore_n dL_possibles_29 (by decide) (by rfl) ?_
          refine J_iincN dL_possibles_30 (by rfl) (by decide) (by rfl) ?_
          refine J_goto (tgt := 5) dL_possibles_33 (by decide) ?_
          first | exact J_sub (subl_cons rfl (subl_cons rfl (subl_cons rfl (subl_cons (by show some (Value.int (nI _)) = some (Value.int (nI _)); rw [plcT_s, if_neg c20]) (subl_cons rfl subl_nil))))) (ih (k + 1) _ (by omega)) | exact J_sub (subl_cons rfl (subl_cons rfl (subl_cons rfl (subl_cons (by show some (Value.int (nI _)) = some (Value.int (nI _)); rw [plcT_s, if_pos c20]) (subl_cons rfl subl_nil))))) (ih (k + 1) _ (by omega))
  refine J_iconst (v := nI 0) dL_possibles_0 (by decide) ?_
  refine J_istore_n dL_possibles_1 (by decide) (by rfl) ?_
  refine J_iconst (v := nI 0) dL_possibles_2 (by decide) ?_
  refine J_istore dL_possibles_3 (by decide) (by rfl) ?_
  exact J_sub (by repeat (first | exact subl_nil | refine subl_cons rfl ?_)) (loop xs.length 0 _ (by omega))
theorem mk_len {xs : List Int32} {m k : Nat} (hm : m = 1 ∨ m = 2) : (mk xs m k).length = xs.length := by
  rcases hm with rfl | rfl
  · rw [mk, if_neg (by decide), if_pos rfl, List.length_set, List.length_set]
  · rw [mk, if_neg (by decide), if_neg (by decide), List.length_set, List.length_set, List.length_set]
set_option maxRecDepth 20000 in
theorem sp_L_best {G : GG} {h : HP} {r : Nat} {xs : List Int32} (w : isRA G h r xs) (hx : allX xs) (n : Nat) : Sp G mm_L_best 3 60 1920 [.int (nI xs.length), .ref r] h n (fun v h' _ => v = some (.int (best xs)) ∧ ky 0 (r + 1) h h') := by
  refine Sp_of (by decide +kernel) (Nat.le_of_ble_eq_true rfl) ?_
  have hl := w.le
  have hp0 := plc_le xs 0
  obtain ⟨f, h1, h2, h3⟩ := id w
  have copy : ∀ (j i m k Z kc kn : Nat) (hh : HP) (n1 : Nat) (g : Nat → Int32), i + j = 32 → r < Z → hh r = some (.inl (G.2.1 0, 32, .inl f)) → hh Z = some (.inl (G.2.1 0, 32, .inl g)) → (∀ t, t < i → g t = f t) → ky 0 (r + 1) h hh → (∀ (hh : HP) (n1 : Nat) (g : Nat → Int32), hh r = some (.inl (G.2.1 0, 32, .inl f)) → hh Z = some (.inl (G.2.1 0, 32, .inl g)) → (∀ t, t < 32 → g t = f t) → ky 0 (r + 1) h hh → J (g0 G) mm_L_best 3 65 [(0, .int (nI xs.length)), (1, .ref r), (2, .int (nI (plc xs 0))), (3, .int (nI m)), (4, .int (nI k)), (5, .ref Z)] [] hh n1 kc kn (RT mm_L_best (fun v h' _ => v = some (.int (best xs)) ∧ ky 0 (r + 1) h h'))) → J (g0 G) mm_L_best 3 43 [(0, .int (nI xs.length)), (1, .ref r), (2, .int (nI (plc xs 0))), (3, .int (nI m)), (4, .int (nI k)), (5, .ref Z), (6, .int (nI i))] [] hh n1 kc kn (RT mm_L_best (fun v h' _ => v = some (.int (best xs)) ∧ ky 0 (r + 1) h h')) := by
    intro j
    induction j with
    | zero =>
      intro i m k Z kc kn hh n1 g hj hZ g1 g2 g3 hf kk
      refine J_iload dL_best_43 (by rfl) ?_
      refine J_bipush (v := nI 32) dL_best_45 (by decide) ?_
      refine J_icmp_ge (tgt := 65) dL_best_47 (by decide) (fun c47 => ?_) (fun c47 => ?_)
      · rw [nI_leI (by omega) (by omega)] at c47
        exact J_sub (by repeat (first | exact subl_nil | refine subl_cons rfl ?_)) (kk _ _ g g1 g2 (fun t ht => g3 t (by omega)) hf)
      · rw [nI_leI (by omega) (by omega)] at c47
        exact absurd (by omega) c47
    | succ j ih =>
      intro i m k Z kc kn hh n1 g hj hZ g1 g2 g3 hf kk
      refine J_iload dL_best_43 (by rfl) ?_
      refine J_bipush (v := nI 32) dL_best_45 (by decide) ?_
      refine J_icmp_ge (tgt := 65) dL_best_47 (by decide) (fun c47 => ?_) (fun c47 => ?_)
      · rw [nI_leI (by omega) (by omega)] at c47
        exact absurd c47 (by omega)
      · rw [nI_leI (by omega) (by omega)] at c47
        refine J_aload dL_best_50 (by rfl) ?_
        refine J_iload dL_best_52 (by rfl) ?_
        refine J_aload_n dL_best_54 (by rfl) ?_
        refine J_iload dL_best_55 (by rfl) ?_
        refine J_ga dL_best_57 (by first | assumption | exact isLT.ob (by assumption) | exact isRow.ob (by assumption) | exact isHnd.ob (by assumption) | exact isUnt.ob (by assumption) | exact isSt.ob (by assumption) | exact isHist.ob (by assumption) | exact isTxt.ob (by assumption) | exact isLac.ob (by assumption) | exact isMea.ob (by assumption) | exact hset_s | exact (hset_n (by first | assumption | omega)).trans (by first | assumption | exact isLT.ob (by assumption) | exact isRow.ob (by assumption) | exact isHnd.ob (by assumption) | exact isUnt.ob (by assumption) | exact isSt.ob (by assumption) | exact isHist.ob (by assumption) | exact isTxt.ob (by assumption) | exact isLac.ob (by assumption) | exact isMea.ob (by assumption) | exact hset_s | exact (hset_n (by first | assumption | omega)).trans (by first | assumption | exact isLT.ob (by assumption) | exact isRow.ob (by assumption) | exact isHnd.ob (by assumption) | exact isUnt.ob (by assumption) | exact isSt.ob (by assumption) | exact isHist.ob (by assumption) | exact isTxt.ob (by assumption) | exact isLac.ob (by assumption) | exact isMea.ob (by assumption) | exact hset_s | exact (hset_n (by first | assumption | omega)).trans (by first | assumption | exact isLT.ob (by assumption) | exact isRow.ob (by assumption) | exact isHnd.ob (by assumption) | exact isUnt.ob (by assumption) | exact isSt.ob (by assumption) | exact isHist.ob (by assumption) | exact isTxt.ob (by assumption) | exact isLac.ob (by assumption) | exact isMea.ob (by assumption))))) (by first | assumption | omega) (by omega) ?_
        refine J_pa dL_best_58 (by first | assumption | exact isLT.ob (by assumption) | exact isRow.ob (by assumption) | exact isHnd.ob (by assumption) | exact isUnt.ob (by assumption) | exact isSt.ob (by assumption) | exact isHist.ob (by assumption) | exact isTxt.ob (by assumption) | exact isLac.ob (by assumption) | exact isMea.ob (by assumption) | exact hset_s | exact (hset_n (by first | assumption | omega)).trans (by first | assumption | exact isLT.ob (by assumption) | exact isRow.ob (by assumption) | exact isHnd.ob (by assumption) | exact isUnt.ob (by assumption) | exact isSt.ob (by assumption) | exact isHist.ob (by assumption) | exact isTxt.ob (by assumption) | exact isLac.ob (by assumption) | exact isMea.ob (by assumption) | exact hset_s | exact (hset_n (by first | assumption | omega)).trans (by first | assumption | exact isLT.ob (by assumption) | exact isRow.ob (by assumption) | exact isHnd.ob (by assumption) | exact isUnt.ob (by assumption) | exact isSt.ob (by assumption) | exact isHist.ob (by assumption) | exact isTxt.ob (by assumption) | exact isLac.ob (by assumption) | exact isMea.ob (by assumption) | exact hset_s | exact (hset_n (by first | assumption | omega)).trans (by first | assumption | exact isLT.ob (by assumption) | exact isRow.ob (by assumption) | exact isHnd.ob (by assumption) | exact isUnt.ob (by assumption) | exact isSt.ob (by assumption) | exact isHist.ob (by assumption) | exact isTxt.ob (by assumption) | exact isLac.ob (by assumption) | exact isMea.ob (by assumption))))) (by first | assumption | omega) (by omega) ?_
        refine J_iincN dL_best_59 (by rfl) (by decide) (by rfl) ?_
        refine J_goto (tgt := 43) dL_best_62 (by decide) ?_
        exact J_sub (by repeat (first | exact subl_nil | refine subl_cons rfl ?_)) (ih (i + 1) m k Z kc kn _ _ _ (by omega) hZ ((hset_n (by omega)).trans g1) hset_s (fun t ht => by
          by_cases e : t = i
          · subst e; rw [upd_s]
          · rw [upd_n e]; exact g3 t (by omega)) (ky_tr hf (ky_set (Or.inr (by omega)))) kk)
  have inner : ∀ (j k m A kc kn : Nat) (hh : HP) (n1 : Nat), k + j = xs.length → m = 1 ∨ m = 2 → j + A ≤ kc → 32 * (j + A) ≤ kn → hh r = some (.inl (G.2.1 0, 32, .inl f)) → ky 0 (r + 1) h hh → bsA xs (plc xs 0) m j k = bsA xs (plc xs 0) m xs.length 0 → (∀ k, bsA xs (plc xs 0) m xs.length 0 = some k → best xs = nI (31 * m + k)) → (bsA xs (plc xs 0) m xs.length 0 = none → ∀ (hh : HP) (n1 : Nat), hh r = some (.inl (G.2.1 0, 32, .inl f)) → ky 0 (r + 1) h hh → J (g0 G) mm_L_best 3 9 [(0, .int (nI xs.length)), (1, .ref r), (2, .int (nI (plc xs 0))), (3, .int (nI (m + 1)))] [] hh n1 A (32 * A) (RT mm_L_best (fun v h' _ => v = some (.int (best xs)) ∧ ky 0 (r + 1) h h'))) → J (g0 G) mm_L_best 3 17 [(0, .int (nI xs.length)), (1, .ref r), (2, .int (nI (plc xs 0))), (3, .int (nI m)), (4, .int (nI k))] [] hh n1 kc kn (RT mm_L_best (fun v h' _ => v = some (.int (best xs)) ∧ ky 0 (r + 1) h h')) := by
    intro j
    induction j with
    | zero =>
      intro k m A kc kn hh n1 hj hm b1 b2 g1 hf hb hs hn
      refine J_iload dL_best_17 (by rfl) ?_
      refine J_iload_n dL_best_19 (by rfl) ?_
      refine J_icmp_ge (tgt := 100) dL_best_20 (by decide) (fun c20 => ?_) (fun c20 => ?_)
      · rw [nI_leI (by omega) (by omega)] at c20
        refine J_iincN dL_best_100 (by rfl) (by decide) (by rfl) ?_
        refine J_goto (tgt := 9) dL_best_103 (by decide) ?_
        exact J_less (kc2 := A) (kn2 := 32 * A) (by omega) (by omega) (J_sub (by repeat (first | exact subl_nil | refine subl_cons rfl ?_)) (hn hb.symm _ _ g1 hf))
      · rw [nI_leI (by omega) (by omega)] at c20
        exact absurd (by omega) c20
    | succ j ih =>
      intro k m A kc kn hh n1 hj hm b1 b2 g1 hf hb hs hn
      have wr : isRA G hh r xs := ⟨f, g1, h2, h3⟩
      have hp1 := plc_le (mk xs m k) 0
      have hl1 := mk_len (xs := xs) (k := k) hm
      have hm3 : m < 3 := by omega
      rw [bsA] at hb
      refine J_iload dL_best_17 (by rfl) ?_
      refine J_iload_n dL_best_19 (by rfl) ?_
      refine J_icmp_ge (tgt := 100) dL_best_20 (by decide) (fun c20 => ?_) (fun c20 => ?_)
      · rw [nI_leI (by omega) (by omega)] at c20
        exact absurd c20 (by omega)
      · rw [nI_leI (by omega) (by omega)] at c20
        refine J_iload_n dL_best_23 (by rfl) ?_
        refine J_iload dL_best_24 (by rfl) ?_
        refine J_iload_n dL_best_26 (by rfl) ?_
        refine J_aload_n dL_best_27 (by rfl) ?_
        refine J_callS mf_L_why lk_L_103 ms_L_why (sp_L_why wr hx hm3 (k := k) (by omega) _) dL_best_28 (by decide) (by rfl) rfl (Nat.le_of_ble_eq_true rfl) (Nat.zero_add _) (Nat.zero_add _) (fun v28 h28 n28 q28 => ?_)
        obtain ⟨rfl, rfl⟩ := q28
        refine J_if_ne (tgt := 94) dL_best_31 (by decide) (fun c31 => ?_) (fun c31 => ?_)
        · refine J_iincN dL_best_94 (by rfl) (by decide) (by rfl) ?_
          refine J_goto (tgt := 17) dL_best_97 (by decide) ?_
          exact J_less (kc2 := kc - 1) (kn2 := kn - 32) (by omega) (by omega) (J_sub (by repeat (first | exact subl_nil | refine subl_cons rfl ?_)) (ih (k + 1) m A _ _ _ _ (by omega) hm (by omega) (by omega) g1 hf (by rw [if_neg (fun q => c31 q.1)] at hb; exact hb) hs hn))
        · refine J_bipush (v := 32) dL_best_34 (by decide) ?_
          refine J_newIu (N := 32) (kc' := kc - 1) (kn' := kn - 32) ca_int dL_best_36 (by decide) (by decide) (by decide) (by omega) (by omega) (fun q36 hq36 => ?_)
          have hrZ := hq36 r (by rw [g1]; simp)
          refine J_astore dL_best_38 (by decide) (by rfl) ?_
          refine J_iconst (v := nI 0) dL_best_40 (by decide) ?_
          refine J_istore dL_best_41 (by decide) (by rfl) ?_
          refine J_sub (by repeat (first | exact subl_nil | refine subl_cons rfl ?_)) (copy 32 0 m k q36 _ _ _ _ _ (by omega) hrZ ((hset_n (by omega)).trans g1) hset_s (fun t ht => absurd ht (Nat.not_lt_zero _)) (ky_tr hf (ky_set (Or.inr (by omega)))) (fun hh2 n2 g2 d1 d2 d3 d4 => ?_))
          have wz : isRA G hh2 q36 xs := ⟨g2, d2, h2, fun i hi => (d3 i (by omega)).trans (h3 i hi)⟩
          refine J_iload_n dL_best_65 (by rfl) ?_
          refine J_iload dL_best_66 (by rfl) ?_
          refine J_iload_n dL_best_68 (by rfl) ?_
          refine J_aload dL_best_69 (by rfl) ?_
          refine J_callS mf_L_makes lk_L_107 ms_L_makes (sp_L_makes wz hx hm3 (rsn_fit c31) _) dL_best_71 (by decide) (by rfl) rfl (Nat.le_of_ble_eq_true rfl) (Nat.zero_add _) (Nat.zero_add _) (fun v71 h71 n71 q71 => ?_)
          obtain ⟨rfl, wm, fm⟩ := q71
          refine J_pop dL_best_74 rfl ?_
          refine J_iconst (v := nI 0) dL_best_75 (by decide) ?_
          refine J_iload_n dL_best_76 (by rfl) ?_
          refine J_aload dL_best_77 (by rfl) ?_
          refine J_callS mf_L_possibles lk_L_135 ms_L_possibles ((by have := sp_L_possibles wm (mk_allX hx hm3 (rsn_fit c31)) (m := 0) (by omega) n71; rw [hl1] at this; exact this)) dL_best_79 (by decide) (by rfl) rfl (Nat.le_of_ble_eq_true rfl) (Nat.zero_add _) (Nat.zero_add _) (fun v79 h79 n79 q79 => ?_)
          obtain ⟨rfl, rfl⟩ := q79
          refine J_iload_n dL_best_82 (by rfl) ?_
          refine J_icmp_le (tgt := 94) dL_best_83 (by decide) (fun c83 => ?_) (fun c83 => ?_)
          · rw [nI_leI (by omega) (by omega)] at c83
            refine J_iincN dL_best_94 (by rfl) (by decide) (by rfl) ?_
            refine J_goto (tgt := 17) dL_best_97 (by decide) ?_
            exact J_sub (by repeat (first | exact subl_nil | refine subl_cons rfl ?_)) (ih (k + 1) m A _ _ _ _ (by omega) hm (by omega) (by omega) ((fm r (by omega)).trans d1) (ky_tr d4 (ky_fr fm (Or.inl (by omega)))) (by rw [if_neg (fun q => by omega)] at hb; exact hb) hs hn)
          · rw [nI_leI (by omega) (by omega)] at c83
            refine J_bipush (v := nI 31) dL_best_86 (by decide) ?_
            refine J_iload_n dL_best_88 (by rfl) ?_
            refine J_imul dL_best_89 ?_
            rw [pk_mul]
            refine J_iload dL_best_90 (by rfl) ?_
            refine J_iadd dL_best_92 ?_
            rw [nI_add]
            exact J_ireturn dL_best_93 rfl (by rfl) (⟨by rw [hs k (by rw [if_pos ⟨c31, by omega⟩] at hb; exact hb.symm)], ky_tr d4 (ky_fr fm (Or.inl (by omega)))⟩)
  have three : bsA xs (plc xs 0) 1 xs.length 0 = none → bsA xs (plc xs 0) 2 xs.length 0 = none → ∀ (hh : HP) (n1 : Nat), hh r = some (.inl (G.2.1 0, 32, .inl f)) → ky 0 (r + 1) h hh → J (g0 G) mm_L_best 3 9 [(0, .int (nI xs.length)), (1, .ref r), (2, .int (nI (plc xs 0))), (3, .int (nI 3))] [] hh n1 0 0 (RT mm_L_best (fun v h' _ => v = some (.int (best xs)) ∧ ky 0 (r + 1) h h')) := by
    intro e1 e2 hh n1 g1 hf
    refine J_iload_n dL_best_9 (by rfl) ?_
    refine J_iconst (v := nI 3) dL_best_10 (by decide) ?_
    refine J_icmp_ge (tgt := 106) dL_best_11 (by decide) (fun c11 => ?_) (fun c11 => ?_)
    · rw [nI_leI (by omega) (by omega)] at c11
      refine J_iconst (v := (-1)) dL_best_106 (by decide) ?_
      exact J_ireturn dL_best_107 rfl (by rfl) (⟨by unfold best; rw [e1, e2], hf⟩)
    · rw [nI_leI (by omega) (by omega)] at c11
      exact absurd (by omega) c11
  have two : bsA xs (plc xs 0) 1 xs.length 0 = none → ∀ (hh : HP) (n1 : Nat), hh r = some (.inl (G.2.1 0, 32, .inl f)) → ky 0 (r + 1) h hh → J (g0 G) mm_L_best 3 9 [(0, .int (nI xs.length)), (1, .ref r), (2, .int (nI (plc xs 0))), (3, .int (nI 2))] [] hh n1 30 (32 * 30) (RT mm_L_best (fun v h' _ => v = some (.int (best xs)) ∧ ky 0 (r + 1) h h')) := by
    intro e1 hh n1 g1 hf
    refine J_iload_n dL_best_9 (by rfl) ?_
    refine J_iconst (v := nI 3) dL_best_10 (by decide) ?_
    refine J_icmp_ge (tgt := 106) dL_best_11 (by decide) (fun c11 => ?_) (fun c11 => ?_)
    · rw [nI_leI (by omega) (by omega)] at c11
      exact absurd c11 (by omega)
    · rw [nI_leI (by omega) (by omega)] at c11
      refine J_iconst (v := nI 0) dL_best_14 (by decide) ?_
      refine J_istore dL_best_15 (by decide) (by rfl) ?_
      exact J_sub (by repeat (first | exact subl_nil | refine subl_cons rfl ?_)) (inner xs.length 0 2 0 _ _ _ _ (by omega) (Or.inr rfl) (by omega) (by omega) g1 hf rfl (fun k e => by unfold best; rw [e1, e]) (three e1))
  refine J_iconst (v := nI 0) dL_best_0 (by decide) ?_
  refine J_iload_n dL_best_1 (by rfl) ?_
  refine J_aload_n dL_best_2 (by rfl) ?_
  refine J_callS mf_L_possibles lk_L_135 ms_L_possibles (sp_L_possibles w hx (m := 0) (by omega) _) dL_best_3 (by decide) (by rfl) rfl (Nat.le_of_ble_eq_true rfl) (Nat.zero_add _) (Nat.zero_add _) (fun v3 h3 n3 q3 => ?_)
  obtain ⟨rfl, rfl⟩ := q3
  refine J_istore_n dL_best_6 (by decide) (by rfl) ?_
  refine J_iconst (v := nI 1) dL_best_7 (by decide) ?_
  refine J_istore_n dL_best_8 (by decide) (by rfl) ?_
  skip
  refine J_iload_n dL_best_9 (by rfl) ?_
  refine J_iconst (v := nI 3) dL_best_10 (by decide) ?_
  refine J_icmp_ge (tgt := 106) dL_best_11 (by decide) (fun c11 => ?_) (fun c11 => ?_)
  · rw [nI_leI (by omega) (by omega)] at c11
    exact absurd c11 (by omega)
  · rw [nI_leI (by omega) (by omega)] at c11
    refine J_iconst (v := nI 0) dL_best_14 (by decide) ?_
    refine J_istore dL_best_15 (by decide) (by rfl) ?_
    exact J_sub (by repeat (first | exact subl_nil | refine subl_cons rfl ?_)) (inner xs.length 0 1 30 _ _ _ _ (by omega) (Or.inl rfl) (by omega) (by omega) h1 ky_rf rfl (fun k e => by unfold best; rw [e]) two)
