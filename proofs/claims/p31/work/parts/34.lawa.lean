/-! the law's own: ranks, reasons, cutting, making moves in an array -/
theorem upd_s {f : Nat → Int32} {k : Nat} {x : Int32} : upd f k x k = x := if_pos rfl
theorem upd_n {f : Nat → Int32} {k j : Nat} {x : Int32} (q : j ≠ k) : upd f k x j = f j := if_neg q
set_option maxRecDepth 20000 in
theorem sp_L_low {G : GG} (h : HP) (x : Int32) {m : Nat} (hm0 : 0 < m) (hm : m < 2 ^ 31) (n : Nat) : Sp G mm_L_low 0 0 0 [.int x, .int (nI m)] h n (fun v h' _ => (∃ j, j < m ∧ v = some (.int (nI j))) ∧ h' = h) := by
  refine Sp_of (by decide +kernel) (Nat.le_of_ble_eq_true rfl) ?_
  refine J_iload_n dL_low_0 (by rfl) ?_
  refine J_ldc dL_low_1 kc_L_9 ?_
  refine J_iand dL_low_3 ?_
  obtain ⟨j, hj, ej⟩ := pk_andE x 31 (m := 2147483647) (by decide)
  rw [ej]
  refine J_iload_n dL_low_4 (by rfl) ?_
  refine J_irem dL_low_5 (nI_ne0 hm0 hm) ?_
  rw [pk_rem (by omega) hm0 hm]
  exact J_ireturn dL_low_6 rfl (by rfl) (⟨⟨_, Nat.mod_lt _ hm0, rfl⟩, rfl⟩)
set_option maxRecDepth 20000 in
theorem sp_L_rank {G : GG} (h : HP) (x : Int32) (n : Nat) : Sp G mm_L_rank 0 0 0 [.int x] h n (fun v h' _ => v = some (.int (rk x)) ∧ h' = h) := by
  refine Sp_of (by decide +kernel) (Nat.le_of_ble_eq_true rfl) ?_
  refine J_iload_n dL_rank_0 (by rfl) ?_
  refine J_if_ge (tgt := 9) dL_rank_1 (by decide) (fun c1 => ?_) (fun c1 => ?_)
  · refine J_iload_n dL_rank_9 (by rfl) ?_
    exact J_ireturn dL_rank_10 rfl (by rfl) (⟨by have c1' := c1; rw [rk]; first | (rw [if_neg (fun q => by have := Int32.not_lt.mpr c1'; exact this q)]) | (rw [if_pos (Int32.not_le.mp c1')]), rfl⟩)
  · refine J_iload_n dL_rank_4 (by rfl) ?_
    refine J_ineg dL_rank_5 ?_
    refine J_goto (tgt := 10) dL_rank_6 (by decide) ?_
    exact J_ireturn dL_rank_10 rfl (by rfl) (⟨by have c1' := c1; rw [rk]; first | (rw [if_neg (fun q => by have := Int32.not_lt.mpr c1'; exact this q)]) | (rw [if_pos (Int32.not_le.mp c1')]), rfl⟩)
def xl : List Int32 := [1, 2, 3, -1, -2, -3]
theorem isX.xl {x : Int32} (h : isX x) : x ∈ xl := by
  unfold isX at h
  rcases h with rfl | rfl | rfl | rfl | rfl | rfl <;> decide
theorem lw0 : ∀ x ∈ xl, ∀ y ∈ xl, rs0 x y = if x + y = 0 then 0 else if x = y then 3 else 2 := by decide +kernel
theorem lw1 : ∀ x ∈ xl, ∀ y ∈ xl, rs1 x y = if rk x - rk x / 2 * 2 = 1 ∧ rk y - rk y / 2 * 2 = 1 ∧ ¬ rk x = rk y then 0 else 2 := by decide +kernel
theorem lw2 : ∀ x ∈ xl, ∀ y ∈ xl, ∀ z ∈ xl, rs2 x y z = if rk x = rk z ∧ (rk x - rk y) * (rk x - rk y) = 1 then (if x = z ∧ x * y < 0 then 3 else 0) else 2 := by decide +kernel
theorem ev {a b c : Int32} (h1 : a = b) (h2 : b = c) : some (Value.int c) = some (Value.int a) := by rw [h1, h2]
theorem rsn_e {xs : List Int32} {m k c : Nat} (hc : (if m = 2 then 3 else 2) = c) (hl : k + c ≤ xs.length) : rsn xs m k = if m = 0 then rs0 (xs.getD k 0) (xs.getD (k + 1) 0) else if m = 1 then rs1 (xs.getD k 0) (xs.getD (k + 1) 0) else rs2 (xs.getD k 0) (xs.getD (k + 1) 0) (xs.getD (k + 2) 0) := by
  rw [rsn, hc, if_neg (by omega)]
set_option maxRecDepth 20000 in
theorem sp_L_why {G : GG} {h : HP} {r : Nat} {xs : List Int32} (w : isRA G h r xs) (hx : allX xs) {m k : Nat} (hm : m < 3) (hk : k < 2 ^ 30) (n : Nat) : Sp G mm_L_why 1 0 0 [.int (nI m), .int (nI k), .int (nI xs.length), .ref r] h n (fun v h' _ => v = some (.int (rsn xs m k)) ∧ h' = h) := by
  refine Sp_of (by decide +kernel) (Nat.le_of_ble_eq_true rfl) ?_
  obtain ⟨f, h1, h2, h3⟩ := w
  have few : ∀ c, (if m = 2 then 3 else 2) = c → xs.length < k + c → rsn xs m k = 1 := fun c hc hl => by rw [rsn, if_pos (by omega)]
  rcases (show m = 0 ∨ m = 1 ∨ m = 2 by omega) with rfl | rfl | rfl
  · have e0 : k + 2 ≤ xs.length → rsn xs 0 k = if xs.getD k 0 + xs.getD (k + 1) 0 = 0 then 0 else if xs.getD k 0 = xs.getD (k + 1) 0 then 3 else 2 := fun hl => by rw [rsn_e (c := 2) rfl hl, if_pos rfl]; exact lw0 _ (hx _ (by omega)).xl _ (hx _ (by omega)).xl
    refine J_iload_n dL_why_0 (by rfl) ?_
    refine J_iconst (v := 2) dL_why_1 (by decide) ?_
    refine J_icmp_ne (tgt := 9) dL_why_2 (by decide) (fun c2 => ?_) (fun c2 => ?_)
    · refine J_iconst (v := nI 2) dL_why_9 (by decide) ?_
      refine J_istore dL_why_10 (by decide) (by rfl) ?_
      refine J_iload_n dL_why_12 (by rfl) ?_
      refine J_iload_n dL_why_13 (by rfl) ?_
      refine J_icmp_gt (tgt := 25) dL_why_14 (by decide) (fun c14 => ?_) (fun c14 => ?_)
      · rw [nI_ltI (by omega) (by omega)] at c14
        refine J_iconst (v := 1) dL_why_25 (by decide) ?_
        exact J_ireturn dL_why_26 rfl (by rfl) (⟨by rw [few 2 rfl (by omega)], rfl⟩)
      · rw [nI_ltI (by omega) (by omega)] at c14
        refine J_iload_n dL_why_17 (by rfl) ?_
        refine J_iload dL_why_18 (by rfl) ?_
        refine J_iadd dL_why_20 ?_
        rw [nI_add]
        refine J_iload_n dL_why_21 (by rfl) ?_
        refine J_icmp_le (tgt := 27) dL_why_22 (by decide) (fun c22 => ?_) (fun c22 => ?_)
        · rw [nI_leI (by omega) (by omega)] at c22
          refine J_aload_n dL_why_27 (by rfl) ?_
          refine J_iload_n dL_why_28 (by rfl) ?_
          refine J_ga dL_why_29 (by first | assumption | exact isLT.ob (by assumption) | exact isRow.ob (by assumption) | exact isHnd.ob (by assumption) | exact isUnt.ob (by assumption) | exact isSt.ob (by assumption) | exact isHist.ob (by assumption) | exact isTxt.ob (by assumption) | exact isLac.ob (by assumption) | exact isMea.ob (by assumption) | exact hset_s | exact (hset_n (by first | assumption | omega)).trans (by first | assumption | exact isLT.ob (by assumption) | exact isRow.ob (by assumption) | exact isHnd.ob (by assumption) | exact isUnt.ob (by assumption) | exact isSt.ob (by assumption) | exact isHist.ob (by assumption) | exact isTxt.ob (by assumption) | exact isLac.ob (by assumption) | exact isMea.ob (by assumption) | exact hset_s | exact (hset_n (by first | assumption | omega)).trans (by first | assumption | exact isLT.ob (by assumption) | exact isRow.ob (by assumption) | exact isHnd.ob (by assumption) | exact isUnt.ob (by assumption) | exact isSt.ob (by assumption) | exact isHist.ob (by assumption) | exact isTxt.ob (by assumption) | exact isLac.ob (by assumption) | exact isMea.ob (by assumption) | exact hset_s | exact (hset_n (by first | assumption | omega)).trans (by first | assumption | exact isLT.ob (by assumption) | exact isRow.ob (by assumption) | exact isHnd.ob (by assumption) | exact isUnt.ob (by assumption) | exact isSt.ob (by assumption) | exact isHist.ob (by assumption) | exact isTxt.ob (by assumption) | exact isLac.ob (by assumption) | exact isMea.ob (by assumption))))) (by first | assumption | omega) (by omega) ?_
          rw [h3 k (by omega)]
          refine J_istore dL_why_30 (by decide) (by rfl) ?_
          refine J_aload_n dL_why_32 (by rfl) ?_
          refine J_iload_n dL_why_33 (by rfl) ?_
          refine J_iconst (v := nI 1) dL_why_34 (by decide) ?_
          refine J_iadd dL_why_35 ?_
          rw [nI_add]
          refine J_ga dL_why_36 (by first | assumption | exact isLT.ob (by assumption) | exact isRow.ob (by assumption) | exact isHnd.ob (by assumption) | exact isUnt.ob (by assumption) | exact isSt.ob (by assumption) | exact isHist.ob (by assumption) | exact isTxt.ob (by assumption) | exact isLac.ob (by assumption) | exact isMea.ob (by assumption) | exact hset_s | exact (hset_n (by first | assumption | omega)).trans (by first | assumption | exact isLT.ob (by assumption) | exact isRow.ob (by assumption) | exact isHnd.ob (by assumption) | exact isUnt.ob (by assumption) | exact isSt.ob (by assumption) | exact isHist.ob (by assumption) | exact isTxt.ob (by assumption) | exact isLac.ob (by assumption) | exact isMea.ob (by assumption) | exact hset_s | exact (hset_n (by first | assumption | omega)).trans (by first | assumption | exact isLT.ob (by assumption) | exact isRow.ob (by assumption) | exact isHnd.ob (by assumption) | exact isUnt.ob (by assumption) | exact isSt.ob (by assumption) | exact isHist.ob (by assumption) | exact isTxt.ob (by assumption) | exact isLac.ob (by assumption) | exact isMea.ob (by assumption) | exact hset_s | exact (hset_n (by first | assumption | omega)).trans (by first | assumption | exact isLT.ob (by assumption) | exact isRow.ob (by assumption) | exact isHnd.ob (by assumption) | exact isUnt.ob (by assumption) | exact isSt.ob (by assumption) | exact isHist.ob (by assumption) | exact isTxt.ob (by assumption) | exact isLac.ob (by assumption) | exact isMea.ob (by assumption))))) (by first | assumption | omega) (by omega) ?_
          rw [h3 (k + 1) (by omega)]
          refine J_istore dL_why_37 (by decide) (by rfl) ?_
          refine J_iload_n dL_why_39 (by rfl) ?_
          refine J_if_ne (tgt := 68) dL_why_40 (by decide) (fun c40 => ?_) (fun c40 => ?_)
          · exact absurd rfl c40
          · refine J_iload dL_why_43 (by rfl) ?_
            refine J_iload dL_why_45 (by rfl) ?_
            refine J_iadd dL_why_47 ?_
            refine J_if_ne (tgt := 55) dL_why_48 (by decide) (fun c48 => ?_) (fun c48 => ?_)
            · refine J_iload dL_why_55 (by rfl) ?_
              refine J_iload dL_why_57 (by rfl) ?_
              refine J_icmp_ne (tgt := 66) dL_why_59 (by decide) (fun c59 => ?_) (fun c59 => ?_)
              · refine J_iconst (v := 2) dL_why_66 (by decide) ?_
                exact J_ireturn dL_why_67 rfl (by rfl) (⟨by first | exact ev (e0 (by omega)) (if_pos c48) | exact ev (e0 (by omega)) ((if_neg c48).trans (if_pos c59)) | exact ev (e0 (by omega)) ((if_neg c48).trans (if_neg c59)), rfl⟩)
              · refine J_iconst (v := 3) dL_why_62 (by decide) ?_
                refine J_goto (tgt := 67) dL_why_63 (by decide) ?_
                exact J_ireturn dL_why_67 rfl (by rfl) (⟨by first | exact ev (e0 (by omega)) (if_pos c48) | exact ev (e0 (by omega)) ((if_neg c48).trans (if_pos c59)) | exact ev (e0 (by omega)) ((if_neg c48).trans (if_neg c59)), rfl⟩)
            · refine J_iconst (v := 0) dL_why_51 (by decide) ?_
              refine J_goto (tgt := 67) dL_why_52 (by decide) ?_
              exact J_ireturn dL_why_67 rfl (by rfl) (⟨by first | exact ev (e0 (by omega)) (if_pos c48) | exact ev (e0 (by omega)) ((if_neg c48).trans (if_pos c59)) | exact ev (e0 (by omega)) ((if_neg c48).trans (if_neg c59)), rfl⟩)
        · rw [nI_leI (by omega) (by omega)] at c22
          refine J_iconst (v := 1) dL_why_25 (by decide) ?_
          exact J_ireturn dL_why_26 rfl (by rfl) (⟨by rw [few 2 rfl (by omega)], rfl⟩)
    · exact absurd c2 (by decide)
  · have e0 : k + 2 ≤ xs.length → rsn xs 1 k = if rk (xs.getD k 0) - rk (xs.getD k 0) / 2 * 2 = 1 ∧ rk (xs.getD (k + 1) 0) - rk (xs.getD (k + 1) 0) / 2 * 2 = 1 ∧ ¬ rk (xs.getD k 0) = rk (xs.getD (k + 1) 0) then 0 else 2 := fun hl => by rw [rsn_e (c := 2) rfl hl, if_neg (by decide), if_pos rfl]; exact lw1 _ (hx _ (by omega)).xl _ (hx _ (by omega)).xl
    refine J_iload_n dL_why_0 (by rfl) ?_
    refine J_iconst (v := 2) dL_why_1 (by decide) ?_
    refine J_icmp_ne (tgt := 9) dL_why_2 (by decide) (fun c2 => ?_) (fun c2 => ?_)
    · refine J_iconst (v := nI 2) dL_why_9 (by decide) ?_
      refine J_istore dL_why_10 (by decide) (by rfl) ?_
      refine J_iload_n dL_why_12 (by rfl) ?_
      refine J_iload_n dL_why_13 (by rfl) ?_
      refine J_icmp_gt (tgt := 25) dL_why_14 (by decide) (fun c14 => ?_) (fun c14 => ?_)
      · rw [nI_ltI (by omega) (by omega)] at c14
        refine J_iconst (v := 1) dL_why_25 (by decide) ?_
        exact J_ireturn dL_why_26 rfl (by rfl) (⟨by rw [few 2 rfl (by omega)], rfl⟩)
      · rw [nI_ltI (by omega) (by omega)] at c14
        refine J_iload_n dL_why_17 (by rfl) ?_
        refine J_iload dL_why_18 (by rfl) ?_
        refine J_iadd dL_why_20 ?_
        rw [nI_add]
        refine J_iload_n dL_why_21 (by rfl) ?_
        refine J_icmp_le (tgt := 27) dL_why_22 (by decide) (fun c22 => ?_) (fun c22 => ?_)
        · rw [nI_leI (by omega) (by omega)] at c22
          refine J_aload_n dL_why_27 (by rfl) ?_
          refine J_iload_n dL_why_28 (by rfl) ?_
          refine J_ga dL_why_29 (by first | assumption | exact isLT.ob (by assumption) | exact isRow.ob (by assumption) | exact isHnd.ob (by assumption) | exact isUnt.ob (by assumption) | exact isSt.ob (by assumption) | exact isHist.ob (by assumption) | exact isTxt.ob (by assumption) | exact isLac.ob (by assumption) | exact isMea.ob (by assumption) | exact hset_s | exact (hset_n (by first | assumption | omega)).trans (by first | assumption | exact isLT.ob (by assumption) | exact isRow.ob (by assumption) | exact isHnd.ob (by assumption) | exact isUnt.ob (by assumption) | exact isSt.ob (by assumption) | exact isHist.ob (by assumption) | exact isTxt.ob (by assumption) | exact isLac.ob (by assumption) | exact isMea.ob (by assumption) | exact hset_s | exact (hset_n (by first | assumption | omega)).trans (by first | assumption | exact isLT.ob (by assumption) | exact isRow.ob (by assumption) | exact isHnd.ob (by assumption) | exact isUnt.ob (by assumption) | exact isSt.ob (by assumption) | exact isHist.ob (by assumption) | exact isTxt.ob (by assumption) | exact isLac.ob (by assumption) | exact isMea.ob (by assumption) | exact hset_s | exact (hset_n (by first | assumption | omega)).trans (by first | assumption | exact isLT.ob (by assumption) | exact isRow.ob (by assumption) | exact isHnd.ob (by assumption) | exact isUnt.ob (by assumption) | exact isSt.ob (by assumption) | exact isHist.ob (by assumption) | exact isTxt.ob (by assumption) | exact isLac.ob (by assumption) | exact isMea.ob (by assumption))))) (by first | assumption | omega) (by omega) ?_
          rw [h3 k (by omega)]
          refine J_istore dL_why_30 (by decide) (by rfl) ?_
          refine J_aload_n dL_why_32 (by rfl) ?_
          refine J_iload_n dL_why_33 (by rfl) ?_
          refine J_iconst (v := nI 1) dL_why_34 (by decide) ?_
          refine J_iadd dL_why_35 ?_
          rw [nI_add]
          refine J_ga dL_why_36 (by first | assumption | exact isLT.ob (by assumption) | exact isRow.ob (by assumption) | exact isHnd.ob (by assumption) | exact isUnt.ob (by assumption) | exact isSt.ob (by assumption) | exact isHist.ob (by assumption) | exact isTxt.ob (by assumption) | exact isLac.ob (by assumption) | exact isMea.ob (by assumption) | exact hset_s | exact (hset_n (by first | assumption | omega)).trans (by first | assumption | exact isLT.ob (by assumption) | exact isRow.ob (by assumption) | exact isHnd.ob (by assumption) | exact isUnt.ob (by assumption) | exact isSt.ob (by assumption) | exact isHist.ob (by assumption) | exact isTxt.ob (by assumption) | exact isLac.ob (by assumption) | exact isMea.ob (by assumption) | exact hset_s | exact (hset_n (by first | assumption | omega)).trans (by first | assumption | exact isLT.ob (by assumption) | exact isRow.ob (by assumption) | exact isHnd.ob (by assumption) | exact isUnt.ob (by assumption) | exact isSt.ob (by assumption) | exact isHist.ob (by assumption) | exact isTxt.ob (by assumption) | exact isLac.ob (by assumption) | exact isMea.ob (by assumption) | exact hset_s | exact (hset_n (by first | assumption | omega)).trans (by first | assumption | exact isLT.ob (by assumption) | exact isRow.ob (by assumption) | exact isHnd.ob (by assumption) | exact isUnt.ob (by assumption) | exact isSt.ob (by assumption) | exact isHist.ob (by assumption) | exact isTxt.ob (by assumption) | exact isLac.ob (by assumption) | exact isMea.ob (by assumption))))) (by first | assumption | omega) (by omega) ?_
          rw [h3 (k + 1) (by omega)]
          refine J_istore dL_why_37 (by decide) (by rfl) ?_
          refine J_iload_n dL_why_39 (by rfl) ?_
          refine J_if_ne (tgt := 68) dL_why_40 (by decide) (fun c40 => ?_) (fun c40 => ?_)
          · refine J_iload_n dL_why_68 (by rfl) ?_
            refine J_iconst (v := 1) dL_why_69 (by decide) ?_
            refine J_icmp_ne (tgt := 114) dL_why_70 (by decide) (fun c70 => ?_) (fun c70 => ?_)
            · exact absurd rfl c70
            · refine J_iload dL_why_73 (by rfl) ?_
              refine J_callS mf_L_rank lk_L_63 ms_L_rank (sp_L_rank _ (xs.getD k 0) _) dL_why_75 (by decide) (by rfl) rfl (Nat.le_of_ble_eq_true rfl) (Nat.zero_add _) (Nat.zero_add _) (fun v75 h75 n75 q75 => ?_)
              obtain ⟨rfl, rfl⟩ := q75
              refine J_iconst (v := 2) dL_why_78 (by decide) ?_
              refine J_irem dL_why_79 (by decide) ?_
              refine J_iconst (v := 1) dL_why_80 (by decide) ?_
              refine J_icmp_ne (tgt := 112) dL_why_81 (by decide) (fun c81 => ?_) (fun c81 => ?_)
              · refine J_iconst (v := 2) dL_why_112 (by decide) ?_
                exact J_ireturn dL_why_113 rfl (by rfl) (⟨by first | exact ev (e0 (by omega)) (if_pos ⟨c81, c92, c105⟩) | exact ev (e0 (by omega)) (if_neg (fun q => c81 q.1)) | exact ev (e0 (by omega)) (if_neg (fun q => c92 q.2.1)) | exact ev (e0 (by omega)) (if_neg (fun q => q.2.2 c105)), rfl⟩)
              · refine J_iload dL_why_84 (by rfl) ?_
                refine J_callS mf_L_rank lk_L_63 ms_L_rank (sp_L_rank _ (xs.getD (k + 1) 0) _) dL_why_86 (by decide) (by rfl) rfl (Nat.le_of_ble_eq_true rfl) (Nat.zero_add _) (Nat.zero_add _) (fun v86 h86 n86 q86 => ?_)
                obtain ⟨rfl, rfl⟩ := q86
                refine J_iconst (v := 2) dL_why_89 (by decide) ?_
                refine J_irem dL_why_90 (by decide) ?_
                refine J_iconst (v := 1) dL_why_91 (by decide) ?_
                refine J_icmp_ne (tgt := 112) dL_why_92 (by decide) (fun c92 => ?_) (fun c92 => ?_)
                · refine J_iconst (v := 2) dL_why_112 (by decide) ?_
                  exact J_ireturn dL_why_113 rfl (by rfl) (⟨by first | exact ev (e0 (by omega)) (if_pos ⟨c81, c92, c105⟩) | exact ev (e0 (by omega)) (if_neg (fun q => c81 q.1)) | exact ev (e0 (by omega)) (if_neg (fun q => c92 q.2.1)) | exact ev (e0 (by omega)) (if_neg (fun q => q.2.2 c105)), rfl⟩)
                · refine J_iload dL_why_95 (by rfl) ?_
                  refine J_callS mf_L_rank lk_L_63 ms_L_rank (sp_L_rank _ (xs.getD k 0) _) dL_why_97 (by decide) (by rfl) rfl (Nat.le_of_ble_eq_true rfl) (Nat.zero_add _) (Nat.zero_add _) (fun v97 h97 n97 q97 => ?_)
                  obtain ⟨rfl, rfl⟩ := q97
                  refine J_iload dL_why_100 (by rfl) ?_
                  refine J_callS mf_L_rank lk_L_63 ms_L_rank (sp_L_rank _ (xs.getD (k + 1) 0) _) dL_why_102 (by decide) (by rfl) rfl (Nat.le_of_ble_eq_true rfl) (Nat.zero_add _) (Nat.zero_add _) (fun v102 h102 n102 q102 => ?_)
                  obtain ⟨rfl, rfl⟩ := q102
                  refine J_icmp_eq (tgt := 112) dL_why_105 (by decide) (fun c105 => ?_) (fun c105 => ?_)
                  · refine J_iconst (v := 2) dL_why_112 (by decide) ?_
                    exact J_ireturn dL_why_113 rfl (by rfl) (⟨by first | exact ev (e0 (by omega)) (if_pos ⟨c81, c92, c105⟩) | exact ev (e0 (by omega)) (if_neg (fun q => c81 q.1)) | exact ev (e0 (by omega)) (if_neg (fun q => c92 q.2.1)) | exact ev (e0 (by omega)) (if_neg (fun q => q.2.2 c105)), rfl⟩)
                  · refine J_iconst (v := 0) dL_why_108 (by decide) ?_
                    refine J_goto (tgt := 113) dL_why_109 (by decide) ?_
                    exact J_ireturn dL_why_113 rfl (by rfl) (⟨by first | exact ev (e0 (by omega)) (if_pos ⟨c81, c92, c105⟩) | exact ev (e0 (by omega)) (if_neg (fun q => c81 q.1)) | exact ev (e0 (by omega)) (if_neg (fun q => c92 q.2.1)) | exact ev (e0 (by omega)) (if_neg (fun q => q.2.2 c105)), rfl⟩)
          · exact absurd c40 (by decide)
        · rw [nI_leI (by omega) (by omega)] at c22
          refine J_iconst (v := 1) dL_why_25 (by decide) ?_
          exact J_ireturn dL_why_26 rfl (by rfl) (⟨by rw [few 2 rfl (by omega)], rfl⟩)
    · exact absurd c2 (by decide)
  · have e0 : k + 3 ≤ xs.length → rsn xs 2 k = if rk (xs.getD k 0) = rk (xs.getD (k + 2) 0) ∧ (rk (xs.getD k 0) - rk (xs.getD (k + 1) 0)) * (rk (xs.getD k 0) - rk (xs.getD (k + 1) 0)) = 1 then (if xs.getD k 0 = xs.getD (k + 2) 0 ∧ xs.getD k 0 * xs.getD (k + 1) 0 < 0 then 3 else 0) else 2 := fun hl => by rw [rsn_e (c := 3) rfl hl, if_neg (by decide), if_neg (by decide)]; exact lw2 _ (hx _ (by omega)).xl _ (hx _ (by omega)).xl _ (hx _ (by omega)).xl
    refine J_iload_n dL_why_0 (by rfl) ?_
    refine J_iconst (v := 2) dL_why_1 (by decide) ?_
    refine J_icmp_ne (tgt := 9) dL_why_2 (by decide) (fun c2 => ?_) (fun c2 => ?_)
    · exact absurd rfl c2
    · refine J_iconst (v := nI 3) dL_why_5 (by decide) ?_
      refine J_goto (tgt := 10) dL_why_6 (by decide) ?_
      refine J_istore dL_why_10 (by decide) (by rfl) ?_
      refine J_iload_n dL_why_12 (by rfl) ?_
      refine J_iload_n dL_why_13 (by rfl) ?_
      refine J_icmp_gt (tgt := 25) dL_why_14 (by decide) (fun c14 => ?_) (fun c14 => ?_)
      · rw [nI_ltI (by omega) (by omega)] at c14
        refine J_iconst (v := 1) dL_why_25 (by decide) ?_
        exact J_ireturn dL_why_26 rfl (by rfl) (⟨by rw [few 3 rfl (by omega)], rfl⟩)
      · rw [nI_ltI (by omega) (by omega)] at c14
        refine J_iload_n dL_why_17 (by rfl) ?_
        refine J_iload dL_why_18 (by rfl) ?_
        refine J_iadd dL_why_20 ?_
        rw [nI_add]
        refine J_iload_n dL_why_21 (by rfl) ?_
        refine J_icmp_le (tgt := 27) dL_why_22 (by decide) (fun c22 => ?_) (fun c22 => ?_)
        · rw [nI_leI (by omega) (by omega)] at c22
          refine J_aload_n dL_why_27 (by rfl) ?_
          refine J_iload_n dL_why_28 (by rfl) ?_
          refine J_ga dL_why_29 (by first | assumption | exact isLT.ob (by assumption) | exact isRow.ob (by assumption) | exact isHnd.ob (by assumption) | exact isUnt.ob (by assumption) | exact isSt.ob (by assumption) | exact isHist.ob (by assumption) | exact isTxt.ob (by assumption) | exact isLac.ob (by assumption) | exact isMea.ob (by assumption) | exact hset_s | exact (hset_n (by first | assumption | omega)).trans (by first | assumption | exact isLT.ob (by assumption) | exact isRow.ob (by assumption) | exact isHnd.ob (by assumption) | exact isUnt.ob (by assumption) | exact isSt.ob (by assumption) | exact isHist.ob (by assumption) | exact isTxt.ob (by assumption) | exact isLac.ob (by assumption) | exact isMea.ob (by assumption) | exact hset_s | exact (hset_n (by first | assumption | omega)).trans (by first | assumption | exact isLT.ob (by assumption) | exact isRow.ob (by assumption) | exact isHnd.ob (by assumption) | exact isUnt.ob (by assumption) | exact isSt.ob (by assumption) | exact isHist.ob (by assumption) | exact isTxt.ob (by assumption) | exact isLac.ob (by assumption) | exact isMea.ob (by assumption) | exact hset_s | exact (hset_n (by first | assumption | omega)).trans (by first | assumption | exact isLT.ob (by assumption) | exact isRow.ob (by assumption) | exact isHnd.ob (by assumption) | exact isUnt.ob (by assumption) | exact isSt.ob (by assumption) | exact isHist.ob (by assumption) | exact isTxt.ob (by assumption) | exact isLac.ob (by assumption) | exact isMea.ob (by assumption))))) (by first | assumption | omega) (by omega) ?_
          rw [h3 k (by omega)]
          refine J_istore dL_why_30 (by decide) (by rfl) ?_
          refine J_aload_n dL_why_32 (by rfl) ?_
          refine J_iload_n dL_why_33 (by rfl) ?_
          refine J_iconst (v := nI 1) dL_why_34 (by decide) ?_
          refine J_iadd dL_why_35 ?_
          rw [nI_add]
          refine J_ga dL_why_36 (by first | assumption | exact isLT.ob (by assumption) | exact isRow.ob (by assumption) | exact isHnd.ob (by assumption) | exact isUnt.ob (by assumption) | exact isSt.ob (by assumption) | exact isHist.ob (by assumption) | exact isTxt.ob (by assumption) | exact isLac.ob (by assumption) | exact isMea.ob (by assumption) | exact hset_s | exact (hset_n (by first | assumption | omega)).trans (by first | assumption | exact isLT.ob (by assumption) | exact isRow.ob (by assumption) | exact isHnd.ob (by assumption) | exact isUnt.ob (by assumption) | exact isSt.ob (by assumption) | exact isHist.ob (by assumption) | exact isTxt.ob (by assumption) | exact isLac.ob (by assumption) | exact isMea.ob (by assumption) | exact hset_s | exact (hset_n (by first | assumption | omega)).trans (by first | assumption | exact isLT.ob (by assumption) | exact isRow.ob (by assumption) | exact isHnd.ob (by assumption) | exact isUnt.ob (by assumption) | exact isSt.ob (by assumption) | exact isHist.ob (by assumption) | exact isTxt.ob (by assumption) | exact isLac.ob (by assumption) | exact isMea.ob (by assumption) | exact hset_s | exact (hset_n (by first | assumption | omega)).trans (by first | assumption | exact isLT.ob (by assumption) | exact isRow.ob (by assumption) | exact isHnd.ob (by assumption) | exact isUnt.ob (by assumption) | exact isSt.ob (by assumption) | exact isHist.ob (by assumption) | exact isTxt.ob (by assumption) | exact isLac.ob (by assumption) | exact isMea.ob (by assumption))))) (by first | assumption | omega) (by omega) ?_
          rw [h3 (k + 1) (by omega)]
          refine J_istore dL_why_37 (by decide) (by rfl) ?_
          refine J_iload_n dL_why_39 (by rfl) ?_
          refine J_if_ne (tgt := 68) dL_why_40 (by decide) (fun c40 => ?_) (fun c40 => ?_)
          · refine J_iload_n dL_why_68 (by rfl) ?_
            refine J_iconst (v := 1) dL_why_69 (by decide) ?_
            refine J_icmp_ne (tgt := 114) dL_why_70 (by decide) (fun c70 => ?_) (fun c70 => ?_)
            · refine J_aload_n dL_why_114 (by rfl) ?_
              refine J_iload_n dL_why_115 (by rfl) ?_
              refine J_iconst (v := nI 2) dL_why_116 (by decide) ?_
              refine J_iadd dL_why_117 ?_
              rw [nI_add]
              refine J_ga dL_why_118 (by first | assumption | exact isLT.ob (by assumption) | exact isRow.ob (by assumption) | exact isHnd.ob (by assumption) | exact isUnt.ob (by assumption) | exact isSt.ob (by assumption) | exact isHist.ob (by assumption) | exact isTxt.ob (by assumption) | exact isLac.ob (by assumption) | exact isMea.ob (by assumption) | exact hset_s | exact (hset_n (by first | assumption | omega)).trans (by first | assumption | exact isLT.ob (by assumption) | exact isRow.ob (by assumption) | exact isHnd.ob (by assumption) | exact isUnt.ob (by assumption) | exact isSt.ob (by assumption) | exact isHist.ob (by assumption) | exact isTxt.ob (by assumption) | exact isLac.ob (by assumption) | exact isMea.ob (by assumption) | exact hset_s | exact (hset_n (by first | assumption | omega)).trans (by first | assumption | exact isLT.ob (by assumption) | exact isRow.ob (by assumption) | exact isHnd.ob (by assumption) | exact isUnt.ob (by assumption) | exact isSt.ob (by assumption) | exact isHist.ob (by assumption) | exact isTxt.ob (by assumption) | exact isLac.ob (by assumption) | exact isMea.ob (by assumption) | exact hset_s | exact (hset_n (by first | assumption | omega)).trans (by first | assumption | exact isLT.ob (by assumption) | exact isRow.ob (by assumption) | exact isHnd.ob (by assumption) | exact isUnt.ob (by assumption) | exact isSt.ob (by assumption) | exact isHist.ob (by assumption) | exact isTxt.ob (by assumption) | exact isLac.ob (by assumption) | exact isMea.ob (by assumption))))) (by first | assumption | omega) (by omega) ?_
              rw [h3 (k + 2) (by omega)]
              refine J_istore dL_why_119 (by decide) (by rfl) ?_
              refine J_iload dL_why_121 (by rfl) ?_
              refine J_callS mf_L_rank lk_L_63 ms_L_rank (sp_L_rank _ (xs.getD k 0) _) dL_why_123 (by decide) (by rfl) rfl (Nat.le_of_ble_eq_true rfl) (Nat.zero_add _) (Nat.zero_add _) (fun v123 h123 n123 q123 => ?_)
              obtain ⟨rfl, rfl⟩ := q123
              refine J_iload dL_why_126 (by rfl) ?_
              refine J_callS mf_L_rank lk_L_63 ms_L_rank (sp_L_rank _ (xs.getD (k + 2) 0) _) dL_why_128 (by decide) (by rfl) rfl (Nat.le_of_ble_eq_true rfl) (Nat.zero_add _) (Nat.zero_add _) (fun v128 h128 n128 q128 => ?_)
              obtain ⟨rfl, rfl⟩ := q128
              refine J_icmp_ne (tgt := 165) dL_why_131 (by decide) (fun c131 => ?_) (fun c131 => ?_)
              · refine J_iconst (v := 0) dL_why_165 (by decide) ?_
                refine J_istore dL_why_166 (by decide) (by rfl) ?_
                refine J_iload dL_why_168 (by rfl) ?_
                refine J_if_ne (tgt := 177) dL_why_170 (by decide) (fun c170 => ?_) (fun c170 => ?_)
                · exact absurd (by decide) c170
                · refine J_iconst (v := 2) dL_why_173 (by decide) ?_
                  refine J_goto (tgt := 197) dL_why_174 (by decide) ?_
                  exact J_ireturn dL_why_197 rfl (by rfl) (⟨by first | exact ev (e0 (by omega)) ((if_pos ⟨c131, c158⟩).trans (if_pos ⟨c181, Int32.not_le.mp c189⟩)) | exact ev (e0 (by omega)) ((if_pos ⟨c131, c158⟩).trans (if_neg (fun q => c181 q.1))) | exact ev (e0 (by omega)) ((if_pos ⟨c131, c158⟩).trans (if_neg (fun q => Int32.not_lt.mpr c189 q.2))) | exact ev (e0 (by omega)) (if_neg (fun q => c131 q.1)) | exact ev (e0 (by omega)) (if_neg (fun q => c158 q.2)), rfl⟩)
              · refine J_iload dL_why_134 (by rfl) ?_
                refine J_callS mf_L_rank lk_L_63 ms_L_rank (sp_L_rank _ (xs.getD k 0) _) dL_why_136 (by decide) (by rfl) rfl (Nat.le_of_ble_eq_true rfl) (Nat.zero_add _) (Nat.zero_add _) (fun v136 h136 n136 q136 => ?_)
                obtain ⟨rfl, rfl⟩ := q136
                refine J_iload dL_why_139 (by rfl) ?_
                refine J_callS mf_L_rank lk_L_63 ms_L_rank (sp_L_rank _ (xs.getD (k + 1) 0) _) dL_why_141 (by decide) (by rfl) rfl (Nat.le_of_ble_eq_true rfl) (Nat.zero_add _) (Nat.zero_add _) (fun v141 h141 n141 q141 => ?_)
                obtain ⟨rfl, rfl⟩ := q141
                refine J_isub dL_why_144 ?_
                refine J_iload dL_why_145 (by rfl) ?_
                refine J_callS mf_L_rank lk_L_63 ms_L_rank (sp_L_rank _ (xs.getD k 0) _) dL_why_147 (by decide) (by rfl) rfl (Nat.le_of_ble_eq_true rfl) (Nat.zero_add _) (Nat.zero_add _) (fun v147 h147 n147 q147 => ?_)
                obtain ⟨rfl, rfl⟩ := q147
                refine J_iload dL_why_150 (by rfl) ?_
                refine J_callS mf_L_rank lk_L_63 ms_L_rank (sp_L_rank _ (xs.getD (k + 1) 0) _) dL_why_152 (by decide) (by rfl) rfl (Nat.le_of_ble_eq_true rfl) (Nat.zero_add _) (Nat.zero_add _) (fun v152 h152 n152 q152 => ?_)
                obtain ⟨rfl, rfl⟩ := q152
                refine J_isub dL_why_155 ?_
                refine J_imul dL_why_156 ?_
                refine J_iconst (v := 1) dL_why_157 (by decide) ?_
                refine J_icmp_ne (tgt := 165) dL_why_158 (by decide) (fun c158 => ?_) (fun c158 => ?_)
                · refine J_iconst (v := 0) dL_why_165 (by decide) ?_
                  refine J_istore dL_why_166 (by decide) (by rfl) ?_
                  refine J_iload dL_why_168 (by rfl) ?_
                  refine J_if_ne (tgt := 177) dL_why_170 (by decide) (fun c170 => ?_) (fun c170 => ?_)
                  · exact absurd (by decide) c170
                  · refine J_iconst (v := 2) dL_why_173 (by decide) ?_
                    refine J_goto (tgt := 197) dL_why_174 (by decide) ?_
                    exact J_ireturn dL_why_197 rfl (by rfl) (⟨by first | exact ev (e0 (by omega)) ((if_pos ⟨c131, c158⟩).trans (if_pos ⟨c181, Int32.not_le.mp c189⟩)) | exact ev (e0 (by omega)) ((if_pos ⟨c131, c158⟩).trans (if_neg (fun q => c181 q.1))) | exact ev (e0 (by omega)) ((if_pos ⟨c131, c158⟩).trans (if_neg (fun q => Int32.not_lt.mpr c189 q.2))) | exact ev (e0 (by omega)) (if_neg (fun q => c131 q.1)) | exact ev (e0 (by omega)) (if_neg (fun q => c158 q.2)), rfl⟩)
                · refine J_iconst (v := 1) dL_why_161 (by decide) ?_
                  refine J_goto (tgt := 166) dL_why_162 (by decide) ?_
                  refine J_istore dL_why_166 (by decide) (by rfl) ?_
                  refine J_iload dL_why_168 (by rfl) ?_
                  refine J_if_ne (tgt := 177) dL_why_170 (by decide) (fun c170 => ?_) (fun c170 => ?_)
                  · refine J_iload dL_why_177 (by rfl) ?_
                    refine J_iload dL_why_179 (by rfl) ?_
                    refine J_icmp_ne (tgt := 196) dL_why_181 (by decide) (fun c181 => ?_) (fun c181 => ?_)
                    · refine J_iconst (v := 0) dL_why_196 (by decide) ?_
                      exact J_ireturn dL_why_197 rfl (by rfl) (⟨by first | exact ev (e0 (by omega)) ((if_pos ⟨c131, c158⟩).trans (if_pos ⟨c181, Int32.not_le.mp c189⟩)) | exact ev (e0 (by omega)) ((if_pos ⟨c131, c158⟩).trans (if_neg (fun q => c181 q.1))) | exact ev (e0 (by omega)) ((if_pos ⟨c131, c158⟩).trans (if_neg (fun q => Int32.not_lt.mpr c189 q.2))) | exact ev (e0 (by omega)) (if_neg (fun q => c131 q.1)) | exact ev (e0 (by omega)) (if_neg (fun q => c158 q.2)), rfl⟩)
                    · refine J_iload dL_why_184 (by rfl) ?_
                      refine J_iload dL_why_186 (by rfl) ?_
                      refine J_imul dL_why_188 ?_
                      refine J_if_ge (tgt := 196) dL_why_189 (by decide) (fun c189 => ?_) (fun c189 => ?_)
                      · refine J_iconst (v := 0) dL_why_196 (by decide) ?_
                        exact J_ireturn dL_why_197 rfl (by rfl) (⟨by first | exact ev (e0 (by omega)) ((if_pos ⟨c131, c158⟩).trans (if_pos ⟨c181, Int32.not_le.mp c189⟩)) | exact ev (e0 (by omega)) ((if_pos ⟨c131, c158⟩).trans (if_neg (fun q => c181 q.1))) | exact ev (e0 (by omega)) ((if_pos ⟨c131, c158⟩).trans (if_neg (fun q => Int32.not_lt.mpr c189 q.2))) | exact ev (e0 (by omega)) (if_neg (fun q => c131 q.1)) | exact ev (e0 (by omega)) (if_neg (fun q => c158 q.2)), rfl⟩)
                      · refine J_iconst (v := 3) dL_why_192 (by decide) ?_
                        refine J_goto (tgt := 197) dL_why_193 (by decide) ?_
                        exact J_ireturn dL_why_197 rfl (by rfl) (⟨by first | exact ev (e0 (by omega)) ((if_pos ⟨c131, c158⟩).trans (if_pos ⟨c181, Int32.not_le.mp c189⟩)) | exact ev (e0 (by omega)) ((if_pos ⟨c131, c158⟩).trans (if_neg (fun q => c181 q.1))) | exact ev (e0 (by omega)) ((if_pos ⟨c131, c158⟩).trans (if_neg (fun q => Int32.not_lt.mpr c189 q.2))) | exact ev (e0 (by omega)) (if_neg (fun q => c131 q.1)) | exact ev (e0 (by omega)) (if_neg (fun q => c158 q.2)), rfl⟩)
                  · exact absurd c170 (by decide)
            · exact absurd c70 (by decide)
          · exact absurd c40 (by decide)
        · rw [nI_leI (by omega) (by omega)] at c22
          refine J_iconst (v := 1) dL_why_25 (by decide) ?_
          exact J_ireturn dL_why_26 rfl (by rfl) (⟨by rw [few 3 rfl (by omega)], rfl⟩)
set_option maxRecDepth 20000 in
theorem sp_L_cuts {G : GG} {h : HP} {r : Nat} {xs : List Int32} (w : isRA G h r xs) {k : Nat} (hk : k + 2 ≤ xs.length) (n : Nat) : Sp G mm_L_cuts 0 0 0 [.int (nI k), .int (nI xs.length), .ref r] h n (fun v h' _ => v = some (.int (nI (delP xs k).length)) ∧ isRA G h' r (delP xs k) ∧ fr r (r + 1) h h') := by
  refine Sp_of (by decide +kernel) (Nat.le_of_ble_eq_true rfl) ?_
  obtain ⟨f0, h1, h2, h3⟩ := w
  have loop : ∀ (j c : Nat) (hh : HP) (n1 : Nat) (f : Nat → Int32), c + j + 2 = xs.length → k ≤ c → hh r = some (.inl (G.2.1 0, 32, .inl f)) → (∀ i, i < xs.length → f i = if k ≤ i ∧ i < c then xs.getD (i + 2) 0 else xs.getD i 0) → fr r (r + 1) h hh → J (g0 G) mm_L_cuts 0 2 [(0, .int (nI k)), (1, .int (nI xs.length)), (2, .ref r), (3, .int (nI c))] [] hh n1 0 0 (RT mm_L_cuts (fun v h' _ => v = some (.int (nI (delP xs k).length)) ∧ isRA G h' r (delP xs k) ∧ fr r (r + 1) h h')) := by
    intro j
    induction j with
    | zero =>
      intro c hh n1 f hj hc g1 g2 hf
      refine J_iload_n dL_cuts_2 (by rfl) ?_
      refine J_iconst (v := nI 2) dL_cuts_3 (by decide) ?_
      refine J_iadd dL_cuts_4 ?_
      rw [nI_add]
      refine J_iload_n dL_cuts_5 (by rfl) ?_
      refine J_icmp_ge (tgt := 23) dL_cuts_6 (by decide) (fun c6 => ?_) (fun c6 => ?_)
      · rw [nI_leI (by omega) (by omega)] at c6
        refine J_aload_n dL_cuts_23 (by rfl) ?_
        refine J_iload_n dL_cuts_24 (by rfl) ?_
        refine J_iconst (v := nI 1) dL_cuts_25 (by decide) ?_
        refine J_isub dL_cuts_26 ?_
        rw [pk_sub (by omega)]
        refine J_iconst (v := 0) dL_cuts_27 (by decide) ?_
        refine J_pa dL_cuts_28 (by first | assumption | exact isLT.ob (by assumption) | exact isRow.ob (by assumption) | exact isHnd.ob (by assumption) | exact isUnt.ob (by assumption) | exact isSt.ob (by assumption) | exact isHist.ob (by assumption) | exact isTxt.ob (by assumption) | exact isLac.ob (by assumption) | exact isMea.ob (by assumption) | exact hset_s | exact (hset_n (by first | assumption | omega)).trans (by first | assumption | exact isLT.ob (by assumption) | exact isRow.ob (by assumption) | exact isHnd.ob (by assumption) | exact isUnt.ob (by assumption) | exact isSt.ob (by assumption) | exact isHist.ob (by assumption) | exact isTxt.ob (by assumption) | exact isLac.ob (by assumption) | exact isMea.ob (by assumption) | exact hset_s | exact (hset_n (by first | assumption | omega)).trans (by first | assumption | exact isLT.ob (by assumption) | exact isRow.ob (by assumption) | exact isHnd.ob (by assumption) | exact isUnt.ob (by assumption) | exact isSt.ob (by assumption) | exact isHist.ob (by assumption) | exact isTxt.ob (by assumption) | exact isLac.ob (by assumption) | exact isMea.ob (by assumption) | exact hset_s | exact (hset_n (by first | assumption | omega)).trans (by first | assumption | exact isLT.ob (by assumption) | exact isRow.ob (by assumption) | exact isHnd.ob (by assumption) | exact isUnt.ob (by assumption) | exact isSt.ob (by assumption) | exact isHist.ob (by assumption) | exact isTxt.ob (by assumption) | exact isLac.ob (by assumption) | exact isMea.ob (by assumption))))) (by first | assumption | omega) (by omega) ?_
        refine J_aload_n dL_cuts_29 (by rfl) ?_
        refine J_iload_n dL_cuts_30 (by rfl) ?_
        refine J_iconst (v := nI 2) dL_cuts_31 (by decide) ?_
        refine J_isub dL_cuts_32 ?_
        rw [pk_sub (by omega)]
        refine J_iconst (v := 0) dL_cuts_33 (by decide) ?_
        refine J_pa dL_cuts_34 (by first | assumption | exact isLT.ob (by assumption) | exact isRow.ob (by assumption) | exact isHnd.ob (by assumption) | exact isUnt.ob (by assumption) | exact isSt.ob (by assumption) | exact isHist.ob (by assumption) | exact isTxt.ob (by assumption) | exact isLac.ob (by assumption) | exact isMea.ob (by assumption) | exact hset_s | exact (hset_n (by first | assumption | omega)).trans (by first | assumption | exact isLT.ob (by assumption) | exact isRow.ob (by assumption) | exact isHnd.ob (by assumption) | exact isUnt.ob (by assumption) | exact isSt.ob (by assumption) | exact isHist.ob (by assumption) | exact isTxt.ob (by assumption) | exact isLac.ob (by assumption) | exact isMea.ob (by assumption) | exact hset_s | exact (hset_n (by first | assumption | omega)).trans (by first | assumption | exact isLT.ob (by assumption) | exact isRow.ob (by assumption) | exact isHnd.ob (by assumption) | exact isUnt.ob (by assumption) | exact isSt.ob (by assumption) | exact isHist.ob (by assumption) | exact isTxt.ob (by assumption) | exact isLac.ob (by assumption) | exact isMea.ob (by assumption) | exact hset_s | exact (hset_n (by first | assumption | omega)).trans (by first | assumption | exact isLT.ob (by assumption) | exact isRow.ob (by assumption) | exact isHnd.ob (by assumption) | exact isUnt.ob (by assumption) | exact isSt.ob (by assumption) | exact isHist.ob (by assumption) | exact isTxt.ob (by assumption) | exact isLac.ob (by assumption) | exact isMea.ob (by assumption))))) (by first | assumption | omega) (by omega) ?_
        refine J_iload_n dL_cuts_35 (by rfl) ?_
        refine J_iconst (v := nI 2) dL_cuts_36 (by decide) ?_
        refine J_isub dL_cuts_37 ?_
        rw [pk_sub (by omega)]
        exact J_ireturn dL_cuts_38 rfl (by rfl) (⟨by rw [delP_len hk], ⟨_, hset_s, by rw [delP_len hk]; omega, fun i hi => by
          rw [delP_len hk] at hi
          rw [upd_n (by omega), upd_n (by omega), g2 i (by omega), delP_get hk]
          by_cases e : i < k
          · rw [if_pos e, if_neg (by omega)]
          · rw [if_neg e, if_pos (by omega)]⟩, fr_tr hf (fr_tr (fr_set (by omega) (by omega)) (fr_set (by omega) (by omega)))⟩)
      · rw [nI_leI (by omega) (by omega)] at c6
        exact absurd (by omega) c6
    | succ j ih =>
      intro c hh n1 f hj hc g1 g2 hf
      refine J_iload_n dL_cuts_2 (by rfl) ?_
      refine J_iconst (v := nI 2) dL_cuts_3 (by decide) ?_
      refine J_iadd dL_cuts_4 ?_
      rw [nI_add]
      refine J_iload_n dL_cuts_5 (by rfl) ?_
      refine J_icmp_ge (tgt := 23) dL_cuts_6 (by decide) (fun c6 => ?_) (fun c6 => ?_)
      · rw [nI_leI (by omega) (by omega)] at c6
        exact absurd c6 (by omega)
      · rw [nI_leI (by omega) (by omega)] at c6
        refine J_aload_n dL_cuts_9 (by rfl) ?_
        refine J_iload_n dL_cuts_10 (by rfl) ?_
        refine J_aload_n dL_cuts_11 (by rfl) ?_
        refine J_iload_n dL_cuts_12 (by rfl) ?_
        refine J_iconst (v := nI 2) dL_cuts_13 (by decide) ?_
        refine J_iadd dL_cuts_14 ?_
        rw [nI_add]
        refine J_ga dL_cuts_15 (by first | assumption | exact isLT.ob (by assumption) | exact isRow.ob (by assumption) | exact isHnd.ob (by assumption) | exact isUnt.ob (by assumption) | exact isSt.ob (by assumption) | exact isHist.ob (by assumption) | exact isTxt.ob (by assumption) | exact isLac.ob (by assumption) | exact isMea.ob (by assumption) | exact hset_s | exact (hset_n (by first | assumption | omega)).trans (by first | assumption | exact isLT.ob (by assumption) | exact isRow.ob (by assumption) | exact isHnd.ob (by assumption) | exact isUnt.ob (by assumption) | exact isSt.ob (by assumption) | exact isHist.ob (by assumption) | exact isTxt.ob (by assumption) | exact isLac.ob (by assumption) | exact isMea.ob (by assumption) | exact hset_s | exact (hset_n (by first | assumption | omega)).trans (by first | assumption | exact isLT.ob (by assumption) | exact isRow.ob (by assumption) | exact isHnd.ob (by assumption) | exact isUnt.ob (by assumption) | exact isSt.ob (by assumption) | exact isHist.ob (by assumption) | exact isTxt.ob (by assumption) | exact isLac.ob (by assumption) | exact isMea.ob (by assumption) | exact hset_s | exact (hset_n (by first | assumption | omega)).trans (by first | assumption | exact isLT.ob (by assumption) | exact isRow.ob (by assumption) | exact isHnd.ob (by assumption) | exact isUnt.ob (by assumption) | exact isSt.ob (by assumption) | exact isHist.ob (by assumption) | exact isTxt.ob (by assumption) | exact isLac.ob (by assumption) | exact isMea.ob (by assumption))))) (by first | assumption | omega) (by omega) ?_
        rw [g2 (c + 2) (by omega), if_neg (by omega)]
        refine J_pa dL_cuts_16 (by first | assumption | exact isLT.ob (by assumption) | exact isRow.ob (by assumption) | exact isHnd.ob (by assumption) | exact isUnt.ob (by assumption) | exact isSt.ob (by assumption) | exact isHist.ob (by assumption) | exact isTxt.ob (by assumption) | exact isLac.ob (by assumption) | exact isMea.ob (by assumption) | exact hset_s | exact (hset_n (by first | assumption | omega)).trans (by first | assumption | exact isLT.ob (by assumption) | exact isRow.ob (by assumption) | exact isHnd.ob (by assumption) | exact isUnt.ob (by assumption) | exact isSt.ob (by assumption) | exact isHist.ob (by assumption) | exact isTxt.ob (by assumption) | exact isLac.ob (by assumption) | exact isMea.ob (by assumption) | exact hset_s | exact (hset_n (by first | assumption | omega)).trans (by first | assumption | exact isLT.ob (by assumption) | exact isRow.ob (by assumption) | exact isHnd.ob (by assumption) | exact isUnt.ob (by assumption) | exact isSt.ob (by assumption) | exact isHist.ob (by assumption) | exact isTxt.ob (by assumption) | exact isLac.ob (by assumption) | exact isMea.ob (by assumption) | exact hset_s | exact (hset_n (by first | assumption | omega)).trans (by first | assumption | exact isLT.ob (by assumption) | exact isRow.ob (by assumption) | exact isHnd.ob (by assumption) | exact isUnt.ob (by assumption) | exact isSt.ob (by assumption) | exact isHist.ob (by assumption) | exact isTxt.ob (by assumption) | exact isLac.ob (by assumption) | exact isMea.ob (by assumption))))) (by first | assumption | omega) (by omega) ?_
        refine J_iincN dL_cuts_17 (by rfl) (by decide) (by rfl) ?_
        refine J_goto (tgt := 2) dL_cuts_20 (by decide) ?_
        exact J_sub (by repeat (first | exact subl_nil | refine subl_cons rfl ?_)) (ih (c + 1) _ _ _ (by omega) (by omega) hset_s (fun i hi => by
          by_cases e : i = c
          · subst e; rw [upd_s, if_pos (by omega)]
          · rw [upd_n e, g2 i hi]
            by_cases e2 : k ≤ i ∧ i < c
            · rw [if_pos e2, if_pos (by omega)]
            · rw [if_neg e2, if_neg (by omega)]) (fr_tr hf (fr_set (by omega) (by omega))))
  refine J_iload_n dL_cuts_0 (by rfl) ?_
  refine J_istore_n dL_cuts_1 (by decide) (by rfl) ?_
  exact J_sub (by repeat (first | exact subl_nil | refine subl_cons rfl ?_)) (loop (xs.length - 2 - k) k h n f0 (by omega) (Nat.le_refl _) h1 (fun i hi => by rw [if_neg (by omega)]; exact h3 i hi) fr_rf)
theorem lsg : ∀ z ∈ xl, ∀ y ∈ xl, (if 0 < z then rk y else -(rk y)) = sg z * rk y := by decide +kernel
theorem lsp {z y : Int32} (hz : isX z) (hy : isX y) (c : 0 < z) : rk y = sg z * rk y := by
  have := lsg z hz.xl y hy.xl
  rwa [if_pos c] at this
theorem lsn {z y : Int32} (hz : isX z) (hy : isX y) (c : ¬ 0 < z) : -(rk y) = sg z * rk y := by
  have := lsg z hz.xl y hy.xl
  rwa [if_neg c] at this
theorem row_set {f : Nat → Int32} {xs ys : List Int32} {k : Nat} {x : Int32} (hl : ys.length = xs.length) (hf : ∀ i, i < xs.length → f i = ys.getD i 0) (hk : k < xs.length) : ∀ i, i < xs.length → upd f k x i = (ys.set k x).getD i 0 := by
  intro i hi
  rw [getD_set (by omega)]
  by_cases e : i = k
  · subst e; rw [upd_s, if_pos rfl]
  · rw [upd_n e, if_neg e]; exact hf i hi
set_option maxRecDepth 20000 in
theorem sp_L_makes {G : GG} {h : HP} {r : Nat} {xs : List Int32} (w : isRA G h r xs) (hx : allX xs) {m k : Nat} (hm : m < 3) (hk : k + (if m = 2 then 3 else 2) ≤ xs.length) (n : Nat) : Sp G mm_L_makes 1 0 0 [.int (nI m), .int (nI k), .int (nI xs.length), .ref r] h n (fun v h' _ => v = some (.int (nI (mk xs m k).length)) ∧ isRA G h' r (mk xs m k) ∧ fr r (r + 1) h h') := by
  refine Sp_of (by decide +kernel) (Nat.le_of_ble_eq_true rfl) ?_
  have w0 := w
  obtain ⟨f, h1, h2, h3⟩ := w
  rcases (show m = 0 ∨ m = 1 ∨ m = 2 by omega) with rfl | rfl | rfl
  · have hk2 : k + 2 ≤ xs.length := hk
    refine J_aload_n dL_makes_0 (by rfl) ?_
    refine J_iload_n dL_makes_1 (by rfl) ?_
    refine J_ga dL_makes_2 (by first | assumption | exact isLT.ob (by assumption) | exact isRow.ob (by assumption) | exact isHnd.ob (by assumption) | exact isUnt.ob (by assumption) | exact isSt.ob (by assumption) | exact isHist.ob (by assumption) | exact isTxt.ob (by assumption) | exact isLac.ob (by assumption) | exact isMea.ob (by assumption) | exact hset_s | exact (hset_n (by first | assumption | omega)).trans (by first | assumption | exact isLT.ob (by assumption) | exact isRow.ob (by assumption) | exact isHnd.ob (by assumption) | exact isUnt.ob (by assumption) | exact isSt.ob (by assumption) | exact isHist.ob (by assumption) | exact isTxt.ob (by assumption) | exact isLac.ob (by assumption) | exact isMea.ob (by assumption) | exact hset_s | exact (hset_n (by first | assumption | omega)).trans (by first | assumption | exact isLT.ob (by assumption) | exact isRow.ob (by assumption) | exact isHnd.ob (by assumption) | exact isUnt.ob (by assumption) | exact isSt.ob (by assumption) | exact isHist.ob (by assumption) | exact isTxt.ob (by assumption) | exact isLac.ob (by assumption) | exact isMea.ob (by assumption) | exact hset_s | exact (hset_n (by first | assumption | omega)).trans (by first | assumption | exact isLT.ob (by assumption) | exact isRow.ob (by assumption) | exact isHnd.ob (by assumption) | exact isUnt.ob (by assumption) | exact isSt.ob (by assumption) | exact isHist.ob (by assumption) | exact isTxt.ob (by assumption) | exact isLac.ob (by assumption) | exact isMea.ob (by assumption))))) (by first | assumption | omega) (by omega) ?_
    refine J_istore dL_makes_3 (by decide) (by rfl) ?_
    refine J_aload_n dL_makes_5 (by rfl) ?_
    refine J_iload_n dL_makes_6 (by rfl) ?_
    refine J_iconst (v := nI 1) dL_makes_7 (by decide) ?_
    refine J_iadd dL_makes_8 ?_
    rw [nI_add]
    refine J_ga dL_makes_9 (by first | assumption | exact isLT.ob (by assumption) | exact isRow.ob (by assumption) | exact isHnd.ob (by assumption) | exact isUnt.ob (by assumption) | exact isSt.ob (by assumption) | exact isHist.ob (by assumption) | exact isTxt.ob (by assumption) | exact isLac.ob (by assumption) | exact isMea.ob (by assumption) | exact hset_s | exact (hset_n (by first | assumption | omega)).trans (by first | assumption | exact isLT.ob (by assumption) | exact isRow.ob (by assumption) | exact isHnd.ob (by assumption) | exact isUnt.ob (by assumption) | exact isSt.ob (by assumption) | exact isHist.ob (by assumption) | exact isTxt.ob (by assumption) | exact isLac.ob (by assumption) | exact isMea.ob (by assumption) | exact hset_s | exact (hset_n (by first | assumption | omega)).trans (by first | assumption | exact isLT.ob (by assumption) | exact isRow.ob (by assumption) | exact isHnd.ob (by assumption) | exact isUnt.ob (by assumption) | exact isSt.ob (by assumption) | exact isHist.ob (by assumption) | exact isTxt.ob (by assumption) | exact isLac.ob (by assumption) | exact isMea.ob (by assumption) | exact hset_s | exact (hset_n (by first | assumption | omega)).trans (by first | assumption | exact isLT.ob (by assumption) | exact isRow.ob (by assumption) | exact isHnd.ob (by assumption) | exact isUnt.ob (by assumption) | exact isSt.ob (by assumption) | exact isHist.ob (by assumption) | exact isTxt.ob (by assumption) | exact isLac.ob (by assumption) | exact isMea.ob (by assumption))))) (by first | assumption | omega) (by omega) ?_
    refine J_istore dL_makes_10 (by decide) (by rfl) ?_
    refine J_iload_n dL_makes_12 (by rfl) ?_
    refine J_if_ne (tgt := 23) dL_makes_13 (by decide) (fun c13 => ?_) (fun c13 => ?_)
    · exact absurd rfl c13
    · refine J_iload_n dL_makes_16 (by rfl) ?_
      refine J_iload_n dL_makes_17 (by rfl) ?_
      refine J_aload_n dL_makes_18 (by rfl) ?_
      refine J_callS mf_L_cuts lk_L_68 ms_L_cuts (sp_L_cuts w0 hk2 _) dL_makes_19 (by decide) (by rfl) rfl (Nat.le_of_ble_eq_true rfl) (Nat.zero_add _) (Nat.zero_add _) (fun v19 h19 n19 q19 => ?_)
      obtain ⟨rfl, w19, f19⟩ := q19
      exact J_ireturn dL_makes_22 rfl (by rfl) (⟨rfl, w19, f19⟩)
  · have hk2 : k + 2 ≤ xs.length := hk
    refine J_aload_n dL_makes_0 (by rfl) ?_
    refine J_iload_n dL_makes_1 (by rfl) ?_
    refine J_ga dL_makes_2 (by first | assumption | exact isLT.ob (by assumption) | exact isRow.ob (by assumption) | exact isHnd.ob (by assumption) | exact isUnt.ob (by assumption) | exact isSt.ob (by assumption) | exact isHist.ob (by assumption) | exact isTxt.ob (by assumption) | exact isLac.ob (by assumption) | exact isMea.ob (by assumption) | exact hset_s | exact (hset_n (by first | assumption | omega)).trans (by first | assumption | exact isLT.ob (by assumption) | exact isRow.ob (by assumption) | exact isHnd.ob (by assumption) | exact isUnt.ob (by assumption) | exact isSt.ob (by assumption) | exact isHist.ob (by assumption) | exact isTxt.ob (by assumption) | exact isLac.ob (by assumption) | exact isMea.ob (by assumption) | exact hset_s | exact (hset_n (by first | assumption | omega)).trans (by first | assumption | exact isLT.ob (by assumption) | exact isRow.ob (by assumption) | exact isHnd.ob (by assumption) | exact isUnt.ob (by assumption) | exact isSt.ob (by assumption) | exact isHist.ob (by assumption) | exact isTxt.ob (by assumption) | exact isLac.ob (by assumption) | exact isMea.ob (by assumption) | exact hset_s | exact (hset_n (by first | assumption | omega)).trans (by first | assumption | exact isLT.ob (by assumption) | exact isRow.ob (by assumption) | exact isHnd.ob (by assumption) | exact isUnt.ob (by assumption) | exact isSt.ob (by assumption) | exact isHist.ob (by assumption) | exact isTxt.ob (by assumption) | exact isLac.ob (by assumption) | exact isMea.ob (by assumption))))) (by first | assumption | omega) (by omega) ?_
    rw [h3 k (by omega)]
    refine J_istore dL_makes_3 (by decide) (by rfl) ?_
    refine J_aload_n dL_makes_5 (by rfl) ?_
    refine J_iload_n dL_makes_6 (by rfl) ?_
    refine J_iconst (v := nI 1) dL_makes_7 (by decide) ?_
    refine J_iadd dL_makes_8 ?_
    rw [nI_add]
    refine J_ga dL_makes_9 (by first | assumption | exact isLT.ob (by assumption) | exact isRow.ob (by assumption) | exact isHnd.ob (by assumption) | exact isUnt.ob (by assumption) | exact isSt.ob (by assumption) | exact isHist.ob (by assumption) | exact isTxt.ob (by assumption) | exact isLac.ob (by assumption) | exact isMea.ob (by assumption) | exact hset_s | exact (hset_n (by first | assumption | omega)).trans (by first | assumption | exact isLT.ob (by assumption) | exact isRow.ob (by assumption) | exact isHnd.ob (by assumption) | exact isUnt.ob (by assumption) | exact isSt.ob (by assumption) | exact isHist.ob (by assumption) | exact isTxt.ob (by assumption) | exact isLac.ob (by assumption) | exact isMea.ob (by assumption) | exact hset_s | exact (hset_n (by first | assumption | omega)).trans (by first | assumption | exact isLT.ob (by assumption) | exact isRow.ob (by assumption) | exact isHnd.ob (by assumption) | exact isUnt.ob (by assumption) | exact isSt.ob (by assumption) | exact isHist.ob (by assumption) | exact isTxt.ob (by assumption) | exact isLac.ob (by assumption) | exact isMea.ob (by assumption) | exact hset_s | exact (hset_n (by first | assumption | omega)).trans (by first | assumption | exact isLT.ob (by assumption) | exact isRow.ob (by assumption) | exact isHnd.ob (by assumption) | exact isUnt.ob (by assumption) | exact isSt.ob (by assumption) | exact isHist.ob (by assumption) | exact isTxt.ob (by assumption) | exact isLac.ob (by assumption) | exact isMea.ob (by assumption))))) (by first | assumption | omega) (by omega) ?_
    rw [h3 (k + 1) (by omega)]
    refine J_istore dL_makes_10 (by decide) (by rfl) ?_
    refine J_iload_n dL_makes_12 (by rfl) ?_
    refine J_if_ne (tgt := 23) dL_makes_13 (by decide) (fun c13 => ?_) (fun c13 => ?_)
    · refine J_iload_n dL_makes_23 (by rfl) ?_
      refine J_iconst (v := 1) dL_makes_24 (by decide) ?_
      refine J_icmp_ne (tgt := 42) dL_makes_25 (by decide) (fun c25 => ?_) (fun c25 => ?_)
      · exact absurd rfl c25
      · refine J_aload_n dL_makes_28 (by rfl) ?_
        refine J_iload_n dL_makes_29 (by rfl) ?_
        refine J_iload dL_makes_30 (by rfl) ?_
        refine J_pa dL_makes_32 (by first | assumption | exact isLT.ob (by assumption) | exact isRow.ob (by assumption) | exact isHnd.ob (by assumption) | exact isUnt.ob (by assumption) | exact isSt.ob (by assumption) | exact isHist.ob (by assumption) | exact isTxt.ob (by assumption) | exact isLac.ob (by assumption) | exact isMea.ob (by assumption) | exact hset_s | exact (hset_n (by first | assumption | omega)).trans (by first | assumption | exact isLT.ob (by assumption) | exact isRow.ob (by assumption) | exact isHnd.ob (by assumption) | exact isUnt.ob (by assumption) | exact isSt.ob (by assumption) | exact isHist.ob (by assumption) | exact isTxt.ob (by assumption) | exact isLac.ob (by assumption) | exact isMea.ob (by assumption) | exact hset_s | exact (hset_n (by first | assumption | omega)).trans (by first | assumption | exact isLT.ob (by assumption) | exact isRow.ob (by assumption) | exact isHnd.ob (by assumption) | exact isUnt.ob (by assumption) | exact isSt.ob (by assumption) | exact isHist.ob (by assumption) | exact isTxt.ob (by assumption) | exact isLac.ob (by assumption) | exact isMea.ob (by assumption) | exact hset_s | exact (hset_n (by first | assumption | omega)).trans (by first | assumption | exact isLT.ob (by assumption) | exact isRow.ob (by assumption) | exact isHnd.ob (by assumption) | exact isUnt.ob (by assumption) | exact isSt.ob (by assumption) | exact isHist.ob (by assumption) | exact isTxt.ob (by assumption) | exact isLac.ob (by assumption) | exact isMea.ob (by assumption))))) (by first | assumption | omega) (by omega) ?_
        refine J_aload_n dL_makes_33 (by rfl) ?_
        refine J_iload_n dL_makes_34 (by rfl) ?_
        refine J_iconst (v := nI 1) dL_makes_35 (by decide) ?_
        refine J_iadd dL_makes_36 ?_
        rw [nI_add]
        refine J_iload dL_makes_37 (by rfl) ?_
        refine J_pa dL_makes_39 (by first | assumption | exact isLT.ob (by assumption) | exact isRow.ob (by assumption) | exact isHnd.ob (by assumption) | exact isUnt.ob (by assumption) | exact isSt.ob (by assumption) | exact isHist.ob (by assumption) | exact isTxt.ob (by assumption) | exact isLac.ob (by assumption) | exact isMea.ob (by assumption) | exact hset_s | exact (hset_n (by first | assumption | omega)).trans (by first | assumption | exact isLT.ob (by assumption) | exact isRow.ob (by assumption) | exact isHnd.ob (by assumption) | exact isUnt.ob (by assumption) | exact isSt.ob (by assumption) | exact isHist.ob (by assumption) | exact isTxt.ob (by assumption) | exact isLac.ob (by assumption) | exact isMea.ob (by assumption) | exact hset_s | exact (hset_n (by first | assumption | omega)).trans (by first | assumption | exact isLT.ob (by assumption) | exact isRow.ob (by assumption) | exact isHnd.ob (by assumption) | exact isUnt.ob (by assumption) | exact isSt.ob (by assumption) | exact isHist.ob (by assumption) | exact isTxt.ob (by assumption) | exact isLac.ob (by assumption) | exact isMea.ob (by assumption) | exact hset_s | exact (hset_n (by first | assumption | omega)).trans (by first | assumption | exact isLT.ob (by assumption) | exact isRow.ob (by assumption) | exact isHnd.ob (by assumption) | exact isUnt.ob (by assumption) | exact isSt.ob (by assumption) | exact isHist.ob (by assumption) | exact isTxt.ob (by assumption) | exact isLac.ob (by assumption) | exact isMea.ob (by assumption))))) (by first | assumption | omega) (by omega) ?_
        refine J_iload_n dL_makes_40 (by rfl) ?_
        exact J_ireturn dL_makes_41 rfl (by rfl) (⟨by rw [mk, if_neg (by decide), if_pos rfl, List.length_set, List.length_set], ⟨_, hset_s, by rw [mk, if_neg (by decide), if_pos rfl, List.length_set, List.length_set]; exact h2, fun i hi => by
          rw [mk, if_neg (by decide), if_pos rfl, List.length_set, List.length_set] at hi
          rw [mk, if_neg (by decide), if_pos rfl]
          exact row_set (List.length_set) (row_set rfl h3 (by omega)) (by omega) i hi⟩, fr_tr (fr_set (by omega) (by omega)) (fr_set (by omega) (by omega))⟩)
    · exact absurd c13 (by decide)
  · have hk2 : k + 3 ≤ xs.length := hk
    have x0 := hx k (by omega)
    have x1 := hx (k + 1) (by omega)
    have x2 := hx (k + 2) (by omega)
    have fin : ∀ a b c : Int32, a = sg (xs.getD (k + 2) 0) * rk (xs.getD (k + 1) 0) → b = sg (xs.getD (k + 1) 0) * rk (xs.getD k 0) → c = sg (xs.getD k 0) * rk (xs.getD (k + 1) 0) → isRA G (hset (hset (hset h r (.inl (G.2.1 0, 32, .inl (upd f k a)))) r (.inl (G.2.1 0, 32, .inl (upd (upd f k a) (k + 1) b)))) r (.inl (G.2.1 0, 32, .inl (upd (upd (upd f k a) (k + 1) b) (k + 2) c)))) r (mk xs 2 k) := by
      intro a b c ha hb hc
      have e : mk xs 2 k = ((xs.set k a).set (k + 1) b).set (k + 2) c := by rw [mk, if_neg (by decide), if_neg (by decide), ← ha, ← hb, ← hc]
      rw [e]
      refine ⟨_, hset_s, by rw [List.length_set, List.length_set, List.length_set]; exact h2, fun i hi => ?_⟩
      rw [List.length_set, List.length_set, List.length_set] at hi
      exact row_set (by rw [List.length_set, List.length_set]) (row_set List.length_set (row_set rfl h3 (by omega)) (by omega)) (by omega) i hi
    have fl : (mk xs 2 k).length = xs.length := by rw [mk, if_neg (by decide), if_neg (by decide), List.length_set, List.length_set, List.length_set]
    have ff : ∀ e1 e2 e3 : va_E, fr r (r + 1) h (hset (hset (hset h r e1) r e2) r e3) := fun _ _ _ => fr_tr (fr_set (by omega) (by omega)) (fr_tr (fr_set (by omega) (by omega)) (fr_set (by omega) (by omega)))
    refine J_aload_n dL_makes_0 (by rfl) ?_
    refine J_iload_n dL_makes_1 (by rfl) ?_
    refine J_ga dL_makes_2 (by first | assumption | exact isLT.ob (by assumption) | exact isRow.ob (by assumption) | exact isHnd.ob (by assumption) | exact isUnt.ob (by assumption) | exact isSt.ob (by assumption) | exact isHist.ob (by assumption) | exact isTxt.ob (by assumption) | exact isLac.ob (by assumption) | exact isMea.ob (by assumption) | exact hset_s | exact (hset_n (by first | assumption | omega)).trans (by first | assumption | exact isLT.ob (by assumption) | exact isRow.ob (by assumption) | exact isHnd.ob (by assumption) | exact isUnt.ob (by assumption) | exact isSt.ob (by assumption) | exact isHist.ob (by assumption) | exact isTxt.ob (by assumption) | exact isLac.ob (by assumption) | exact isMea.ob (by assumption) | exact hset_s | exact (hset_n (by first | assumption | omega)).trans (by first | assumption | exact isLT.ob (by assumption) | exact isRow.ob (by assumption) | exact isHnd.ob (by assumption) | exact isUnt.ob (by assumption) | exact isSt.ob (by assumption) | exact isHist.ob (by assumption) | exact isTxt.ob (by assumption) | exact isLac.ob (by assumption) | exact isMea.ob (by assumption) | exact hset_s | exact (hset_n (by first | assumption | omega)).trans (by first | assumption | exact isLT.ob (by assumption) | exact isRow.ob (by assumption) | exact isHnd.ob (by assumption) | exact isUnt.ob (by assumption) | exact isSt.ob (by assumption) | exact isHist.ob (by assumption) | exact isTxt.ob (by assumption) | exact isLac.ob (by assumption) | exact isMea.ob (by assumption))))) (by first | assumption | omega) (by omega) ?_
    rw [h3 k (by omega)]
    refine J_istore dL_makes_3 (by decide) (by rfl) ?_
    refine J_aload_n dL_makes_5 (by rfl) ?_
    refine J_iload_n dL_makes_6 (by rfl) ?_
    refine J_iconst (v := nI 1) dL_makes_7 (by decide) ?_
    refine J_iadd dL_makes_8 ?_
    rw [nI_add]
    refine J_ga dL_makes_9 (by first | assumption | exact isLT.ob (by assumption) | exact isRow.ob (by assumption) | exact isHnd.ob (by assumption) | exact isUnt.ob (by assumption) | exact isSt.ob (by assumption) | exact isHist.ob (by assumption) | exact isTxt.ob (by assumption) | exact isLac.ob (by assumption) | exact isMea.ob (by assumption) | exact hset_s | exact (hset_n (by first | assumption | omega)).trans (by first | assumption | exact isLT.ob (by assumption) | exact isRow.ob (by assumption) | exact isHnd.ob (by assumption) | exact isUnt.ob (by assumption) | exact isSt.ob (by assumption) | exact isHist.ob (by assumption) | exact isTxt.ob (by assumption) | exact isLac.ob (by assumption) | exact isMea.ob (by assumption) | exact hset_s | exact (hset_n (by first | assumption | omega)).trans (by first | assumption | exact isLT.ob (by assumption) | exact isRow.ob (by assumption) | exact isHnd.ob (by assumption) | exact isUnt.ob (by assumption) | exact isSt.ob (by assumption) | exact isHist.ob (by assumption) | exact isTxt.ob (by assumption) | exact isLac.ob (by assumption) | exact isMea.ob (by assumption) | exact hset_s | exact (hset_n (by first | assumption | omega)).trans (by first | assumption | exact isLT.ob (by assumption) | exact isRow.ob (by assumption) | exact isHnd.ob (by assumption) | exact isUnt.ob (by assumption) | exact isSt.ob (by assumption) | exact isHist.ob (by assumption) | exact isTxt.ob (by assumption) | exact isLac.ob (by assumption) | exact isMea.ob (by assumption))))) (by first | assumption | omega) (by omega) ?_
    rw [h3 (k + 1) (by omega)]
    refine J_istore dL_makes_10 (by decide) (by rfl) ?_
    refine J_iload_n dL_makes_12 (by rfl) ?_
    refine J_if_ne (tgt := 23) dL_makes_13 (by decide) (fun c13 => ?_) (fun c13 => ?_)
    · refine J_iload_n dL_makes_23 (by rfl) ?_
      refine J_iconst (v := 1) dL_makes_24 (by decide) ?_
      refine J_icmp_ne (tgt := 42) dL_makes_25 (by decide) (fun c25 => ?_) (fun c25 => ?_)
      · refine J_aload_n dL_makes_42 (by rfl) ?_
        refine J_iload_n dL_makes_43 (by rfl) ?_
        refine J_iconst (v := nI 2) dL_makes_44 (by decide) ?_
        refine J_iadd dL_makes_45 ?_
        rw [nI_add]
        refine J_ga dL_makes_46 (by first | assumption | exact isLT.ob (by assumption) | exact isRow.ob (by assumption) | exact isHnd.ob (by assumption) | exact isUnt.ob (by assumption) | exact isSt.ob (by assumption) | exact isHist.ob (by assumption) | exact isTxt.ob (by assumption) | exact isLac.ob (by assumption) | exact isMea.ob (by assumption) | exact hset_s | exact (hset_n (by first | assumption | omega)).trans (by first | assumption | exact isLT.ob (by assumption) | exact isRow.ob (by assumption) | exact isHnd.ob (by assumption) | exact isUnt.ob (by assumption) | exact isSt.ob (by assumption) | exact isHist.ob (by assumption) | exact isTxt.ob (by assumption) | exact isLac.ob (by assumption) | exact isMea.ob (by assumption) | exact hset_s | exact (hset_n (by first | assumption | omega)).trans (by first | assumption | exact isLT.ob (by assumption) | exact isRow.ob (by assumption) | exact isHnd.ob (by assumption) | exact isUnt.ob (by assumption) | exact isSt.ob (by assumption) | exact isHist.ob (by assumption) | exact isTxt.ob (by assumption) | exact isLac.ob (by assumption) | exact isMea.ob (by assumption) | exact hset_s | exact (hset_n (by first | assumption | omega)).trans (by first | assumption | exact isLT.ob (by assumption) | exact isRow.ob (by assumption) | exact isHnd.ob (by assumption) | exact isUnt.ob (by assumption) | exact isSt.ob (by assumption) | exact isHist.ob (by assumption) | exact isTxt.ob (by assumption) | exact isLac.ob (by assumption) | exact isMea.ob (by assumption))))) (by first | assumption | omega) (by omega) ?_
        rw [h3 (k + 2) (by omega)]
        refine J_istore dL_makes_47 (by decide) (by rfl) ?_
        refine J_aload_n dL_makes_49 (by rfl) ?_
        refine J_iload_n dL_makes_50 (by rfl) ?_
        refine J_iload dL_makes_51 (by rfl) ?_
        refine J_if_le (tgt := 64) dL_makes_53 (by decide) (fun c53 => ?_) (fun c53 => ?_)
        · refine J_iload dL_makes_64 (by rfl) ?_
          refine J_callS mf_L_rank lk_L_63 ms_L_rank (sp_L_rank _ (xs.getD (k + 1) 0) _) dL_makes_66 (by decide) (by rfl) rfl (Nat.le_of_ble_eq_true rfl) (Nat.zero_add _) (Nat.zero_add _) (fun v66 h66 n66 q66 => ?_)
          obtain ⟨rfl, rfl⟩ := q66
          refine J_ineg dL_makes_69 ?_
          refine J_pa dL_makes_70 (by first | assumption | exact isLT.ob (by assumption) | exact isRow.ob (by assumption) | exact isHnd.ob (by assumption) | exact isUnt.ob (by assumption) | exact isSt.ob (by assumption) | exact isHist.ob (by assumption) | exact isTxt.ob (by assumption) | exact isLac.ob (by assumption) | exact isMea.ob (by assumption) | exact hset_s | exact (hset_n (by first | assumption | omega)).trans (by first | assumption | exact isLT.ob (by assumption) | exact isRow.ob (by assumption) | exact isHnd.ob (by assumption) | exact isUnt.ob (by assumption) | exact isSt.ob (by assumption) | exact isHist.ob (by assumption) | exact isTxt.ob (by assumption) | exact isLac.ob (by assumption) | exact isMea.ob (by assumption) | exact hset_s | exact (hset_n (by first | assumption | omega)).trans (by first | assumption | exact isLT.ob (by assumption) | exact isRow.ob (by assumption) | exact isHnd.ob (by assumption) | exact isUnt.ob (by assumption) | exact isSt.ob (by assumption) | exact isHist.ob (by assumption) | exact isTxt.ob (by assumption) | exact isLac.ob (by assumption) | exact isMea.ob (by assumption) | exact hset_s | exact (hset_n (by first | assumption | omega)).trans (by first | assumption | exact isLT.ob (by assumption) | exact isRow.ob (by assumption) | exact isHnd.ob (by assumption) | exact isUnt.ob (by assumption) | exact isSt.ob (by assumption) | exact isHist.ob (by assumption) | exact isTxt.ob (by assumption) | exact isLac.ob (by assumption) | exact isMea.ob (by assumption))))) (by first | assumption | omega) (by omega) ?_
          refine J_aload_n dL_makes_71 (by rfl) ?_
          refine J_iload_n dL_makes_72 (by rfl) ?_
          refine J_iconst (v := nI 1) dL_makes_73 (by decide) ?_
          refine J_iadd dL_makes_74 ?_
          rw [nI_add]
          refine J_iload dL_makes_75 (by rfl) ?_
          refine J_if_le (tgt := 88) dL_makes_77 (by decide) (fun c77 => ?_) (fun c77 => ?_)
          · refine J_iload dL_makes_88 (by rfl) ?_
            refine J_callS mf_L_rank lk_L_63 ms_L_rank (sp_L_rank _ (xs.getD k 0) _) dL_makes_90 (by decide) (by rfl) rfl (Nat.le_of_ble_eq_true rfl) (Nat.zero_add _) (Nat.zero_add _) (fun v90 h90 n90 q90 => ?_)
            obtain ⟨rfl, rfl⟩ := q90
            refine J_ineg dL_makes_93 ?_
            refine J_pa dL_makes_94 (by first | assumption | exact isLT.ob (by assumption) | exact isRow.ob (by assumption) | exact isHnd.ob (by assumption) | exact isUnt.ob (by assumption) | exact isSt.ob (by assumption) | exact isHist.ob (by assumption) | exact isTxt.ob (by assumption) | exact isLac.ob (by assumption) | exact isMea.ob (by assumption) | exact hset_s | exact (hset_n (by first | assumption | omega)).trans (by first | assumption | exact isLT.ob (by assumption) | exact isRow.ob (by assumption) | exact isHnd.ob (by assumption) | exact isUnt.ob (by assumption) | exact isSt.ob (by assumption) | exact isHist.ob (by assumption) | exact isTxt.ob (by assumption) | exact isLac.ob (by assumption) | exact isMea.ob (by assumption) | exact hset_s | exact (hset_n (by first | assumption | omega)).trans (by first | assumption | exact isLT.ob (by assumption) | exact isRow.ob (by assumption) | exact isHnd.ob (by assumption) | exact isUnt.ob (by assumption) | exact isSt.ob (by assumption) | exact isHist.ob (by assumption) | exact isTxt.ob (by assumption) | exact isLac.ob (by assumption) | exact isMea.ob (by assumption) | exact hset_s | exact (hset_n (by first | assumption | omega)).trans (by first | assumption | exact isLT.ob (by assumption) | exact isRow.ob (by assumption) | exact isHnd.ob (by assumption) | exact isUnt.ob (by assumption) | exact isSt.ob (by assumption) | exact isHist.ob (by assumption) | exact isTxt.ob (by assumption) | exact isLac.ob (by assumption) | exact isMea.ob (by assumption))))) (by first | assumption | omega) (by omega) ?_
            refine J_aload_n dL_makes_95 (by rfl) ?_
            refine J_iload_n dL_makes_96 (by rfl) ?_
            refine J_iconst (v := nI 2) dL_makes_97 (by decide) ?_
            refine J_iadd dL_makes_98 ?_
            rw [nI_add]
            refine J_iload dL_makes_99 (by rfl) ?_
            refine J_if_le (tgt := 112) dL_makes_101 (by decide) (fun c101 => ?_) (fun c101 => ?_)
            · refine J_iload dL_makes_112 (by rfl) ?_
              refine J_callS mf_L_rank lk_L_63 ms_L_rank (sp_L_rank _ (xs.getD (k + 1) 0) _) dL_makes_114 (by decide) (by rfl) rfl (Nat.le_of_ble_eq_true rfl) (Nat.zero_add _) (Nat.zero_add _) (fun v114 h114 n114 q114 => ?_)
              obtain ⟨rfl, rfl⟩ := q114
              refine J_ineg dL_makes_117 ?_
              refine J_pa dL_makes_118 (by first | assumption | exact isLT.ob (by assumption) | exact isRow.ob (by assumption) | exact isHnd.ob (by assumption) | exact isUnt.ob (by assumption) | exact isSt.ob (by assumption) | exact isHist.ob (by assumption) | exact isTxt.ob (by assumption) | exact isLac.ob (by assumption) | exact isMea.ob (by assumption) | exact hset_s | exact (hset_n (by first | assumption | omega)).trans (by first | assumption | exact isLT.ob (by assumption) | exact isRow.ob (by assumption) | exact isHnd.ob (by assumption) | exact isUnt.ob (by assumption) | exact isSt.ob (by assumption) | exact isHist.ob (by assumption) | exact isTxt.ob (by assumption) | exact isLac.ob (by assumption) | exact isMea.ob (by assumption) | exact hset_s | exact (hset_n (by first | assumption | omega)).trans (by first | assumption | exact isLT.ob (by assumption) | exact isRow.ob (by assumption) | exact isHnd.ob (by assumption) | exact isUnt.ob (by assumption) | exact isSt.ob (by assumption) | exact isHist.ob (by assumption) | exact isTxt.ob (by assumption) | exact isLac.ob (by assumption) | exact isMea.ob (by assumption) | exact hset_s | exact (hset_n (by first | assumption | omega)).trans (by first | assumption | exact isLT.ob (by assumption) | exact isRow.ob (by assumption) | exact isHnd.ob (by assumption) | exact isUnt.ob (by assumption) | exact isSt.ob (by assumption) | exact isHist.ob (by assumption) | exact isTxt.ob (by assumption) | exact isLac.ob (by assumption) | exact isMea.ob (by assumption))))) (by first | assumption | omega) (by omega) ?_
              refine J_iload_n dL_makes_119 (by rfl) ?_
              exact J_ireturn dL_makes_120 rfl (by rfl) (⟨by rw [fl], fin _ _ _ (by first | exact lsp x2 x1 (Int32.not_le.mp c53) | exact lsn x2 x1 (Int32.not_lt.mpr c53)) (by first | exact lsp x1 x0 (Int32.not_le.mp c77) | exact lsn x1 x0 (Int32.not_lt.mpr c77)) (by first | exact lsp x0 x1 (Int32.not_le.mp c101) | exact lsn x0 x1 (Int32.not_lt.mpr c101)), ff _ _ _⟩)
            · refine J_iload dL_makes_104 (by rfl) ?_
              refine J_callS mf_L_rank lk_L_63 ms_L_rank (sp_L_rank _ (xs.getD (k + 1) 0) _) dL_makes_106 (by decide) (by rfl) rfl (Nat.le_of_ble_eq_true rfl) (Nat.zero_add _) (Nat.zero_add _) (fun v106 h106 n106 q106 => ?_)
              obtain ⟨rfl, rfl⟩ := q106
              refine J_goto (tgt := 118) dL_makes_109 (by decide) ?_
              refine J_pa dL_makes_118 (by first | assumption | exact isLT.ob (by assumption) | exact isRow.ob (by assumption) | exact isHnd.ob (by assumption) | exact isUnt.ob (by assumption) | exact isSt.ob (by assumption) | exact isHist.ob (by assumption) | exact isTxt.ob (by assumption) | exact isLac.ob (by assumption) | exact isMea.ob (by assumption) | exact hset_s | exact (hset_n (by first | assumption | omega)).trans (by first | assumption | exact isLT.ob (by assumption) | exact isRow.ob (by assumption) | exact isHnd.ob (by assumption) | exact isUnt.ob (by assumption) | exact isSt.ob (by assumption) | exact isHist.ob (by assumption) | exact isTxt.ob (by assumption) | exact isLac.ob (by assumption) | exact isMea.ob (by assumption) | exact hset_s | exact (hset_n (by first | assumption | omega)).trans (by first | assumption | exact isLT.ob (by assumption) | exact isRow.ob (by assumption) | exact isHnd.ob (by assumption) | exact isUnt.ob (by assumption) | exact isSt.ob (by assumption) | exact isHist.ob (by assumption) | exact isTxt.ob (by assumption) | exact isLac.ob (by assumption) | exact isMea.ob (by assumption) | exact hset_s | exact (hset_n (by first | assumption | omega)).trans (by first | assumption | exact isLT.ob (by assumption) | exact isRow.ob (by assumption) | exact isHnd.ob (by assumption) | exact isUnt.ob (by assumption) | exact isSt.ob (by assumption) | exact isHist.ob (by assumption) | exact isTxt.ob (by assumption) | exact isLac.ob (by assumption) | exact isMea.ob (by assumption))))) (by first | assumption | omega) (by omega) ?_
              refine J_iload_n dL_makes_119 (by rfl) ?_
              exact J_ireturn dL_makes_120 rfl (by rfl) (⟨by rw [fl], fin _ _ _ (by first | exact lsp x2 x1 (Int32.not_le.mp c53) | exact lsn x2 x1 (Int32.not_lt.mpr c53)) (by first | exact lsp x1 x0 (Int32.not_le.mp c77) | exact lsn x1 x0 (Int32.not_lt.mpr c77)) (by first | exact lsp x0 x1 (Int32.not_le.mp c101) | exact lsn x0 x1 (Int32.not_lt.mpr c101)), ff _ _ _⟩)
          · refine J_iload dL_makes_80 (by rfl) ?_
            refine J_callS mf_L_rank lk_L_63 ms_L_rank (sp_L_rank _ (xs.getD k 0) _) dL_makes_82 (by decide) (by rfl) rfl (Nat.le_of_ble_eq_true rfl) (Nat.zero_add _) (Nat.zero_add _) (fun v82 h82 n82 q82 => ?_)
            obtain ⟨rfl, rfl⟩ := q82
            refine J_goto (tgt := 94) dL_makes_85 (by decide) ?_
            refine J_pa dL_makes_94 (by first | assumption | exact isLT.ob (by assumption) | exact isRow.ob (by assumption) | exact isHnd.ob (by assumption) | exact isUnt.ob (by assumption) | exact isSt.ob (by assumption) | exact isHist.ob (by assumption) | exact isTxt.ob (by assumption) | exact isLac.ob (by assumption) | exact isMea.ob (by assumption) | exact hset_s | exact (hset_n (by first | assumption | omega)).trans (by first | assumption | exact isLT.ob (by assumption) | exact isRow.ob (by assumption) | exact isHnd.ob (by assumption) | exact isUnt.ob (by assumption) | exact isSt.ob (by assumption) | exact isHist.ob (by assumption) | exact isTxt.ob (by assumption) | exact isLac.ob (by assumption) | exact isMea.ob (by assumption) | exact hset_s | exact (hset_n (by first | assumption | omega)).trans (by first | assumption | exact isLT.ob (by assumption) | exact isRow.ob (by assumption) | exact isHnd.ob (by assumption) | exact isUnt.ob (by assumption) | exact isSt.ob (by assumption) | exact isHist.ob (by assumption) | exact isTxt.ob (by assumption) | exact isLac.ob (by assumption) | exact isMea.ob (by assumption) | exact hset_s | exact (hset_n (by first | assumption | omega)).trans (by first | assumption | exact isLT.ob (by assumption) | exact isRow.ob (by assumption) | exact isHnd.ob (by assumption) | exact isUnt.ob (by assumption) | exact isSt.ob (by assumption) | exact isHist.ob (by assumption) | exact isTxt.ob (by assumption) | exact isLac.ob (by assumption) | exact isMea.ob (by assumption))))) (by first | assumption | omega) (by omega) ?_
            refine J_aload_n dL_makes_95 (by rfl) ?_
            refine J_iload_n dL_makes_96 (by rfl) ?_
            refine J_iconst (v := nI 2) dL_makes_97 (by decide) ?_
            refine J_iadd dL_makes_98 ?_
            rw [nI_add]
            refine J_iload dL_makes_99 (by rfl) ?_
            refine J_if_le (tgt := 112) dL_makes_101 (by decide) (fun c101 => ?_) (fun c101 => ?_)
            · refine J_iload dL_makes_112 (by rfl) ?_
              refine J_callS mf_L_rank lk_L_63 ms_L_rank (sp_L_rank _ (xs.getD (k + 1) 0) _) dL_makes_114 (by decide) (by rfl) rfl (Nat.le_of_ble_eq_true rfl) (Nat.zero_add _) (Nat.zero_add _) (fun v114 h114 n114 q114 => ?_)
              obtain ⟨rfl, rfl⟩ := q114
              refine J_ineg dL_makes_117 ?_
              refine J_pa dL_makes_118 (by first | assumption | exact isLT.ob (by assumption) | exact isRow.ob (by assumption) | exact isHnd.ob (by assumption) | exact isUnt.ob (by assumption) | exact isSt.ob (by assumption) | exact isHist.ob (by assumption) | exact isTxt.ob (by assumption) | exact isLac.ob (by assumption) | exact isMea.ob (by assumption) | exact hset_s | exact (hset_n (by first | assumption | omega)).trans (by first | assumption | exact isLT.ob (by assumption) | exact isRow.ob (by assumption) | exact isHnd.ob (by assumption) | exact isUnt.ob (by assumption) | exact isSt.ob (by assumption) | exact isHist.ob (by assumption) | exact isTxt.ob (by assumption) | exact isLac.ob (by assumption) | exact isMea.ob (by assumption) | exact hset_s | exact (hset_n (by first | assumption | omega)).trans (by first | assumption | exact isLT.ob (by assumption) | exact isRow.ob (by assumption) | exact isHnd.ob (by assumption) | exact isUnt.ob (by assumption) | exact isSt.ob (by assumption) | exact isHist.ob (by assumption) | exact isTxt.ob (by assumption) | exact isLac.ob (by assumption) | exact isMea.ob (by assumption) | exact hset_s | exact (hset_n (by first | assumption | omega)).trans (by first | assumption | exact isLT.ob (by assumption) | exact isRow.ob (by assumption) | exact isHnd.ob (by assumption) | exact isUnt.ob (by assumption) | exact isSt.ob (by assumption) | exact isHist.ob (by assumption) | exact isTxt.ob (by assumption) | exact isLac.ob (by assumption) | exact isMea.ob (by assumption))))) (by first | assumption | omega) (by omega) ?_
              refine J_iload_n dL_makes_119 (by rfl) ?_
              exact J_ireturn dL_makes_120 rfl (by rfl) (⟨by rw [fl], fin _ _ _ (by first | exact lsp x2 x1 (Int32.not_le.mp c53) | exact lsn x2 x1 (Int32.not_lt.mpr c53)) (by first | exact lsp x1 x0 (Int32.not_le.mp c77) | exact lsn x1 x0 (Int32.not_lt.mpr c77)) (by first | exact lsp x0 x1 (Int32.not_le.mp c101) | exact lsn x0 x1 (Int32.not_lt.mpr c101)), ff _ _ _⟩)
            · refine J_iload dL_makes_104 (by rfl) ?_
              refine J_callS mf_L_rank lk_L_63 ms_L_rank (sp_L_rank _ (xs.getD (k + 1) 0) _) dL_makes_106 (by decide) (by rfl) rfl (Nat.le_of_ble_eq_true rfl) (Nat.zero_add _) (Nat.zero_add _) (fun v106 h106 n106 q106 => ?_)
              obtain ⟨rfl, rfl⟩ := q106
              refine J_goto (tgt := 118) dL_makes_109 (by decide) ?_
              refine J_pa dL_makes_118 (by first | assumption | exact isLT.ob (by assumption) | exact isRow.ob (by assumption) | exact isHnd.ob (by assumption) | exact isUnt.ob (by assumption) | exact isSt.ob (by assumption) | exact isHist.ob (by assumption) | exact isTxt.ob (by assumption) | exact isLac.ob (by assumption) | exact isMea.ob (by assumption) | exact hset_s | exact (hset_n (by first | assumption | omega)).trans (by first | assumption | exact isLT.ob (by assumption) | exact isRow.ob (by assumption) | exact isHnd.ob (by assumption) | exact isUnt.ob (by assumption) | exact isSt.ob (by assumption) | exact isHist.ob (by assumption) | exact isTxt.ob (by assumption) | exact isLac.ob (by assumption) | exact isMea.ob (by assumption) | exact hset_s | exact (hset_n (by first | assumption | omega)).trans (by first | assumption | exact isLT.ob (by assumption) | exact isRow.ob (by assumption) | exact isHnd.ob (by assumption) | exact isUnt.ob (by assumption) | exact isSt.ob (by assumption) | exact isHist.ob (by assumption) | exact isTxt.ob (by assumption) | exact isLac.ob (by assumption) | exact isMea.ob (by assumption) | exact hset_s | exact (hset_n (by first | assumption | omega)).trans (by first | assumption | exact isLT.ob (by assumption) | exact isRow.ob (by assumption) | exact isHnd.ob (by assumption) | exact isUnt.ob (by assumption) | exact isSt.ob (by assumption) | exact isHist.ob (by assumption) | exact isTxt.ob (by assumption) | exact isLac.ob (by assumption) | exact isMea.ob (by assumption))))) (by first | assumption | omega) (by omega) ?_
              refine J_iload_n dL_makes_119 (by rfl) ?_
              exact J_ireturn dL_makes_120 rfl (by rfl) (⟨by rw [fl], fin _ _ _ (by first | exact lsp x2 x1 (Int32.not_le.mp c53) | exact lsn x2 x1 (Int32.not_lt.mpr c53)) (by first | exact lsp x1 x0 (Int32.not_le.mp c77) | exact lsn x1 x0 (Int32.not_lt.mpr c77)) (by first | exact lsp x0 x1 (Int32.not_le.mp c101) | exact lsn x0 x1 (Int32.not_lt.mpr c101)), ff _ _ _⟩)
        · refine J_iload dL_makes_56 (by rfl) ?_
          refine J_callS mf_L_rank lk_L_63 ms_L_rank (sp_L_rank _ (xs.getD (k + 1) 0) _) dL_makes_58 (by decide) (by rfl) rfl (Nat.le_of_ble_eq_true rfl) (Nat.zero_add _) (Nat.zero_add _) (fun v58 h58 n58 q58 => ?_)
          obtain ⟨rfl, rfl⟩ := q58
          refine J_goto (tgt := 70) dL_makes_61 (by decide) ?_
          refine J_pa dL_makes_70 (by first | assumption | exact isLT.ob (by assumption) | exact isRow.ob (by assumption) | exact isHnd.ob (by assumption) | exact isUnt.ob (by assumption) | exact isSt.ob (by assumption) | exact isHist.ob (by assumption) | exact isTxt.ob (by assumption) | exact isLac.ob (by assumption) | exact isMea.ob (by assumption) | exact hset_s | exact (hset_n (by first | assumption | omega)).trans (by first | assumption | exact isLT.ob (by assumption) | exact isRow.ob (by assumption) | exact isHnd.ob (by assumption) | exact isUnt.ob (by assumption) | exact isSt.ob (by assumption) | exact isHist.ob (by assumption) | exact isTxt.ob (by assumption) | exact isLac.ob (by assumption) | exact isMea.ob (by assumption) | exact hset_s | exact (hset_n (by first | assumption | omega)).trans (by first | assumption | exact isLT.ob (by assumption) | exact isRow.ob (by assumption) | exact isHnd.ob (by assumption) | exact isUnt.ob (by assumption) | exact isSt.ob (by assumption) | exact isHist.ob (by assumption) | exact isTxt.ob (by assumption) | exact isLac.ob (by assumption) | exact isMea.ob (by assumption) | exact hset_s | exact (hset_n (by first | assumption | omega)).trans (by first | assumption | exact isLT.ob (by assumption) | exact isRow.ob (by assumption) | exact isHnd.ob (by assumption) | exact isUnt.ob (by assumption) | exact isSt.ob (by assumption) | exact isHist.ob (by assumption) | exact isTxt.ob (by assumption) | exact isLac.ob (by assumption) | exact isMea.ob (by assumption))))) (by first | assumption | omega) (by omega) ?_
          refine J_aload_n dL_makes_71 (by rfl) ?_
          refine J_iload_n dL_makes_72 (by rfl) ?_
          refine J_iconst (v := nI 1) dL_makes_73 (by decide) ?_
          refine J_iadd dL_makes_74 ?_
          rw [nI_add]
          refine J_iload dL_makes_75 (by rfl) ?_
          refine J_if_le (tgt := 88) dL_makes_77 (by decide) (fun c77 => ?_) (fun c77 => ?_)
          · refine J_iload dL_makes_88 (by rfl) ?_
            refine J_callS mf_L_rank lk_L_63 ms_L_rank (sp_L_rank _ (xs.getD k 0) _) dL_makes_90 (by decide) (by rfl) rfl (Nat.le_of_ble_eq_true rfl) (Nat.zero_add _) (Nat.zero_add _) (fun v90 h90 n90 q90 => ?_)
            obtain ⟨rfl, rfl⟩ := q90
            refine J_ineg dL_makes_93 ?_
            refine J_pa dL_makes_94 (by first | assumption | exact isLT.ob (by assumption) | exact isRow.ob (by assumption) | exact isHnd.ob (by assumption) | exact isUnt.ob (by assumption) | exact isSt.ob (by assumption) | exact isHist.ob (by assumption) | exact isTxt.ob (by assumption) | exact isLac.ob (by assumption) | exact isMea.ob (by assumption) | exact hset_s | exact (hset_n (by first | assumption | omega)).trans (by first | assumption | exact isLT.ob (by assumption) | exact isRow.ob (by assumption) | exact isHnd.ob (by assumption) | exact isUnt.ob (by assumption) | exact isSt.ob (by assumption) | exact isHist.ob (by assumption) | exact isTxt.ob (by assumption) | exact isLac.ob (by assumption) | exact isMea.ob (by assumption) | exact hset_s | exact (hset_n (by first | assumption | omega)).trans (by first | assumption | exact isLT.ob (by assumption) | exact isRow.ob (by assumption) | exact isHnd.ob (by assumption) | exact isUnt.ob (by assumption) | exact isSt.ob (by assumption) | exact isHist.ob (by assumption) | exact isTxt.ob (by assumption) | exact isLac.ob (by assumption) | exact isMea.ob (by assumption) | exact hset_s | exact (hset_n (by first | assumption | omega)).trans (by first | assumption | exact isLT.ob (by assumption) | exact isRow.ob (by assumption) | exact isHnd.ob (by assumption) | exact isUnt.ob (by assumption) | exact isSt.ob (by assumption) | exact isHist.ob (by assumption) | exact isTxt.ob (by assumption) | exact isLac.ob (by assumption) | exact isMea.ob (by assumption))))) (by first | assumption | omega) (by omega) ?_
            refine J_aload_n dL_makes_95 (by rfl) ?_
            refine J_iload_n dL_makes_96 (by rfl) ?_
            refine J_iconst (v := nI 2) dL_makes_97 (by decide) ?_
            refine J_iadd dL_makes_98 ?_
            rw [nI_add]
            refine J_iload dL_makes_99 (by rfl) ?_
            refine J_if_le (tgt := 112) dL_makes_101 (by decide) (fun c101 => ?_) (fun c101 => ?_)
            · refine J_iload dL_makes_112 (by rfl) ?_
              refine J_callS mf_L_rank lk_L_63 ms_L_rank (sp_L_rank _ (xs.getD (k + 1) 0) _) dL_makes_114 (by decide) (by rfl) rfl (Nat.le_of_ble_eq_true rfl) (Nat.zero_add _) (Nat.zero_add _) (fun v114 h114 n114 q114 => ?_)
              obtain ⟨rfl, rfl⟩ := q114
              refine J_ineg dL_makes_117 ?_
              refine J_pa dL_makes_118 (by first | assumption | exact isLT.ob (by assumption) | exact isRow.ob (by assumption) | exact isHnd.ob (by assumption) | exact isUnt.ob (by assumption) | exact isSt.ob (by assumption) | exact isHist.ob (by assumption) | exact isTxt.ob (by assumption) | exact isLac.ob (by assumption) | exact isMea.ob (by assumption) | exact hset_s | exact (hset_n (by first | assumption | omega)).trans (by first | assumption | exact isLT.ob (by assumption) | exact isRow.ob (by assumption) | exact isHnd.ob (by assumption) | exact isUnt.ob (by assumption) | exact isSt.ob (by assumption) | exact isHist.ob (by assumption) | exact isTxt.ob (by assumption) | exact isLac.ob (by assumption) | exact isMea.ob (by assumption) | exact hset_s | exact (hset_n (by first | assumption | omega)).trans (by first | assumption | exact isLT.ob (by assumption) | exact isRow.ob (by assumption) | exact isHnd.ob (by assumption) | exact isUnt.ob (by assumption) | exact isSt.ob (by assumption) | exact isHist.ob (by assumption) | exact isTxt.ob (by assumption) | exact isLac.ob (by assumption) | exact isMea.ob (by assumption) | exact hset_s | exact (hset_n (by first | assumption | omega)).trans (by first | assumption | exact isLT.ob (by assumption) | exact isRow.ob (by assumption) | exact isHnd.ob (by assumption) | exact isUnt.ob (by assumption) | exact isSt.ob (by assumption) | exact isHist.ob (by assumption) | exact isTxt.ob (by assumption) | exact isLac.ob (by assumption) | exact isMea.ob (by assumption))))) (by first | assumption | omega) (by omega) ?_
              refine J_iload_n dL_makes_119 (by rfl) ?_
              exact J_ireturn dL_makes_120 rfl (by rfl) (⟨by rw [fl], fin _ _ _ (by first | exact lsp x2 x1 (Int32.not_le.mp c53) | exact lsn x2 x1 (Int32.not_lt.mpr c53)) (by first | exact lsp x1 x0 (Int32.not_le.mp c77) | exact lsn x1 x0 (Int32.not_lt.mpr c77)) (by first | exact lsp x0 x1 (Int32.not_le.mp c101) | exact lsn x0 x1 (Int32.not_lt.mpr c101)), ff _ _ _⟩)
            · refine J_iload dL_makes_104 (by rfl) ?_
              refine J_callS mf_L_rank lk_L_63 ms_L_rank (sp_L_rank _ (xs.getD (k + 1) 0) _) dL_makes_106 (by decide) (by rfl) rfl (Nat.le_of_ble_eq_true rfl) (Nat.zero_add _) (Nat.zero_add _) (fun v106 h106 n106 q106 => ?_)
              obtain ⟨rfl, rfl⟩ := q106
              refine J_goto (tgt := 118) dL_makes_109 (by decide) ?_
              refine J_pa dL_makes_118 (by first | assumption | exact isLT.ob (by assumption) | exact isRow.ob (by assumption) | exact isHnd.ob (by assumption) | exact isUnt.ob (by assumption) | exact isSt.ob (by assumption) | exact isHist.ob (by assumption) | exact isTxt.ob (by assumption) | exact isLac.ob (by assumption) | exact isMea.ob (by assumption) | exact hset_s | exact (hset_n (by first | assumption | omega)).trans (by first | assumption | exact isLT.ob (by assumption) | exact isRow.ob (by assumption) | exact isHnd.ob (by assumption) | exact isUnt.ob (by assumption) | exact isSt.ob (by assumption) | exact isHist.ob (by assumption) | exact isTxt.ob (by assumption) | exact isLac.ob (by assumption) | exact isMea.ob (by assumption) | exact hset_s | exact (hset_n (by first | assumption | omega)).trans (by first | assumption | exact isLT.ob (by assumption) | exact isRow.ob (by assumption) | exact isHnd.ob (by assumption) | exact isUnt.ob (by assumption) | exact isSt.ob (by assumption) | exact isHist.ob (by assumption) | exact isTxt.ob (by assumption) | exact isLac.ob (by assumption) | exact isMea.ob (by assumption) | exact hset_s | exact (hset_n (by first | assumption | omega)).trans (by first | assumption | exact isLT.ob (by assumption) | exact isRow.ob (by assumption) | exact isHnd.ob (by assumption) | exact isUnt.ob (by assumption) | exact isSt.ob (by assumption) | exact isHist.ob (by assumption) | exact isTxt.ob (by assumption) | exact isLac.ob (by assumption) | exact isMea.ob (by assumption))))) (by first | assumption | omega) (by omega) ?_
              refine J_iload_n dL_makes_119 (by rfl) ?_
              exact J_ireturn dL_makes_120 rfl (by rfl) (⟨by rw [fl], fin _ _ _ (by first | exact lsp x2 x1 (Int32.not_le.mp c53) | exact lsn x2 x1 (Int32.not_lt.mpr c53)) (by first | exact lsp x1 x0 (Int32.not_le.mp c77) | exact lsn x1 x0 (Int32.not_lt.mpr c77)) (by first | exact lsp x0 x1 (Int32.not_le.mp c101) | exact lsn x0 x1 (Int32.not_lt.mpr c101)), ff _ _ _⟩)
          · refine J_iload dL_makes_80 (by rfl) ?_
            refine J_callS mf_L_rank lk_L_63 ms_L_rank (sp_L_rank _ (xs.getD k 0) _) dL_makes_82 (by decide) (by rfl) rfl (Nat.le_of_ble_eq_true rfl) (Nat.zero_add _) (Nat.zero_add _) (fun v82 h82 n82 q82 => ?_)
            obtain ⟨rfl, rfl⟩ := q82
            refine J_goto (tgt := 94) dL_makes_85 (by decide) ?_
            refine J_pa dL_makes_94 (by first | assumption | exact isLT.ob (by assumption) | exact isRow.ob (by assumption) | exact isHnd.ob (by assumption) | exact isUnt.ob (by assumption) | exact isSt.ob (by assumption) | exact isHist.ob (by assumption) | exact isTxt.ob (by assumption) | exact isLac.ob (by assumption) | exact isMea.ob (by assumption) | exact hset_s | exact (hset_n (by first | assumption | omega)).trans (by first | assumption | exact isLT.ob (by assumption) | exact isRow.ob (by assumption) | exact isHnd.ob (by assumption) | exact isUnt.ob (by assumption) | exact isSt.ob (by assumption) | exact isHist.ob (by assumption) | exact isTxt.ob (by assumption) | exact isLac.ob (by assumption) | exact isMea.ob (by assumption) | exact hset_s | exact (hset_n (by first | assumption | omega)).trans (by first | assumption | exact isLT.ob (by assumption) | exact isRow.ob (by assumption) | exact isHnd.ob (by assumption) | exact isUnt.ob (by assumption) | exact isSt.ob (by assumption) | exact isHist.ob (by assumption) | exact isTxt.ob (by assumption) | exact isLac.ob (by assumption) | exact isMea.ob (by assumption) | exact hset_s | exact (hset_n (by first | assumption | omega)).trans (by first | assumption | exact isLT.ob (by assumption) | exact isRow.ob (by assumption) | exact isHnd.ob (by assumption) | exact isUnt.ob (by assumption) | exact isSt.ob (by assumption) | exact isHist.ob (by assumption) | exact isTxt.ob (by assumption) | exact isLac.ob (by assumption) | exact isMea.ob (by assumption))))) (by first | assumption | omega) (by omega) ?_
            refine J_aload_n dL_makes_95 (by rfl) ?_
            refine J_iload_n dL_makes_96 (by rfl) ?_
            refine J_iconst (v := nI 2) dL_makes_97 (by decide) ?_
            refine J_iadd dL_makes_98 ?_
            rw [nI_add]
            refine J_iload dL_makes_99 (by rfl) ?_
            refine J_if_le (tgt := 112) dL_makes_101 (by decide) (fun c101 => ?_) (fun c101 => ?_)
            · refine J_iload dL_makes_112 (by rfl) ?_
              refine J_callS mf_L_rank lk_L_63 ms_L_rank (sp_L_rank _ (xs.getD (k + 1) 0) _) dL_makes_114 (by decide) (by rfl) rfl (Nat.le_of_ble_eq_true rfl) (Nat.zero_add _) (Nat.zero_add _) (fun v114 h114 n114 q114 => ?_)
              obtain ⟨rfl, rfl⟩ := q114
              refine J_ineg dL_makes_117 ?_
              refine J_pa dL_makes_118 (by first | assumption | exact isLT.ob (by assumption) | exact isRow.ob (by assumption) | exact isHnd.ob (by assumption) | exact isUnt.ob (by assumption) | exact isSt.ob (by assumption) | exact isHist.ob (by assumption) | exact isTxt.ob (by assumption) | exact isLac.ob (by assumption) | exact isMea.ob (by assumption) | exact hset_s | exact (hset_n (by first | assumption | omega)).trans (by first | assumption | exact isLT.ob (by assumption) | exact isRow.ob (by assumption) | exact isHnd.ob (by assumption) | exact isUnt.ob (by assumption) | exact isSt.ob (by assumption) | exact isHist.ob (by assumption) | exact isTxt.ob (by assumption) | exact isLac.ob (by assumption) | exact isMea.ob (by assumption) | exact hset_s | exact (hset_n (by first | assumption | omega)).trans (by first | assumption | exact isLT.ob (by assumption) | exact isRow.ob (by assumption) | exact isHnd.ob (by assumption) | exact isUnt.ob (by assumption) | exact isSt.ob (by assumption) | exact isHist.ob (by assumption) | exact isTxt.ob (by assumption) | exact isLac.ob (by assumption) | exact isMea.ob (by assumption) | exact hset_s | exact (hset_n (by first | assumption | omega)).trans (by first | assumption | exact isLT.ob (by assumption) | exact isRow.ob (by assumption) | exact isHnd.ob (by assumption) | exact isUnt.ob (by assumption) | exact isSt.ob (by assumption) | exact isHist.ob (by assumption) | exact isTxt.ob (by assumption) | exact isLac.ob (by assumption) | exact isMea.ob (by assumption))))) (by first | assumption | omega) (by omega) ?_
              refine J_iload_n dL_makes_119 (by rfl) ?_
              exact J_ireturn dL_makes_120 rfl (by rfl) (⟨by rw [fl], fin _ _ _ (by first | exact lsp x2 x1 (Int32.not_le.mp c53) | exact lsn x2 x1 (Int32.not_lt.mpr c53)) (by first | exact lsp x1 x0 (Int32.not_le.mp c77) | exact lsn x1 x0 (Int32.not_lt.mpr c77)) (by first | exact lsp x0 x1 (Int32.not_le.mp c101) | exact lsn x0 x1 (Int32.not_lt.mpr c101)), ff _ _ _⟩)
            · refine J_iload dL_makes_104 (by rfl) ?_
              refine J_callS mf_L_rank lk_L_63 ms_L_rank (sp_L_rank _ (xs.getD (k + 1) 0) _) dL_makes_106 (by decide) (by rfl) rfl (Nat.le_of_ble_eq_true rfl) (Nat.zero_add _) (Nat.zero_add _) (fun v106 h106 n106 q106 => ?_)
              obtain ⟨rfl, rfl⟩ := q106
              refine J_goto (tgt := 118) dL_makes_109 (by decide) ?_
              refine J_pa dL_makes_118 (by first | assumption | exact isLT.ob (by assumption) | exact isRow.ob (by assumption) | exact isHnd.ob (by assumption) | exact isUnt.ob (by assumption) | exact isSt.ob (by assumption) | exact isHist.ob (by assumption) | exact isTxt.ob (by assumption) | exact isLac.ob (by assumption) | exact isMea.ob (by assumption) | exact hset_s | exact (hset_n (by first | assumption | omega)).trans (by first | assumption | exact isLT.ob (by assumption) | exact isRow.ob (by assumption) | exact isHnd.ob (by assumption) | exact isUnt.ob (by assumption) | exact isSt.ob (by assumption) | exact isHist.ob (by assumption) | exact isTxt.ob (by assumption) | exact isLac.ob (by assumption) | exact isMea.ob (by assumption) | exact hset_s | exact (hset_n (by first | assumption | omega)).trans (by first | assumption | exact isLT.ob (by assumption) | exact isRow.ob (by assumption) | exact isHnd.ob (by assumption) | exact isUnt.ob (by assumption) | exact isSt.ob (by assumption) | exact isHist.ob (by assumption) | exact isTxt.ob (by assumption) | exact isLac.ob (by assumption) | exact isMea.ob (by assumption) | exact hset_s | exact (hset_n (by first | assumption | omega)).trans (by first | assumption | exact isLT.ob (by assumption) | exact isRow.ob (by assumption) | exact isHnd.ob (by assumption) | exact isUnt.ob (by assumption) | exact isSt.ob (by assumption) | exact isHist.ob (by assumption) | exact isTxt.ob (by assumption) | exact isLac.ob (by assumption) | exact isMea.ob (by assumption))))) (by first | assumption | omega) (by omega) ?_
              refine J_iload_n dL_makes_119 (by rfl) ?_
              exact J_ireturn dL_makes_120 rfl (by rfl) (⟨by rw [fl], fin _ _ _ (by first | exact lsp x2 x1 (Int32.not_le.mp c53) | exact lsn x2 x1 (Int32.not_lt.mpr c53)) (by first | exact lsp x1 x0 (Int32.not_le.mp c77) | exact lsn x1 x0 (Int32.not_lt.mpr c77)) (by first | exact lsp x0 x1 (Int32.not_le.mp c101) | exact lsn x0 x1 (Int32.not_lt.mpr c101)), ff _ _ _⟩)
      · exact absurd c25 (by decide)
    · exact absurd c13 (by decide)
