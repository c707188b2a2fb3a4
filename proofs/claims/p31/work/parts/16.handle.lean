/-! making a move; handles -/
def mk (xs : List Int32) (m k : Nat) : List Int32 :=
  if m = 0 then delP xs k
  else if m = 1 then (xs.set k (xs.getD (k + 1) 0)).set (k + 1) (xs.getD k 0)
  else ((xs.set k (sg (xs.getD (k + 2) 0) * rk (xs.getD (k + 1) 0))).set (k + 1) (sg (xs.getD (k + 1) 0) * rk (xs.getD k 0))).set (k + 2) (sg (xs.getD k 0) * rk (xs.getD (k + 1) 0))
set_option maxRecDepth 20000 in
theorem sp_X4_make {G : GG} {h : HP} {r cap : Nat} {xs : List Int32} (w : isRow G h r cap xs) {m k : Nat} (hm : m < 3) (hk : k + (if m = 2 then 3 else 2) ≤ xs.length) (n : Nat) : Sp G mm_X4_make 2 0 0 [.ref r, .int (nI m), .int (nI k)] h n (fun v h' _ => v = none ∧ isRow G h' r cap (mk xs m k) ∧ fr r (r + 2) h h') := by
  refine Sp_of (by decide +kernel) (Nat.le_of_ble_eq_true rfl) ?_
  have hle := w.le
  obtain ⟨f, h1, h2, h3, h4, h5⟩ := id w
  rcases (show m = 0 ∨ m = 1 ∨ m = 2 by omega) with rfl | rfl | rfl
  · have hk2 : k + 2 ≤ xs.length := hk
    refine J_aload_n dX4_make_0 (by rfl) ?_
    refine J_iload_n dX4_make_1 (by rfl) ?_
    refine J_callV mf_X5_at lk_X4_15 mi_X5_at mv_X5_at (sp_X5_at w (k := k) (by omega) _) dX4_make_2 (by first | assumption | exact isRow.ob (by assumption) | exact isHnd.ob (by assumption) | exact hset_s | exact (hset_n (by first | assumption | omega)).trans (by first | assumption | exact isRow.ob (by assumption) | exact isHnd.ob (by assumption) | exact hset_s | exact (hset_n (by first | assumption | omega)).trans (by first | assumption | exact isRow.ob (by assumption) | exact isHnd.ob (by assumption) | exact hset_s | exact (hset_n (by first | assumption | omega)).trans (by first | assumption | exact isRow.ob (by assumption) | exact isHnd.ob (by assumption))))) rfl rfl (by decide) (by rfl) rfl (Nat.le_of_ble_eq_true rfl) (Nat.zero_add _) (Nat.zero_add _) (fun v2 h2 n2 q2 => ?_)
    obtain ⟨rfl, rfl⟩ := q2
    refine J_istore_n dX4_make_5 (by decide) (by rfl) ?_
    refine J_aload_n dX4_make_6 (by rfl) ?_
    refine J_iload_n dX4_make_7 (by rfl) ?_
    refine J_iconst (v := 1) dX4_make_8 (by decide) ?_
    refine J_iadd dX4_make_9 ?_
    rw [show nI k + 1 = nI (k + 1) from nI_1 k]
    refine J_callV mf_X5_at lk_X4_15 mi_X5_at mv_X5_at (sp_X5_at w (k := k + 1) (by omega) _) dX4_make_10 (by first | assumption | exact isRow.ob (by assumption) | exact isHnd.ob (by assumption) | exact hset_s | exact (hset_n (by first | assumption | omega)).trans (by first | assumption | exact isRow.ob (by assumption) | exact isHnd.ob (by assumption) | exact hset_s | exact (hset_n (by first | assumption | omega)).trans (by first | assumption | exact isRow.ob (by assumption) | exact isHnd.ob (by assumption) | exact hset_s | exact (hset_n (by first | assumption | omega)).trans (by first | assumption | exact isRow.ob (by assumption) | exact isHnd.ob (by assumption))))) rfl rfl (by decide) (by rfl) rfl (Nat.le_of_ble_eq_true rfl) (Nat.zero_add _) (Nat.zero_add _) (fun v10 h10 n10 q10 => ?_)
    obtain ⟨rfl, rfl⟩ := q10
    refine J_istore dX4_make_13 (by decide) (by rfl) ?_
    refine J_iload_n dX4_make_15 (by rfl) ?_
    refine J_if_ne (tgt := 27) dX4_make_16 (by decide) (fun c16 => ?_) (fun c16 => ?_)
    · exact absurd rfl c16
    · refine J_aload_n dX4_make_19 (by rfl) ?_
      refine J_iload_n dX4_make_20 (by rfl) ?_
      refine J_callV mf_X5_removePair lk_X4_35 mi_X5_removePair mv_X5_removePair (sp_X5_removePair w hk2 _) dX4_make_21 (by first | assumption | exact isRow.ob (by assumption) | exact isHnd.ob (by assumption) | exact hset_s | exact (hset_n (by first | assumption | omega)).trans (by first | assumption | exact isRow.ob (by assumption) | exact isHnd.ob (by assumption) | exact hset_s | exact (hset_n (by first | assumption | omega)).trans (by first | assumption | exact isRow.ob (by assumption) | exact isHnd.ob (by assumption) | exact hset_s | exact (hset_n (by first | assumption | omega)).trans (by first | assumption | exact isRow.ob (by assumption) | exact isHnd.ob (by assumption))))) rfl rfl (by decide) (by rfl) rfl (Nat.le_of_ble_eq_true rfl) (Nat.zero_add _) (Nat.zero_add _) (fun v21 h21 n21 q21 => ?_)
      obtain ⟨rfl, w21, f21⟩ := q21
      refine J_goto (tgt := 109) dX4_make_24 (by decide) ?_
      exact J_return dX4_make_109 rfl (⟨rfl, w21, f21⟩)
  · have hk2 : k + 2 ≤ xs.length := hk
    refine J_aload_n dX4_make_0 (by rfl) ?_
    refine J_iload_n dX4_make_1 (by rfl) ?_
    refine J_callV mf_X5_at lk_X4_15 mi_X5_at mv_X5_at (sp_X5_at w (k := k) (by omega) _) dX4_make_2 (by first | assumption | exact isRow.ob (by assumption) | exact isHnd.ob (by assumption) | exact hset_s | exact (hset_n (by first | assumption | omega)).trans (by first | assumption | exact isRow.ob (by assumption) | exact isHnd.ob (by assumption) | exact hset_s | exact (hset_n (by first | assumption | omega)).trans (by first | assumption | exact isRow.ob (by assumption) | exact isHnd.ob (by assumption) | exact hset_s | exact (hset_n (by first | assumption | omega)).trans (by first | assumption | exact isRow.ob (by assumption) | exact isHnd.ob (by assumption))))) rfl rfl (by decide) (by rfl) rfl (Nat.le_of_ble_eq_true rfl) (Nat.zero_add _) (Nat.zero_add _) (fun v2 h2 n2 q2 => ?_)
    obtain ⟨rfl, rfl⟩ := q2
    refine J_istore_n dX4_make_5 (by decide) (by rfl) ?_
    refine J_aload_n dX4_make_6 (by rfl) ?_
    refine J_iload_n dX4_make_7 (by rfl) ?_
    refine J_iconst (v := 1) dX4_make_8 (by decide) ?_
    refine J_iadd dX4_make_9 ?_
    rw [show nI k + 1 = nI (k + 1) from nI_1 k]
    refine J_callV mf_X5_at lk_X4_15 mi_X5_at mv_X5_at (sp_X5_at w (k := k + 1) (by omega) _) dX4_make_10 (by first | assumption | exact isRow.ob (by assumption) | exact isHnd.ob (by assumption) | exact hset_s | exact (hset_n (by first | assumption | omega)).trans (by first | assumption | exact isRow.ob (by assumption) | exact isHnd.ob (by assumption) | exact hset_s | exact (hset_n (by first | assumption | omega)).trans (by first | assumption | exact isRow.ob (by assumption) | exact isHnd.ob (by assumption) | exact hset_s | exact (hset_n (by first | assumption | omega)).trans (by first | assumption | exact isRow.ob (by assumption) | exact isHnd.ob (by assumption))))) rfl rfl (by decide) (by rfl) rfl (Nat.le_of_ble_eq_true rfl) (Nat.zero_add _) (Nat.zero_add _) (fun v10 h10 n10 q10 => ?_)
    obtain ⟨rfl, rfl⟩ := q10
    refine J_istore dX4_make_13 (by decide) (by rfl) ?_
    refine J_iload_n dX4_make_15 (by rfl) ?_
    refine J_if_ne (tgt := 27) dX4_make_16 (by decide) (fun c16 => ?_) (fun c16 => ?_)
    · refine J_iload_n dX4_make_27 (by rfl) ?_
      refine J_iconst (v := 1) dX4_make_28 (by decide) ?_
      refine J_icmp_ne (tgt := 50) dX4_make_29 (by decide) (fun c29 => ?_) (fun c29 => ?_)
      · exact absurd rfl c29
      · refine J_aload_n dX4_make_32 (by rfl) ?_
        refine J_iload_n dX4_make_33 (by rfl) ?_
        refine J_iload dX4_make_34 (by rfl) ?_
        refine J_callV mf_X5_put lk_X4_39 mi_X5_put mv_X5_put (sp_X5_put w (k := k) (by omega) (xs.getD (k + 1) 0) _) dX4_make_36 (by first | assumption | exact isRow.ob (by assumption) | exact isHnd.ob (by assumption) | exact hset_s | exact (hset_n (by first | assumption | omega)).trans (by first | assumption | exact isRow.ob (by assumption) | exact isHnd.ob (by assumption) | exact hset_s | exact (hset_n (by first | assumption | omega)).trans (by first | assumption | exact isRow.ob (by assumption) | exact isHnd.ob (by assumption) | exact hset_s | exact (hset_n (by first | assumption | omega)).trans (by first | assumption | exact isRow.ob (by assumption) | exact isHnd.ob (by assumption))))) rfl rfl (by decide) (by rfl) rfl (Nat.le_of_ble_eq_true rfl) (Nat.zero_add _) (Nat.zero_add _) (fun v36 h36 n36 q36 => ?_)
        obtain ⟨rfl, w36, f36⟩ := q36
        refine J_aload_n dX4_make_39 (by rfl) ?_
        refine J_iload_n dX4_make_40 (by rfl) ?_
        refine J_iconst (v := 1) dX4_make_41 (by decide) ?_
        refine J_iadd dX4_make_42 ?_
        refine J_iload_n dX4_make_43 (by rfl) ?_
        rw [show nI k + 1 = nI (k + 1) from nI_1 k]
        refine J_callV mf_X5_put lk_X4_39 mi_X5_put mv_X5_put (sp_X5_put w36 (k := k + 1) (by omega) (xs.getD k 0) _) dX4_make_44 (by first | assumption | exact isRow.ob (by assumption) | exact isHnd.ob (by assumption) | exact hset_s | exact (hset_n (by first | assumption | omega)).trans (by first | assumption | exact isRow.ob (by assumption) | exact isHnd.ob (by assumption) | exact hset_s | exact (hset_n (by first | assumption | omega)).trans (by first | assumption | exact isRow.ob (by assumption) | exact isHnd.ob (by assumption) | exact hset_s | exact (hset_n (by first | assumption | omega)).trans (by first | assumption | exact isRow.ob (by assumption) | exact isHnd.ob (by assumption))))) rfl rfl (by decide) (by rfl) rfl (Nat.le_of_ble_eq_true rfl) (Nat.zero_add _) (Nat.zero_add _) (fun v44 h44 n44 q44 => ?_)
        obtain ⟨rfl, w44, f44⟩ := q44
        refine J_goto (tgt := 109) dX4_make_47 (by decide) ?_
        exact J_return dX4_make_109 rfl (⟨rfl, w44, fr_tr f36 f44⟩)
    · exact absurd c16 (by decide)
  · have hk2 : k + 3 ≤ xs.length := hk
    refine J_aload_n dX4_make_0 (by rfl) ?_
    refine J_iload_n dX4_make_1 (by rfl) ?_
    refine J_callV mf_X5_at lk_X4_15 mi_X5_at mv_X5_at (sp_X5_at w (k := k) (by omega) _) dX4_make_2 (by first | assumption | exact isRow.ob (by assumption) | exact isHnd.ob (by assumption) | exact hset_s | exact (hset_n (by first | assumption | omega)).trans (by first | assumption | exact isRow.ob (by assumption) | exact isHnd.ob (by assumption) | exact hset_s | exact (hset_n (by first | assumption | omega)).trans (by first | assumption | exact isRow.ob (by assumption) | exact isHnd.ob (by assumption) | exact hset_s | exact (hset_n (by first | assumption | omega)).trans (by first | assumption | exact isRow.ob (by assumption) | exact isHnd.ob (by assumption))))) rfl rfl (by decide) (by rfl) rfl (Nat.le_of_ble_eq_true rfl) (Nat.zero_add _) (Nat.zero_add _) (fun v2 h2 n2 q2 => ?_)
    obtain ⟨rfl, rfl⟩ := q2
    refine J_istore_n dX4_make_5 (by decide) (by rfl) ?_
    refine J_aload_n dX4_make_6 (by rfl) ?_
    refine J_iload_n dX4_make_7 (by rfl) ?_
    refine J_iconst (v := 1) dX4_make_8 (by decide) ?_
    refine J_iadd dX4_make_9 ?_
    rw [show nI k + 1 = nI (k + 1) from nI_1 k]
    refine J_callV mf_X5_at lk_X4_15 mi_X5_at mv_X5_at (sp_X5_at w (k := k + 1) (by omega) _) dX4_make_10 (by first | assumption | exact isRow.ob (by assumption) | exact isHnd.ob (by assumption) | exact hset_s | exact (hset_n (by first | assumption | omega)).trans (by first | assumption | exact isRow.ob (by assumption) | exact isHnd.ob (by assumption) | exact hset_s | exact (hset_n (by first | assumption | omega)).trans (by first | assumption | exact isRow.ob (by assumption) | exact isHnd.ob (by assumption) | exact hset_s | exact (hset_n (by first | assumption | omega)).trans (by first | assumption | exact isRow.ob (by assumption) | exact isHnd.ob (by assumption))))) rfl rfl (by decide) (by rfl) rfl (Nat.le_of_ble_eq_true rfl) (Nat.zero_add _) (Nat.zero_add _) (fun v10 h10 n10 q10 => ?_)
    obtain ⟨rfl, rfl⟩ := q10
    refine J_istore dX4_make_13 (by decide) (by rfl) ?_
    refine J_iload_n dX4_make_15 (by rfl) ?_
    refine J_if_ne (tgt := 27) dX4_make_16 (by decide) (fun c16 => ?_) (fun c16 => ?_)
    · refine J_iload_n dX4_make_27 (by rfl) ?_
      refine J_iconst (v := 1) dX4_make_28 (by decide) ?_
      refine J_icmp_ne (tgt := 50) dX4_make_29 (by decide) (fun c29 => ?_) (fun c29 => ?_)
      · refine J_aload_n dX4_make_50 (by rfl) ?_
        refine J_iload_n dX4_make_51 (by rfl) ?_
        refine J_iconst (v := 2) dX4_make_52 (by decide) ?_
        refine J_iadd dX4_make_53 ?_
        rw [show nI k + 2 = nI (k + 2) from nI_add k 2]
        refine J_callV mf_X5_at lk_X4_15 mi_X5_at mv_X5_at (sp_X5_at w (k := k + 2) (by omega) _) dX4_make_54 (by first | assumption | exact isRow.ob (by assumption) | exact isHnd.ob (by assumption) | exact hset_s | exact (hset_n (by first | assumption | omega)).trans (by first | assumption | exact isRow.ob (by assumption) | exact isHnd.ob (by assumption) | exact hset_s | exact (hset_n (by first | assumption | omega)).trans (by first | assumption | exact isRow.ob (by assumption) | exact isHnd.ob (by assumption) | exact hset_s | exact (hset_n (by first | assumption | omega)).trans (by first | assumption | exact isRow.ob (by assumption) | exact isHnd.ob (by assumption))))) rfl rfl (by decide) (by rfl) rfl (Nat.le_of_ble_eq_true rfl) (Nat.zero_add _) (Nat.zero_add _) (fun v54 h54 n54 q54 => ?_)
        obtain ⟨rfl, rfl⟩ := q54
        refine J_istore dX4_make_57 (by decide) (by rfl) ?_
        refine J_aload_n dX4_make_59 (by rfl) ?_
        refine J_iload_n dX4_make_60 (by rfl) ?_
        refine J_iload dX4_make_61 (by rfl) ?_
        refine J_callS mf_X9_signOf lk_X4_32 ms_X9_signOf (sp_X9_signOf _ (xs.getD (k + 2) 0) _) dX4_make_63 (by decide) (by rfl) rfl (Nat.le_of_ble_eq_true rfl) (Nat.zero_add _) (Nat.zero_add _) (fun v63 h63 n63 q63 => ?_)
        obtain ⟨rfl, rfl⟩ := q63
        refine J_iload dX4_make_66 (by rfl) ?_
        refine J_callS mf_X9_rankOf lk_X4_25 ms_X9_rankOf (sp_X9_rankOf _ (xs.getD (k + 1) 0) _) dX4_make_68 (by decide) (by rfl) rfl (Nat.le_of_ble_eq_true rfl) (Nat.zero_add _) (Nat.zero_add _) (fun v68 h68 n68 q68 => ?_)
        obtain ⟨rfl, rfl⟩ := q68
        refine J_imul dX4_make_71 ?_
        refine J_callV mf_X5_put lk_X4_39 mi_X5_put mv_X5_put (sp_X5_put w (k := k) (by omega) (sg (xs.getD (k + 2) 0) * rk (xs.getD (k + 1) 0)) _) dX4_make_72 (by first | assumption | exact isRow.ob (by assumption) | exact isHnd.ob (by assumption) | exact hset_s | exact (hset_n (by first | assumption | omega)).trans (by first | assumption | exact isRow.ob (by assumption) | exact isHnd.ob (by assumption) | exact hset_s | exact (hset_n (by first | assumption | omega)).trans (by first | assumption | exact isRow.ob (by assumption) | exact isHnd.ob (by assumption) | exact hset_s | exact (hset_n (by first | assumption | omega)).trans (by first | assumption | exact isRow.ob (by assumption) | exact isHnd.ob (by assumption))))) rfl rfl (by decide) (by rfl) rfl (Nat.le_of_ble_eq_true rfl) (Nat.zero_add _) (Nat.zero_add _) (fun v72 h72 n72 q72 => ?_)
        obtain ⟨rfl, w72, f72⟩ := q72
        refine J_aload_n dX4_make_75 (by rfl) ?_
        refine J_iload_n dX4_make_76 (by rfl) ?_
        refine J_iconst (v := 1) dX4_make_77 (by decide) ?_
        refine J_iadd dX4_make_78 ?_
        refine J_iload dX4_make_79 (by rfl) ?_
        refine J_callS mf_X9_signOf lk_X4_32 ms_X9_signOf (sp_X9_signOf _ (xs.getD (k + 1) 0) _) dX4_make_81 (by decide) (by rfl) rfl (Nat.le_of_ble_eq_true rfl) (Nat.zero_add _) (Nat.zero_add _) (fun v81 h81 n81 q81 => ?_)
        obtain ⟨rfl, rfl⟩ := q81
        refine J_iload_n dX4_make_84 (by rfl) ?_
        refine J_callS mf_X9_rankOf lk_X4_25 ms_X9_rankOf (sp_X9_rankOf _ (xs.getD k 0) _) dX4_make_85 (by decide) (by rfl) rfl (Nat.le_of_ble_eq_true rfl) (Nat.zero_add _) (Nat.zero_add _) (fun v85 h85 n85 q85 => ?_)
        obtain ⟨rfl, rfl⟩ := q85
        refine J_imul dX4_make_88 ?_
        rw [show nI k + 1 = nI (k + 1) from nI_1 k]
        refine J_callV mf_X5_put lk_X4_39 mi_X5_put mv_X5_put (sp_X5_put w72 (k := k + 1) (by omega) (sg (xs.getD (k + 1) 0) * rk (xs.getD k 0)) _) dX4_make_89 (by first | assumption | exact isRow.ob (by assumption) | exact isHnd.ob (by assumption) | exact hset_s | exact (hset_n (by first | assumption | omega)).trans (by first | assumption | exact isRow.ob (by assumption) | exact isHnd.ob (by assumption) | exact hset_s | exact (hset_n (by first | assumption | omega)).trans (by first | assumption | exact isRow.ob (by assumption) | exact isHnd.ob (by assumption) | exact hset_s | exact (hset_n (by first | assumption | omega)).trans (by first | assumption | exact isRow.ob (by assumption) | exact isHnd.ob (by assumption))))) rfl rfl (by decide) (by rfl) rfl (Nat.le_of_ble_eq_true rfl) (Nat.zero_add _) (Nat.zero_add _) (fun v89 h89 n89 q89 => ?_)
        obtain ⟨rfl, w89, f89⟩ := q89
        refine J_aload_n dX4_make_92 (by rfl) ?_
        refine J_iload_n dX4_make_93 (by rfl) ?_
        refine J_iconst (v := 2) dX4_make_94 (by decide) ?_
        refine J_iadd dX4_make_95 ?_
        refine J_iload_n dX4_make_96 (by rfl) ?_
        refine J_callS mf_X9_signOf lk_X4_32 ms_X9_signOf (sp_X9_signOf _ (xs.getD k 0) _) dX4_make_97 (by decide) (by rfl) rfl (Nat.le_of_ble_eq_true rfl) (Nat.zero_add _) (Nat.zero_add _) (fun v97 h97 n97 q97 => ?_)
        obtain ⟨rfl, rfl⟩ := q97
        refine J_iload dX4_make_100 (by rfl) ?_
        refine J_callS mf_X9_rankOf lk_X4_25 ms_X9_rankOf (sp_X9_rankOf _ (xs.getD (k + 1) 0) _) dX4_make_102 (by decide) (by rfl) rfl (Nat.le_of_ble_eq_true rfl) (Nat.zero_add _) (Nat.zero_add _) (fun v102 h102 n102 q102 => ?_)
        obtain ⟨rfl, rfl⟩ := q102
        refine J_imul dX4_make_105 ?_
        rw [show nI k + 2 = nI (k + 2) from nI_add k 2]
        refine J_callV mf_X5_put lk_X4_39 mi_X5_put mv_X5_put (sp_X5_put w89 (k := k + 2) (by omega) (sg (xs.getD k 0) * rk (xs.getD (k + 1) 0)) _) dX4_make_106 (by first | assumption | exact isRow.ob (by assumption) | exact isHnd.ob (by assumption) | exact hset_s | exact (hset_n (by first | assumption | omega)).trans (by first | assumption | exact isRow.ob (by assumption) | exact isHnd.ob (by assumption) | exact hset_s | exact (hset_n (by first | assumption | omega)).trans (by first | assumption | exact isRow.ob (by assumption) | exact isHnd.ob (by assumption) | exact hset_s | exact (hset_n (by first | assumption | omega)).trans (by first | assumption | exact isRow.ob (by assumption) | exact isHnd.ob (by assumption))))) rfl rfl (by decide) (by rfl) rfl (Nat.le_of_ble_eq_true rfl) (Nat.zero_add _) (Nat.zero_add _) (fun v106 h106 n106 q106 => ?_)
        obtain ⟨rfl, w106, f106⟩ := q106
        exact J_return dX4_make_109 rfl (⟨rfl, w106, fr_tr f72 (fr_tr f89 f106)⟩)
      · exact absurd c29 (by decide)
    · exact absurd c16 (by decide)
/-- a crossing -/
def isX (x : Int32) : Prop := x = 1 ∨ x = 2 ∨ x = 3 ∨ x = -1 ∨ x = -2 ∨ x = -3
def allX (xs : List Int32) : Prop := ∀ k, k < xs.length → isX (xs.getD k 0)
theorem isX.rk {x : Int32} (h : isX x) : rk x = nI 1 ∨ rk x = nI 2 ∨ rk x = nI 3 := by
  rcases h with rfl | rfl | rfl | rfl | rfl | rfl <;> decide
/-- the last place ahead of p with a crossing of the rank j -/
def lst (xs : List Int32) (j : Nat) : Nat → Option Nat
  | 0 => none
  | p + 1 => if rk (xs.getD p 0) = nI j then some p else lst xs j p
def enc : Option Nat → Int32
  | none => -1
  | some p => nI p
def ltO (o : Option Nat) (p : Nat) : Prop := ∀ t, o = some t → t < p
theorem lst_lt {xs : List Int32} {j p t : Nat} (h : lst xs j p = some t) : t < p := by
  induction p with
  | zero => cases h
  | succ p ih =>
    unfold lst at h
    split at h
    · cases h; omega
    · have := ih h; omega
theorem lst_0 {xs : List Int32} (hx : allX xs) {p : Nat} (hp : p ≤ xs.length) : lst xs 0 p = none := by
  induction p with
  | zero => rfl
  | succ p ih =>
    unfold lst
    rw [if_neg, ih (by omega)]
    intro q
    rcases (hx p (by omega)).rk with e | e | e <;> rw [e] at q <;> exact absurd q (by decide)
/-- where the handle begins that ends at q -/
def hb (xs : List Int32) (q : Nat) : Option Nat :=
  match lst xs (rk (xs.getD q 0)).toNatClampNeg q with
  | none => none
  | some p => if xs.getD p 0 = -(xs.getD q 0) ∧ (lst xs ((rk (xs.getD q 0)).toNatClampNeg - 1) q).all (fun t => decide (t < p)) = true then some p else none
/-- the first handle from q on, among j places -/
def fhA (xs : List Int32) : Nat → Nat → Option (Nat × Nat)
  | 0, _ => none
  | j + 1, q => match hb xs q with
    | some p => some (p, q)
    | none => fhA xs j (q + 1)
def fh (xs : List Int32) : Option (Nat × Nat) := fhA xs xs.length 0
def encB : Option (Nat × Nat) → Int32
  | none => -1
  | some p => nI p.1
def encE : Option (Nat × Nat) → Int32
  | none => -1
  | some p => nI p.2
def isHnd (G : GG) (h : HP) (a : Nat) (b e : Int32) : Prop := h a = some (.inr (0, [.ref (a + 1), .int b, .int e])) ∧ ∃ f : Nat → Int32, h (a + 1) = some (.inl (G.2.1 0, 4, .inl f))
theorem isHnd.ob {G : GG} {h : HP} {a : Nat} {b e : Int32} (w : isHnd G h a b e) : h a = some (.inr (0, [.ref (a + 1), .int b, .int e])) := w.1
theorem isHnd.fr {G : GG} {h h' : HP} {a lo hi : Nat} {b e : Int32} (w : isHnd G h a b e) (k : fr lo hi h h') (hd : a + 2 ≤ lo ∨ hi ≤ a) : isHnd G h' a b e := by
  obtain ⟨h1, f, h2⟩ := w
  exact ⟨(k _ (by omega)).trans h1, f, (k _ (by omega)).trans h2⟩
set_option maxRecDepth 20000 in
theorem sp_X0_forget {G : GG} {h : HP} {a : Nat} {b e : Int32} (w : isHnd G h a b e) (n : Nat) : Sp G mm_X0_forget 0 0 0 [.ref a] h n (fun v h' _ => v = none ∧ fr a (a + 2) h h' ∧ h' a = some (.inr (0, [.ref (a + 1), .int (-1), .int (-1)])) ∧ ∃ f : Nat → Int32, h' (a + 1) = some (.inl (G.2.1 0, 4, .inl f)) ∧ ∀ j, j < 4 → f j = -1) := by
  refine Sp_of (by decide +kernel) (Nat.le_of_ble_eq_true rfl) ?_
  obtain ⟨h1, f0, h2⟩ := w
  have loop : ∀ (j p : Nat) (hh : HP) (n1 : Nat) (f : Nat → Int32), 4 - p = j → p ≤ 4 → hh a = some (.inr (0, [.ref (a + 1), .int (-1), .int (-1)])) → hh (a + 1) = some (.inl (G.2.1 0, 4, .inl f)) → (∀ i, i < p → f i = -1) → fr a (a + 2) h hh → J (g0 G) mm_X0_forget 0 12 [(0, .ref a), (1, .int (nI p))] [] hh n1 0 0 (RT mm_X0_forget (fun v h' _ => v = none ∧ fr a (a + 2) h h' ∧ h' a = some (.inr (0, [.ref (a + 1), .int (-1), .int (-1)])) ∧ ∃ f : Nat → Int32, h' (a + 1) = some (.inl (G.2.1 0, 4, .inl f)) ∧ ∀ j, j < 4 → f j = -1)) := by
    intro j
    induction j using Nat.strongRecOn with
    | _ j ih =>
      intro p hh n1 f hj hp g1 g2 g3 hf
      refine J_iload_n dX0_forget_12 (by rfl) ?_
      refine J_iconst (v := nI 3) dX0_forget_13 (by decide) ?_
      refine J_icmp_gt (tgt := 30) dX0_forget_14 (by decide) (fun c14 => ?_) (fun c14 => ?_)
      · rw [nI_ltI (by omega) (by omega)] at c14
        exact J_return dX0_forget_30 rfl (⟨rfl, hf, g1, f, g2, fun j hj => g3 j (by omega)⟩)
      · rw [nI_ltI (by omega) (by omega)] at c14
        refine J_aload_n dX0_forget_17 (by rfl) ?_
        refine J_get fg_X0_9 dX0_forget_18 (by first | assumption | exact isRow.ob (by assumption) | exact isHnd.ob (by assumption) | exact hset_s | exact (hset_n (by first | assumption | omega)).trans (by first | assumption | exact isRow.ob (by assumption) | exact isHnd.ob (by assumption) | exact hset_s | exact (hset_n (by first | assumption | omega)).trans (by first | assumption | exact isRow.ob (by assumption) | exact isHnd.ob (by assumption) | exact hset_s | exact (hset_n (by first | assumption | omega)).trans (by first | assumption | exact isRow.ob (by assumption) | exact isHnd.ob (by assumption))))) (by rfl) ?_
        refine J_iload_n dX0_forget_21 (by rfl) ?_
        refine J_iconst (v := (-1)) dX0_forget_22 (by decide) ?_
        refine J_iast dX0_forget_23 (by first | assumption | exact isRow.ob (by assumption) | exact isHnd.ob (by assumption) | exact hset_s | exact (hset_n (by first | assumption | omega)).trans (by first | assumption | exact isRow.ob (by assumption) | exact isHnd.ob (by assumption) | exact hset_s | exact (hset_n (by first | assumption | omega)).trans (by first | assumption | exact isRow.ob (by assumption) | exact isHnd.ob (by assumption) | exact hset_s | exact (hset_n (by first | assumption | omega)).trans (by first | assumption | exact isRow.ob (by assumption) | exact isHnd.ob (by assumption))))) (vp_in_nI (by omega) (by omega)) ?_
        refine J_iincN dX0_forget_24 (by rfl) (by decide) (by rfl) ?_
        refine J_goto (tgt := 12) dX0_forget_27 (by decide) ?_
        exact J_sub (by repeat (first | exact subl_nil | refine subl_cons rfl ?_)) (ih (4 - (p + 1)) (by omega) (p + 1) _ _ _ rfl (by omega) ((hset_n (by omega)).trans g1) hset_s (fun i hi => by
          rw [nI_clamp (by omega)]
          unfold upd
          by_cases ei : i = p
          · rw [if_pos ei]
          · rw [if_neg ei]; exact g3 i (by omega)) (fr_tr hf (fr_set (by omega) (by omega))))
  refine J_aload_n dX0_forget_0 (by rfl) ?_
  refine J_iconst (v := (-1)) dX0_forget_1 (by decide) ?_
  refine J_put fp_X0_15 dX0_forget_2 (by first | assumption | exact isRow.ob (by assumption) | exact isHnd.ob (by assumption) | exact hset_s | exact (hset_n (by first | assumption | omega)).trans (by first | assumption | exact isRow.ob (by assumption) | exact isHnd.ob (by assumption) | exact hset_s | exact (hset_n (by first | assumption | omega)).trans (by first | assumption | exact isRow.ob (by assumption) | exact isHnd.ob (by assumption) | exact hset_s | exact (hset_n (by first | assumption | omega)).trans (by first | assumption | exact isRow.ob (by assumption) | exact isHnd.ob (by assumption))))) (Nat.le_of_ble_eq_true rfl) (by rfl) (by rfl) ?_
  refine J_aload_n dX0_forget_5 (by rfl) ?_
  refine J_iconst (v := (-1)) dX0_forget_6 (by decide) ?_
  refine J_put fp_X0_19 dX0_forget_7 (by first | assumption | exact isRow.ob (by assumption) | exact isHnd.ob (by assumption) | exact hset_s | exact (hset_n (by first | assumption | omega)).trans (by first | assumption | exact isRow.ob (by assumption) | exact isHnd.ob (by assumption) | exact hset_s | exact (hset_n (by first | assumption | omega)).trans (by first | assumption | exact isRow.ob (by assumption) | exact isHnd.ob (by assumption) | exact hset_s | exact (hset_n (by first | assumption | omega)).trans (by first | assumption | exact isRow.ob (by assumption) | exact isHnd.ob (by assumption))))) (Nat.le_of_ble_eq_true rfl) (by rfl) (by rfl) ?_
  refine J_iconst (v := 0) dX0_forget_10 (by decide) ?_
  refine J_istore_n dX0_forget_11 (by decide) (by rfl) ?_
  exact J_sub (by repeat (first | exact subl_nil | refine subl_cons rfl ?_)) (loop _ 0 _ _ f0 rfl (by omega) (hset_s.trans rfl) ((hset_n (by omega)).trans ((hset_n (by omega)).trans h2)) (fun i hi => absurd hi (by omega)) (fr_tr (fr_set (by omega) (by omega)) (fr_set (by omega) (by omega))))
theorem enc_neg {xs : List Int32} {j q : Nat} (hq : q < 2 ^ 31) : enc (lst xs j q) = -1 ↔ lst xs j q = none := by
  cases e : lst xs j q with
  | none => simp [enc]
  | some t =>
    have := lst_lt e
    simp only [enc]
    constructor
    · intro q0
      have h1 := nI_toInt (n := t) (by omega)
      rw [q0] at h1
      have h2 : (-1 : Int32).toInt = -1 := by decide
      omega
    · intro q0; cases q0
theorem enc_lt {xs : List Int32} {j q p : Nat} (hq : q < 2 ^ 31) (hp : p < 2 ^ 31) : enc (lst xs j q) < nI p ↔ (lst xs j q).all (fun t => decide (t < p)) = true := by
  cases e : lst xs j q with
  | none =>
    simp only [enc, Option.all_none, iff_true]
    rw [Int32.lt_iff_toInt_lt, nI_toInt hp]
    have h2 : (-1 : Int32).toInt = -1 := by decide
    omega
  | some t =>
    have := lst_lt e
    simp only [enc, Option.all_some, decide_eq_true_eq]
    exact nI_ltI (by omega) hp
set_option maxRecDepth 20000 in
theorem sp_X0_findIn {G : GG} {h : HP} {a r cap : Nat} {b e : Int32} {xs : List Int32} (v : isHnd G h a b e) (w : isRow G h r cap xs) (hd : a + 2 ≤ r ∨ r + 2 ≤ a) (hx : allX xs) (n : Nat) : Sp G mm_X0_findIn 1 0 0 [.ref a, .ref r] h n (fun v h' _ => v = some (.int (if (fh xs).isSome then 1 else 0)) ∧ isHnd G h' a (encB (fh xs)) (encE (fh xs)) ∧ fr a (a + 2) h h') := by
  refine Sp_of (by decide +kernel) (Nat.le_of_ble_eq_true rfl) ?_
  have hle := w.le
  have loop : ∀ (j q : Nat) (hh : HP) (n1 : Nat) (f : Nat → Int32) (lv : LV), q + j = xs.length → hh a = some (.inr (0, [.ref (a + 1), .int (-1), .int (-1)])) → hh (a + 1) = some (.inl (G.2.1 0, 4, .inl f)) → (∀ i, i < 4 → f i = enc (lst xs i q)) → fhA xs j q = fh xs → fr a (a + 2) h hh → J (g0 G) mm_X0_findIn 1 6 [(0, .ref a), (1, .ref r), (2, .int (nI q))] [] hh n1 0 0 (RT mm_X0_findIn (fun v h' _ => v = some (.int (if (fh xs).isSome then 1 else 0)) ∧ isHnd G h' a (encB (fh xs)) (encE (fh xs)) ∧ fr a (a + 2) h h')) := by
    intro j
    induction j with
    | zero =>
      intro q hh n1 f lv hj g1 g2 g3 g4 hf
      have wr := w.fr hf (by omega)
      obtain ⟨f2, o1, o2, o3, o4, o5⟩ := id wr
      refine J_iload_n dX0_findIn_6 (by rfl) ?_
      refine J_aload_n dX0_findIn_7 (by rfl) ?_
      refine J_get fg_X0_25 dX0_findIn_8 (by first | assumption | exact isRow.ob (by assumption) | exact isHnd.ob (by assumption) | exact hset_s | exact (hset_n (by first | assumption | omega)).trans (by first | assumption | exact isRow.ob (by assumption) | exact isHnd.ob (by assumption) | exact hset_s | exact (hset_n (by first | assumption | omega)).trans (by first | assumption | exact isRow.ob (by assumption) | exact isHnd.ob (by assumption) | exact hset_s | exact (hset_n (by first | assumption | omega)).trans (by first | assumption | exact isRow.ob (by assumption) | exact isHnd.ob (by assumption))))) (by rfl) ?_
      refine J_icmp_ge (tgt := 108) dX0_findIn_11 (by decide) (fun c11 => ?_) (fun c11 => ?_)
      · rw [nI_leI (by omega) (by omega)] at c11
        refine J_iconst (v := 0) dX0_findIn_108 (by decide) ?_
        exact J_ireturn dX0_findIn_109 rfl (by rfl) (⟨by rw [← g4]; rfl, by rw [← g4]; exact ⟨g1, f, g2⟩, hf⟩)
      · rw [nI_leI (by omega) (by omega)] at c11
        exact absurd (show xs.length ≤ q by omega) c11
    | succ j ih =>
      intro q hh n1 f lv hj g1 g2 g3 g4 hf
      have wr := w.fr hf (by omega)
      obtain ⟨f2, o1, o2, o3, o4, o5⟩ := id wr
      have hxq := hx q (by omega)
      obtain ⟨R, hR1, hR2, hR3⟩ : ∃ R : Nat, 1 ≤ R ∧ R ≤ 3 ∧ rk (xs.getD q 0) = nI R := by
        rcases hxq.rk with e | e | e
        · exact ⟨1, by omega, by omega, e⟩
        · exact ⟨2, by omega, by omega, e⟩
        · exact ⟨3, by omega, by omega, e⟩
      have hcl : (rk (xs.getD q 0)).toNatClampNeg = R := by rw [hR3, nI_clamp (by omega)]
      have nope : hb xs q = none → fhA xs j (q + 1) = fh xs := fun e => by rw [← g4, fhA, e]
      have yep : ∀ p, hb xs q = some p → fh xs = some (p, q) := fun p e => by rw [← g4, fhA, e]
      have step : ∀ i, i < 4 → upd f R (nI q) i = enc (lst xs i (q + 1)) := fun i hi => by
        unfold upd lst
        by_cases ei : i = R
        · subst ei; rw [if_pos rfl, if_pos hR3]; rfl
        · rw [if_neg ei, if_neg (fun q0 => ei ((nI_eq (by omega) (by omega)).mp (q0.symm.trans hR3))), g3 i hi]
      refine J_iload_n dX0_findIn_6 (by rfl) ?_
      refine J_aload_n dX0_findIn_7 (by rfl) ?_
      refine J_get fg_X0_25 dX0_findIn_8 (by first | assumption | exact isRow.ob (by assumption) | exact isHnd.ob (by assumption) | exact hset_s | exact (hset_n (by first | assumption | omega)).trans (by first | assumption | exact isRow.ob (by assumption) | exact isHnd.ob (by assumption) | exact hset_s | exact (hset_n (by first | assumption | omega)).trans (by first | assumption | exact isRow.ob (by assumption) | exact isHnd.ob (by assumption) | exact hset_s | exact (hset_n (by first | assumption | omega)).trans (by first | assumption | exact isRow.ob (by assumption) | exact isHnd.ob (by assumption))))) (by rfl) ?_
      refine J_icmp_ge (tgt := 108) dX0_findIn_11 (by decide) (fun c11 => ?_) (fun c11 => ?_)
      · rw [nI_leI (by omega) (by omega)] at c11
        exact absurd c11 (by omega)
      · rw [nI_leI (by omega) (by omega)] at c11
        refine J_aload_n dX0_findIn_14 (by rfl) ?_
        refine J_iload_n dX0_findIn_15 (by rfl) ?_
        refine J_callV mf_X5_at lk_X0_30 mi_X5_at mv_X5_at (sp_X5_at wr (k := q) (by omega) _) dX0_findIn_16 (by first | assumption | exact isRow.ob (by assumption) | exact isHnd.ob (by assumption) | exact hset_s | exact (hset_n (by first | assumption | omega)).trans (by first | assumption | exact isRow.ob (by assumption) | exact isHnd.ob (by assumption) | exact hset_s | exact (hset_n (by first | assumption | omega)).trans (by first | assumption | exact isRow.ob (by assumption) | exact isHnd.ob (by assumption) | exact hset_s | exact (hset_n (by first | assumption | omega)).trans (by first | assumption | exact isRow.ob (by assumption) | exact isHnd.ob (by assumption))))) rfl rfl (by decide) (by rfl) rfl (Nat.le_of_ble_eq_true rfl) (Nat.zero_add _) (Nat.zero_add _) (fun v16 h16 n16 q16 => ?_)
        obtain ⟨rfl, rfl⟩ := q16
        refine J_istore_n dX0_findIn_19 (by decide) (by rfl) ?_
        refine J_iload_n dX0_findIn_20 (by rfl) ?_
        refine J_callS mf_X9_rankOf lk_X0_34 ms_X9_rankOf (sp_X9_rankOf _ (xs.getD q 0) _) dX0_findIn_21 (by decide) (by rfl) rfl (Nat.le_of_ble_eq_true rfl) (Nat.zero_add _) (Nat.zero_add _) (fun v21 h21 n21 q21 => ?_)
        obtain ⟨rfl, rfl⟩ := q21
        rw [hR3]
        refine J_istore dX0_findIn_24 (by decide) (by rfl) ?_
        refine J_iload dX0_findIn_26 (by rfl) ?_
        refine J_iconst (v := 1) dX0_findIn_28 (by decide) ?_
        refine J_icmp_lt (tgt := 102) dX0_findIn_29 (by decide) (fun c29 => ?_) (fun c29 => ?_)
        · exact absurd ((nI_ltI (b := 1) (by omega) (by omega)).mp c29) (by omega)
        · refine J_iload dX0_findIn_32 (by rfl) ?_
          refine J_iconst (v := 3) dX0_findIn_34 (by decide) ?_
          refine J_icmp_le (tgt := 41) dX0_findIn_35 (by decide) (fun c35 => ?_) (fun c35 => ?_)
          · refine J_aload_n dX0_findIn_41 (by rfl) ?_
            refine J_get fg_X0_9 dX0_findIn_42 (by first | assumption | exact isRow.ob (by assumption) | exact isHnd.ob (by assumption) | exact hset_s | exact (hset_n (by first | assumption | omega)).trans (by first | assumption | exact isRow.ob (by assumption) | exact isHnd.ob (by assumption) | exact hset_s | exact (hset_n (by first | assumption | omega)).trans (by first | assumption | exact isRow.ob (by assumption) | exact isHnd.ob (by assumption) | exact hset_s | exact (hset_n (by first | assumption | omega)).trans (by first | assumption | exact isRow.ob (by assumption) | exact isHnd.ob (by assumption))))) (by rfl) ?_
            refine J_iload dX0_findIn_45 (by rfl) ?_
            refine J_iald dX0_findIn_47 (by first | assumption | exact isRow.ob (by assumption) | exact isHnd.ob (by assumption) | exact hset_s | exact (hset_n (by first | assumption | omega)).trans (by first | assumption | exact isRow.ob (by assumption) | exact isHnd.ob (by assumption) | exact hset_s | exact (hset_n (by first | assumption | omega)).trans (by first | assumption | exact isRow.ob (by assumption) | exact isHnd.ob (by assumption) | exact hset_s | exact (hset_n (by first | assumption | omega)).trans (by first | assumption | exact isRow.ob (by assumption) | exact isHnd.ob (by assumption))))) (vp_in_nI (by omega) (by omega)) ?_
            rw [nI_clamp (by omega), g3 R (by omega)]
            refine J_istore dX0_findIn_48 (by decide) (by rfl) ?_
            refine J_iload dX0_findIn_50 (by rfl) ?_
            refine J_iconst (v := (-1)) dX0_findIn_52 (by decide) ?_
            refine J_icmp_eq (tgt := 94) dX0_findIn_53 (by decide) (fun c53 => ?_) (fun c53 => ?_)
            · have hno : hb xs q = none := by
                first
                  | (rw [hb, hcl, (enc_neg (by omega)).mp c53])
                  | (rw [hb, hcl, hp]; exact if_neg (fun q0 => c64 q0.1))
                  | (rw [hb, hcl, hp]; exact if_neg (fun q0 => Int32.not_lt.mpr c78 ((enc_lt (by omega) (by omega)).mpr q0.2)))
              refine J_aload_n dX0_findIn_94 (by rfl) ?_
              refine J_get fg_X0_9 dX0_findIn_95 (by first | assumption | exact isRow.ob (by assumption) | exact isHnd.ob (by assumption) | exact hset_s | exact (hset_n (by first | assumption | omega)).trans (by first | assumption | exact isRow.ob (by assumption) | exact isHnd.ob (by assumption) | exact hset_s | exact (hset_n (by first | assumption | omega)).trans (by first | assumption | exact isRow.ob (by assumption) | exact isHnd.ob (by assumption) | exact hset_s | exact (hset_n (by first | assumption | omega)).trans (by first | assumption | exact isRow.ob (by assumption) | exact isHnd.ob (by assumption))))) (by rfl) ?_
              refine J_iload dX0_findIn_98 (by rfl) ?_
              refine J_iload_n dX0_findIn_100 (by rfl) ?_
              refine J_iast dX0_findIn_101 (by first | assumption | exact isRow.ob (by assumption) | exact isHnd.ob (by assumption) | exact hset_s | exact (hset_n (by first | assumption | omega)).trans (by first | assumption | exact isRow.ob (by assumption) | exact isHnd.ob (by assumption) | exact hset_s | exact (hset_n (by first | assumption | omega)).trans (by first | assumption | exact isRow.ob (by assumption) | exact isHnd.ob (by assumption) | exact hset_s | exact (hset_n (by first | assumption | omega)).trans (by first | assumption | exact isRow.ob (by assumption) | exact isHnd.ob (by assumption))))) (vp_in_nI (by omega) (by omega)) ?_
              rw [nI_clamp (by omega)]
              refine J_iincN dX0_findIn_102 (by rfl) (by decide) (by rfl) ?_
              refine J_goto (tgt := 6) dX0_findIn_105 (by decide) ?_
              exact J_sub (by repeat (first | exact subl_nil | refine subl_cons rfl ?_)) (ih (q + 1) _ _ _ [] (by omega) ((hset_n (by omega)).trans g1) hset_s step (nope hno) (fr_tr hf (fr_set (by omega) (by omega))))
            · obtain ⟨p, hp⟩ : ∃ p, lst xs R q = some p := by
                cases e0 : lst xs R q with
                | none => rw [e0] at c53; exact absurd rfl c53
                | some p => exact ⟨p, rfl⟩
              have hpq := lst_lt hp
              refine J_sub (l2 := [(0, .ref a), (1, .ref r), (2, .int (nI q)), (3, .int (xs.getD q 0)), (4, .int (nI R)), (5, .int (nI p))]) (subl_cons rfl (subl_cons rfl (subl_cons rfl (subl_cons rfl (subl_cons rfl (subl_cons (by show some (Value.int _) = some (Value.int _); rw [hp]; rfl) subl_nil)))))) ?_
              refine J_aload_n dX0_findIn_56 (by rfl) ?_
              refine J_iload dX0_findIn_57 (by rfl) ?_
              refine J_callV mf_X5_at lk_X0_30 mi_X5_at mv_X5_at (sp_X5_at wr (k := p) (by omega) _) dX0_findIn_59 (by first | assumption | exact isRow.ob (by assumption) | exact isHnd.ob (by assumption) | exact hset_s | exact (hset_n (by first | assumption | omega)).trans (by first | assumption | exact isRow.ob (by assumption) | exact isHnd.ob (by assumption) | exact hset_s | exact (hset_n (by first | assumption | omega)).trans (by first | assumption | exact isRow.ob (by assumption) | exact isHnd.ob (by assumption) | exact hset_s | exact (hset_n (by first | assumption | omega)).trans (by first | assumption | exact isRow.ob (by assumption) | exact isHnd.ob (by assumption))))) rfl rfl (by decide) (by rfl) rfl (Nat.le_of_ble_eq_true rfl) (Nat.zero_add _) (Nat.zero_add _) (fun v59 h59 n59 q59 => ?_)
              obtain ⟨rfl, rfl⟩ := q59
              refine J_iload_n dX0_findIn_62 (by rfl) ?_
              refine J_ineg dX0_findIn_63 ?_
              refine J_icmp_ne (tgt := 94) dX0_findIn_64 (by decide) (fun c64 => ?_) (fun c64 => ?_)
              · have hno : hb xs q = none := by
                  first
                    | (rw [hb, hcl, (enc_neg (by omega)).mp c53])
                    | (rw [hb, hcl, hp]; exact if_neg (fun q0 => c64 q0.1))
                    | (rw [hb, hcl, hp]; exact if_neg (fun q0 => Int32.not_lt.mpr c78 ((enc_lt (by omega) (by omega)).mpr q0.2)))
                refine J_aload_n dX0_findIn_94 (by rfl) ?_
                refine J_get fg_X0_9 dX0_findIn_95 (by first | assumption | exact isRow.ob (by assumption) | exact isHnd.ob (by assumption) | exact hset_s | exact (hset_n (by first | assumption | omega)).trans (by first | assumption | exact isRow.ob (by assumption) | exact isHnd.ob (by assumption) | exact hset_s | exact (hset_n (by first | assumption | omega)).trans (by first | assumption | exact isRow.ob (by assumption) | exact isHnd.ob (by assumption) | exact hset_s | exact (hset_n (by first | assumption | omega)).trans (by first | assumption | exact isRow.ob (by assumption) | exact isHnd.ob (by assumption))))) (by rfl) ?_
                refine J_iload dX0_findIn_98 (by rfl) ?_
                refine J_iload_n dX0_findIn_100 (by rfl) ?_
                refine J_iast dX0_findIn_101 (by first | assumption | exact isRow.ob (by assumption) | exact isHnd.ob (by assumption) | exact hset_s | exact (hset_n (by first | assumption | omega)).trans (by first | assumption | exact isRow.ob (by assumption) | exact isHnd.ob (by assumption) | exact hset_s | exact (hset_n (by first | assumption | omega)).trans (by first | assumption | exact isRow.ob (by assumption) | exact isHnd.ob (by assumption) | exact hset_s | exact (hset_n (by first | assumption | omega)).trans (by first | assumption | exact isRow.ob (by assumption) | exact isHnd.ob (by assumption))))) (vp_in_nI (by omega) (by omega)) ?_
                rw [nI_clamp (by omega)]
                refine J_iincN dX0_findIn_102 (by rfl) (by decide) (by rfl) ?_
                refine J_goto (tgt := 6) dX0_findIn_105 (by decide) ?_
                exact J_sub (by repeat (first | exact subl_nil | refine subl_cons rfl ?_)) (ih (q + 1) _ _ _ [] (by omega) ((hset_n (by omega)).trans g1) hset_s step (nope hno) (fr_tr hf (fr_set (by omega) (by omega))))
              · refine J_aload_n dX0_findIn_67 (by rfl) ?_
                refine J_get fg_X0_9 dX0_findIn_68 (by first | assumption | exact isRow.ob (by assumption) | exact isHnd.ob (by assumption) | exact hset_s | exact (hset_n (by first | assumption | omega)).trans (by first | assumption | exact isRow.ob (by assumption) | exact isHnd.ob (by assumption) | exact hset_s | exact (hset_n (by first | assumption | omega)).trans (by first | assumption | exact isRow.ob (by assumption) | exact isHnd.ob (by assumption) | exact hset_s | exact (hset_n (by first | assumption | omega)).trans (by first | assumption | exact isRow.ob (by assumption) | exact isHnd.ob (by assumption))))) (by rfl) ?_
                refine J_iload dX0_findIn_71 (by rfl) ?_
                refine J_iconst (v := 1) dX0_findIn_73 (by decide) ?_
                refine J_isub dX0_findIn_74 ?_
                rw [show nI R - 1 = nI (R - 1) from pk_sub (a := R) (b := 1) (by omega)]
                refine J_iald dX0_findIn_75 (by first | assumption | exact isRow.ob (by assumption) | exact isHnd.ob (by assumption) | exact hset_s | exact (hset_n (by first | assumption | omega)).trans (by first | assumption | exact isRow.ob (by assumption) | exact isHnd.ob (by assumption) | exact hset_s | exact (hset_n (by first | assumption | omega)).trans (by first | assumption | exact isRow.ob (by assumption) | exact isHnd.ob (by assumption) | exact hset_s | exact (hset_n (by first | assumption | omega)).trans (by first | assumption | exact isRow.ob (by assumption) | exact isHnd.ob (by assumption))))) (vp_in_nI (by omega) (by omega)) ?_
                rw [nI_clamp (by omega), g3 (R - 1) (by omega)]
                refine J_iload dX0_findIn_76 (by rfl) ?_
                refine J_icmp_ge (tgt := 94) dX0_findIn_78 (by decide) (fun c78 => ?_) (fun c78 => ?_)
                · have hno : hb xs q = none := by
                    first
                      | (rw [hb, hcl, (enc_neg (by omega)).mp c53])
                      | (rw [hb, hcl, hp]; exact if_neg (fun q0 => c64 q0.1))
                      | (rw [hb, hcl, hp]; exact if_neg (fun q0 => Int32.not_lt.mpr c78 ((enc_lt (by omega) (by omega)).mpr q0.2)))
                  refine J_aload_n dX0_findIn_94 (by rfl) ?_
                  refine J_get fg_X0_9 dX0_findIn_95 (by first | assumption | exact isRow.ob (by assumption) | exact isHnd.ob (by assumption) | exact hset_s | exact (hset_n (by first | assumption | omega)).trans (by first | assumption | exact isRow.ob (by assumption) | exact isHnd.ob (by assumption) | exact hset_s | exact (hset_n (by first | assumption | omega)).trans (by first | assumption | exact isRow.ob (by assumption) | exact isHnd.ob (by assumption) | exact hset_s | exact (hset_n (by first | assumption | omega)).trans (by first | assumption | exact isRow.ob (by assumption) | exact isHnd.ob (by assumption))))) (by rfl) ?_
                  refine J_iload dX0_findIn_98 (by rfl) ?_
                  refine J_iload_n dX0_findIn_100 (by rfl) ?_
                  refine J_iast dX0_findIn_101 (by first | assumption | exact isRow.ob (by assumption) | exact isHnd.ob (by assumption) | exact hset_s | exact (hset_n (by first | assumption | omega)).trans (by first | assumption | exact isRow.ob (by assumption) | exact isHnd.ob (by assumption) | exact hset_s | exact (hset_n (by first | assumption | omega)).trans (by first | assumption | exact isRow.ob (by assumption) | exact isHnd.ob (by assumption) | exact hset_s | exact (hset_n (by first | assumption | omega)).trans (by first | assumption | exact isRow.ob (by assumption) | exact isHnd.ob (by assumption))))) (vp_in_nI (by omega) (by omega)) ?_
                  rw [nI_clamp (by omega)]
                  refine J_iincN dX0_findIn_102 (by rfl) (by decide) (by rfl) ?_
                  refine J_goto (tgt := 6) dX0_findIn_105 (by decide) ?_
                  exact J_sub (by repeat (first | exact subl_nil | refine subl_cons rfl ?_)) (ih (q + 1) _ _ _ [] (by omega) ((hset_n (by omega)).trans g1) hset_s step (nope hno) (fr_tr hf (fr_set (by omega) (by omega))))
                · have hyes : hb xs q = some p := by
                    rw [hb, hcl, hp]
                    show (if _ then some p else none) = some p
                    rw [if_pos ⟨c64, (enc_lt (by omega) (by omega)).mp (Int32.not_le.mp c78)⟩]
                  refine J_aload_n dX0_findIn_81 (by rfl) ?_
                  refine J_iload dX0_findIn_82 (by rfl) ?_
                  refine J_put fp_X0_15 dX0_findIn_84 (by first | assumption | exact isRow.ob (by assumption) | exact isHnd.ob (by assumption) | exact hset_s | exact (hset_n (by first | assumption | omega)).trans (by first | assumption | exact isRow.ob (by assumption) | exact isHnd.ob (by assumption) | exact hset_s | exact (hset_n (by first | assumption | omega)).trans (by first | assumption | exact isRow.ob (by assumption) | exact isHnd.ob (by assumption) | exact hset_s | exact (hset_n (by first | assumption | omega)).trans (by first | assumption | exact isRow.ob (by assumption) | exact isHnd.ob (by assumption))))) (Nat.le_of_ble_eq_true rfl) (by rfl) (by rfl) ?_
                  refine J_aload_n dX0_findIn_87 (by rfl) ?_
                  refine J_iload_n dX0_findIn_88 (by rfl) ?_
                  refine J_put fp_X0_19 dX0_findIn_89 (by first | assumption | exact isRow.ob (by assumption) | exact isHnd.ob (by assumption) | exact hset_s | exact (hset_n (by first | assumption | omega)).trans (by first | assumption | exact isRow.ob (by assumption) | exact isHnd.ob (by assumption) | exact hset_s | exact (hset_n (by first | assumption | omega)).trans (by first | assumption | exact isRow.ob (by assumption) | exact isHnd.ob (by assumption) | exact hset_s | exact (hset_n (by first | assumption | omega)).trans (by first | assumption | exact isRow.ob (by assumption) | exact isHnd.ob (by assumption))))) (Nat.le_of_ble_eq_true rfl) (by rfl) (by rfl) ?_
                  refine J_iconst (v := 1) dX0_findIn_92 (by decide) ?_
                  exact J_ireturn dX0_findIn_93 rfl (by rfl) (⟨by rw [yep p hyes]; rfl, by rw [yep p hyes]; exact ⟨hset_s.trans rfl, f, (hset_n (by omega)).trans ((hset_n (by omega)).trans g2)⟩, fr_tr hf (fr_tr (fr_set (by omega) (by omega)) (fr_set (by omega) (by omega)))⟩)
          · exact absurd ((nI_leI (b := 3) (by omega) (by omega)).mpr (by omega)) c35
  refine J_aload_n dX0_findIn_0 (by rfl) ?_
  refine J_callV mf_X0_forget lk_X0_22 mi_X0_forget mv_X0_forget (sp_X0_forget v n) dX0_findIn_1 (by first | assumption | exact isRow.ob (by assumption) | exact isHnd.ob (by assumption) | exact hset_s | exact (hset_n (by first | assumption | omega)).trans (by first | assumption | exact isRow.ob (by assumption) | exact isHnd.ob (by assumption) | exact hset_s | exact (hset_n (by first | assumption | omega)).trans (by first | assumption | exact isRow.ob (by assumption) | exact isHnd.ob (by assumption) | exact hset_s | exact (hset_n (by first | assumption | omega)).trans (by first | assumption | exact isRow.ob (by assumption) | exact isHnd.ob (by assumption))))) rfl rfl (by decide) (by rfl) rfl (Nat.le_of_ble_eq_true rfl) (Nat.zero_add _) (Nat.zero_add _) (fun v1 h1 n1 q1 => ?_)
  obtain ⟨rfl, f1, g1, f, g2, g3⟩ := q1
  refine J_iconst (v := 0) dX0_findIn_4 (by decide) ?_
  refine J_istore_n dX0_findIn_5 (by decide) (by rfl) ?_
  exact J_sub (by repeat (first | exact subl_nil | refine subl_cons rfl ?_)) (loop xs.length 0 _ _ f [] (by omega) g1 g2 (fun i hi => by rw [g3 i hi]; rfl) rfl f1)
